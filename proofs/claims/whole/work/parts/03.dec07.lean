theorem dX9_take_0 : decode cX9_take 0 = .ok (.aload_n 0, 1) := by decide +kernel
theorem dX9_take_1 : decode cX9_take 1 = .ok (.iload_n 1, 1) := by decide +kernel
theorem dX9_take_2 : decode cX9_take 2 = .ok (.invokevirtual 272, 3) := by decide +kernel
theorem dX9_take_5 : decode cX9_take 5 = .ok (.ifCond .ne 6, 3) := by decide +kernel
theorem dX9_take_8 : decode cX9_take 8 = .ok (.bipush (-101), 2) := by decide +kernel
theorem dX9_take_10 : decode cX9_take 10 = .ok (.ireturn, 1) := by decide +kernel
theorem dX9_take_11 : decode cX9_take 11 = .ok (.iload_n 1, 1) := by decide +kernel
theorem dX9_take_12 : decode cX9_take 12 = .ok (.iconst 1, 1) := by decide +kernel
theorem dX9_take_13 : decode cX9_take 13 = .ok (.iadd, 1) := by decide +kernel
theorem dX9_take_14 : decode cX9_take 14 = .ok (.aload_n 0, 1) := by decide +kernel
theorem dX9_take_15 : decode cX9_take 15 = .ok (.getfield 126, 3) := by decide +kernel
theorem dX9_take_18 : decode cX9_take 18 = .ok (.if_icmp .ge 29, 3) := by decide +kernel
theorem dX9_take_21 : decode cX9_take 21 = .ok (.aload_n 0, 1) := by decide +kernel
theorem dX9_take_22 : decode cX9_take 22 = .ok (.iload_n 1, 1) := by decide +kernel
theorem dX9_take_23 : decode cX9_take 23 = .ok (.iconst 1, 1) := by decide +kernel
theorem dX9_take_24 : decode cX9_take 24 = .ok (.iadd, 1) := by decide +kernel
theorem dX9_take_25 : decode cX9_take 25 = .ok (.invokevirtual 146, 3) := by decide +kernel
theorem dX9_take_28 : decode cX9_take 28 = .ok (.iconst 4, 1) := by decide +kernel
theorem dX9_take_29 : decode cX9_take 29 = .ok (.if_icmp .ne 18, 3) := by decide +kernel
theorem dX9_take_32 : decode cX9_take 32 = .ok (.aload_n 0, 1) := by decide +kernel
theorem dX9_take_33 : decode cX9_take 33 = .ok (.iload_n 1, 1) := by decide +kernel
theorem dX9_take_34 : decode cX9_take 34 = .ok (.iconst 1, 1) := by decide +kernel
theorem dX9_take_35 : decode cX9_take 35 = .ok (.iadd, 1) := by decide +kernel
theorem dX9_take_36 : decode cX9_take 36 = .ok (.invokevirtual 149, 3) := by decide +kernel
theorem dX9_take_39 : decode cX9_take 39 = .ok (.iload_n 1, 1) := by decide +kernel
theorem dX9_take_40 : decode cX9_take 40 = .ok (.if_icmp .ne 7, 3) := by decide +kernel
theorem dX9_take_43 : decode cX9_take 43 = .ok (.iconst 1, 1) := by decide +kernel
theorem dX9_take_44 : decode cX9_take 44 = .ok (.goto 4, 3) := by decide +kernel
theorem dX9_take_47 : decode cX9_take 47 = .ok (.iconst 0, 1) := by decide +kernel
theorem dX9_take_48 : decode cX9_take 48 = .ok (.istore_n 2, 1) := by decide +kernel
theorem dX9_take_49 : decode cX9_take 49 = .ok (.aload_n 0, 1) := by decide +kernel
theorem dX9_take_50 : decode cX9_take 50 = .ok (.getfield 126, 3) := by decide +kernel
theorem dX9_take_53 : decode cX9_take 53 = .ok (.iconst 1, 1) := by decide +kernel
theorem dX9_take_54 : decode cX9_take 54 = .ok (.if_icmp .eq 7, 3) := by decide +kernel
theorem dX9_take_57 : decode cX9_take 57 = .ok (.iload_n 2, 1) := by decide +kernel
theorem dX9_take_58 : decode cX9_take 58 = .ok (.ifCond .eq 6, 3) := by decide +kernel
theorem dX9_take_61 : decode cX9_take 61 = .ok (.bipush (-103), 2) := by decide +kernel
theorem dX9_take_63 : decode cX9_take 63 = .ok (.ireturn, 1) := by decide +kernel
theorem dX9_take_64 : decode cX9_take 64 = .ok (.aload_n 0, 1) := by decide +kernel
theorem dX9_take_65 : decode cX9_take 65 = .ok (.dup, 1) := by decide +kernel
theorem dX9_take_66 : decode cX9_take 66 = .ok (.getfield 126, 3) := by decide +kernel
theorem dX9_take_69 : decode cX9_take 69 = .ok (.iconst 1, 1) := by decide +kernel
theorem dX9_take_70 : decode cX9_take 70 = .ok (.isub, 1) := by decide +kernel
theorem dX9_take_71 : decode cX9_take 71 = .ok (.putfield 126, 3) := by decide +kernel
theorem dX9_take_74 : decode cX9_take 74 = .ok (.iload_n 1, 1) := by decide +kernel
theorem dX9_take_75 : decode cX9_take 75 = .ok (.istore_n 3, 1) := by decide +kernel
theorem dX9_take_76 : decode cX9_take 76 = .ok (.iload_n 3, 1) := by decide +kernel
theorem dX9_take_77 : decode cX9_take 77 = .ok (.aload_n 0, 1) := by decide +kernel
theorem dX9_take_78 : decode cX9_take 78 = .ok (.getfield 126, 3) := by decide +kernel
theorem dX9_take_81 : decode cX9_take 81 = .ok (.if_icmp .ge 84, 3) := by decide +kernel
theorem dX9_take_84 : decode cX9_take 84 = .ok (.iconst 0, 1) := by decide +kernel
theorem dX9_take_85 : decode cX9_take 85 = .ok (.istore 4, 2) := by decide +kernel
theorem dX9_take_87 : decode cX9_take 87 = .ok (.iload 4, 2) := by decide +kernel
theorem dX9_take_89 : decode cX9_take 89 = .ok (.iconst 4, 1) := by decide +kernel
theorem dX9_take_90 : decode cX9_take 90 = .ok (.if_icmp .ge 33, 3) := by decide +kernel
theorem dX9_take_93 : decode cX9_take 93 = .ok (.aload_n 0, 1) := by decide +kernel
theorem dX9_take_94 : decode cX9_take 94 = .ok (.getfield 16, 3) := by decide +kernel
theorem dX9_take_97 : decode cX9_take 97 = .ok (.iconst 4, 1) := by decide +kernel
theorem dX9_take_98 : decode cX9_take 98 = .ok (.iload_n 3, 1) := by decide +kernel
theorem dX9_take_99 : decode cX9_take 99 = .ok (.imul, 1) := by decide +kernel
theorem dX9_take_100 : decode cX9_take 100 = .ok (.iload 4, 2) := by decide +kernel
theorem dX9_take_102 : decode cX9_take 102 = .ok (.iadd, 1) := by decide +kernel
theorem dX9_take_103 : decode cX9_take 103 = .ok (.aload_n 0, 1) := by decide +kernel
theorem dX9_take_104 : decode cX9_take 104 = .ok (.getfield 16, 3) := by decide +kernel
theorem dX9_take_107 : decode cX9_take 107 = .ok (.iconst 4, 1) := by decide +kernel
theorem dX9_take_108 : decode cX9_take 108 = .ok (.iload_n 3, 1) := by decide +kernel
theorem dX9_take_109 : decode cX9_take 109 = .ok (.imul, 1) := by decide +kernel
theorem dX9_take_110 : decode cX9_take 110 = .ok (.iconst 4, 1) := by decide +kernel
theorem dX9_take_111 : decode cX9_take 111 = .ok (.iadd, 1) := by decide +kernel
theorem dX9_take_112 : decode cX9_take 112 = .ok (.iload 4, 2) := by decide +kernel
theorem dX9_take_114 : decode cX9_take 114 = .ok (.iadd, 1) := by decide +kernel
theorem dX9_take_115 : decode cX9_take 115 = .ok (.iaload, 1) := by decide +kernel
theorem dX9_take_116 : decode cX9_take 116 = .ok (.iastore, 1) := by decide +kernel
theorem dX9_take_117 : decode cX9_take 117 = .ok (.iinc 4 1, 3) := by decide +kernel
theorem dX9_take_120 : decode cX9_take 120 = .ok (.goto (-33), 3) := by decide +kernel
theorem dX9_take_123 : decode cX9_take 123 = .ok (.aload_n 0, 1) := by decide +kernel
theorem dX9_take_124 : decode cX9_take 124 = .ok (.getfield 16, 3) := by decide +kernel
theorem dX9_take_127 : decode cX9_take 127 = .ok (.iconst 4, 1) := by decide +kernel
theorem dX9_take_128 : decode cX9_take 128 = .ok (.iload_n 3, 1) := by decide +kernel
theorem dX9_take_129 : decode cX9_take 129 = .ok (.imul, 1) := by decide +kernel
theorem dX9_take_130 : decode cX9_take 130 = .ok (.iconst 1, 1) := by decide +kernel
theorem dX9_take_131 : decode cX9_take 131 = .ok (.iadd, 1) := by decide +kernel
theorem dX9_take_132 : decode cX9_take 132 = .ok (.dup2, 1) := by decide +kernel
theorem dX9_take_133 : decode cX9_take 133 = .ok (.iaload, 1) := by decide +kernel
theorem dX9_take_134 : decode cX9_take 134 = .ok (.aload_n 0, 1) := by decide +kernel
theorem dX9_take_135 : decode cX9_take 135 = .ok (.iload_n 3, 1) := by decide +kernel
theorem dX9_take_136 : decode cX9_take 136 = .ok (.invokevirtual 146, 3) := by decide +kernel
theorem dX9_take_139 : decode cX9_take 139 = .ok (.iconst 4, 1) := by decide +kernel
theorem dX9_take_140 : decode cX9_take 140 = .ok (.if_icmp .ne 16, 3) := by decide +kernel
theorem dX9_take_143 : decode cX9_take 143 = .ok (.aload_n 0, 1) := by decide +kernel
theorem dX9_take_144 : decode cX9_take 144 = .ok (.iload_n 3, 1) := by decide +kernel
theorem dX9_take_145 : decode cX9_take 145 = .ok (.invokevirtual 149, 3) := by decide +kernel
theorem dX9_take_148 : decode cX9_take 148 = .ok (.iload_n 1, 1) := by decide +kernel
theorem dX9_take_149 : decode cX9_take 149 = .ok (.if_icmp .le 7, 3) := by decide +kernel
theorem dX9_take_152 : decode cX9_take 152 = .ok (.iconst 1, 1) := by decide +kernel
theorem dX9_take_153 : decode cX9_take 153 = .ok (.goto 4, 3) := by decide +kernel
theorem dX9_take_156 : decode cX9_take 156 = .ok (.iconst 0, 1) := by decide +kernel
theorem dX9_take_157 : decode cX9_take 157 = .ok (.isub, 1) := by decide +kernel
theorem dX9_take_158 : decode cX9_take 158 = .ok (.iastore, 1) := by decide +kernel
theorem dX9_take_159 : decode cX9_take 159 = .ok (.iinc 3 1, 3) := by decide +kernel
theorem dX9_take_162 : decode cX9_take 162 = .ok (.goto (-86), 3) := by decide +kernel
theorem dX9_take_165 : decode cX9_take 165 = .ok (.aload_n 0, 1) := by decide +kernel
theorem dX9_take_166 : decode cX9_take 166 = .ok (.invokevirtual 139, 3) := by decide +kernel
theorem dX9_take_169 : decode cX9_take 169 = .ok (.aload_n 0, 1) := by decide +kernel
theorem dX9_take_170 : decode cX9_take 170 = .ok (.getfield 126, 3) := by decide +kernel
theorem dX9_take_173 : decode cX9_take 173 = .ok (.ireturn, 1) := by decide +kernel
theorem dX9_by_0 : decode cX9_by 0 = .ok (.aload_n 0, 1) := by decide +kernel
theorem dX9_by_1 : decode cX9_by 1 = .ok (.iload_n 1, 1) := by decide +kernel
theorem dX9_by_2 : decode cX9_by 2 = .ok (.invokevirtual 272, 3) := by decide +kernel
theorem dX9_by_5 : decode cX9_by 5 = .ok (.ifCond .ne 6, 3) := by decide +kernel
theorem dX9_by_8 : decode cX9_by 8 = .ok (.bipush (-101), 2) := by decide +kernel
theorem dX9_by_10 : decode cX9_by 10 = .ok (.ireturn, 1) := by decide +kernel
theorem dX9_by_11 : decode cX9_by 11 = .ok (.iload_n 2, 1) := by decide +kernel
theorem dX9_by_12 : decode cX9_by 12 = .ok (.i2l, 1) := by decide +kernel
theorem dX9_by_13 : decode cX9_by 13 = .ok (.ldc2_w 285, 3) := by decide +kernel
theorem dX9_by_16 : decode cX9_by 16 = .ok (.ldc2_w 287, 3) := by decide +kernel
theorem dX9_by_19 : decode cX9_by 19 = .ok (.invokestatic 60, 3) := by decide +kernel
theorem dX9_by_22 : decode cX9_by 22 = .ok (.ifCond .ne 6, 3) := by decide +kernel
theorem dX9_by_25 : decode cX9_by 25 = .ok (.bipush (-102), 2) := by decide +kernel
theorem dX9_by_27 : decode cX9_by 27 = .ok (.ireturn, 1) := by decide +kernel
theorem dX9_by_28 : decode cX9_by 28 = .ok (.aload_n 0, 1) := by decide +kernel
theorem dX9_by_29 : decode cX9_by 29 = .ok (.iload_n 1, 1) := by decide +kernel
theorem dX9_by_30 : decode cX9_by 30 = .ok (.invokevirtual 146, 3) := by decide +kernel
theorem dX9_by_33 : decode cX9_by 33 = .ok (.iconst 2, 1) := by decide +kernel
theorem dX9_by_34 : decode cX9_by 34 = .ok (.if_icmp .eq 12, 3) := by decide +kernel
theorem dX9_by_37 : decode cX9_by 37 = .ok (.aload_n 0, 1) := by decide +kernel
theorem dX9_by_38 : decode cX9_by 38 = .ok (.iload_n 1, 1) := by decide +kernel
theorem dX9_by_39 : decode cX9_by 39 = .ok (.invokevirtual 146, 3) := by decide +kernel
theorem dX9_by_42 : decode cX9_by 42 = .ok (.iconst 4, 1) := by decide +kernel
theorem dX9_by_43 : decode cX9_by 43 = .ok (.if_icmp .ne 6, 3) := by decide +kernel
theorem dX9_by_46 : decode cX9_by 46 = .ok (.bipush (-103), 2) := by decide +kernel
theorem dX9_by_48 : decode cX9_by 48 = .ok (.ireturn, 1) := by decide +kernel
theorem dX9_by_49 : decode cX9_by 49 = .ok (.aload_n 0, 1) := by decide +kernel
theorem dX9_by_50 : decode cX9_by 50 = .ok (.getfield 16, 3) := by decide +kernel
theorem dX9_by_53 : decode cX9_by 53 = .ok (.iconst 4, 1) := by decide +kernel
theorem dX9_by_54 : decode cX9_by 54 = .ok (.iload_n 1, 1) := by decide +kernel
theorem dX9_by_55 : decode cX9_by 55 = .ok (.imul, 1) := by decide +kernel
theorem dX9_by_56 : decode cX9_by 56 = .ok (.iconst 3, 1) := by decide +kernel
theorem dX9_by_57 : decode cX9_by 57 = .ok (.iadd, 1) := by decide +kernel
theorem dX9_by_58 : decode cX9_by 58 = .ok (.bipush 100, 2) := by decide +kernel
theorem dX9_by_60 : decode cX9_by 60 = .ok (.iload_n 2, 1) := by decide +kernel
theorem dX9_by_61 : decode cX9_by 61 = .ok (.iadd, 1) := by decide +kernel
theorem dX9_by_62 : decode cX9_by 62 = .ok (.iastore, 1) := by decide +kernel
theorem dX9_by_63 : decode cX9_by 63 = .ok (.aload_n 0, 1) := by decide +kernel
theorem dX9_by_64 : decode cX9_by 64 = .ok (.invokevirtual 139, 3) := by decide +kernel
theorem dX9_by_67 : decode cX9_by 67 = .ok (.aload_n 0, 1) := by decide +kernel
theorem dX9_by_68 : decode cX9_by 68 = .ok (.invokevirtual 226, 3) := by decide +kernel
theorem dX9_by_71 : decode cX9_by 71 = .ok (.aload_n 0, 1) := by decide +kernel
theorem dX9_by_72 : decode cX9_by 72 = .ok (.getfield 35, 3) := by decide +kernel
theorem dX9_by_75 : decode cX9_by 75 = .ok (.aload_n 0, 1) := by decide +kernel
theorem dX9_by_76 : decode cX9_by 76 = .ok (.getfield 126, 3) := by decide +kernel
theorem dX9_by_79 : decode cX9_by 79 = .ok (.iaload, 1) := by decide +kernel
theorem dX9_by_80 : decode cX9_by 80 = .ok (.ireturn, 1) := by decide +kernel
theorem dX9_rackedOf_0 : decode cX9_rackedOf 0 = .ok (.iconst 0, 1) := by decide +kernel
theorem dX9_rackedOf_1 : decode cX9_rackedOf 1 = .ok (.istore_n 2, 1) := by decide +kernel
theorem dX9_rackedOf_2 : decode cX9_rackedOf 2 = .ok (.iload_n 2, 1) := by decide +kernel
theorem dX9_rackedOf_3 : decode cX9_rackedOf 3 = .ok (.iconst 3, 1) := by decide +kernel
theorem dX9_rackedOf_4 : decode cX9_rackedOf 4 = .ok (.if_icmp .ge 23, 3) := by decide +kernel
theorem dX9_rackedOf_7 : decode cX9_rackedOf 7 = .ok (.aload_n 0, 1) := by decide +kernel
theorem dX9_rackedOf_8 : decode cX9_rackedOf 8 = .ok (.getfield 38, 3) := by decide +kernel
theorem dX9_rackedOf_11 : decode cX9_rackedOf 11 = .ok (.iconst 3, 1) := by decide +kernel
theorem dX9_rackedOf_12 : decode cX9_rackedOf 12 = .ok (.iload_n 1, 1) := by decide +kernel
theorem dX9_rackedOf_13 : decode cX9_rackedOf 13 = .ok (.imul, 1) := by decide +kernel
theorem dX9_rackedOf_14 : decode cX9_rackedOf 14 = .ok (.iload_n 2, 1) := by decide +kernel
theorem dX9_rackedOf_15 : decode cX9_rackedOf 15 = .ok (.iadd, 1) := by decide +kernel
theorem dX9_rackedOf_16 : decode cX9_rackedOf 16 = .ok (.iaload, 1) := by decide +kernel
theorem dX9_rackedOf_17 : decode cX9_rackedOf 17 = .ok (.iconst (-1), 1) := by decide +kernel
theorem dX9_rackedOf_18 : decode cX9_rackedOf 18 = .ok (.if_icmp .eq 9, 3) := by decide +kernel
theorem dX9_rackedOf_21 : decode cX9_rackedOf 21 = .ok (.iinc 2 1, 3) := by decide +kernel
theorem dX9_rackedOf_24 : decode cX9_rackedOf 24 = .ok (.goto (-22), 3) := by decide +kernel
theorem dX9_rackedOf_27 : decode cX9_rackedOf 27 = .ok (.iload_n 2, 1) := by decide +kernel
theorem dX9_rackedOf_28 : decode cX9_rackedOf 28 = .ok (.ireturn, 1) := by decide +kernel
theorem dX9_rack_0 : decode cX9_rack 0 = .ok (.aload_n 0, 1) := by decide +kernel
theorem dX9_rack_1 : decode cX9_rack 1 = .ok (.iload_n 1, 1) := by decide +kernel
theorem dX9_rack_2 : decode cX9_rack 2 = .ok (.invokevirtual 272, 3) := by decide +kernel
theorem dX9_rack_5 : decode cX9_rack 5 = .ok (.ifCond .ne 6, 3) := by decide +kernel
theorem dX9_rack_8 : decode cX9_rack 8 = .ok (.bipush (-101), 2) := by decide +kernel
theorem dX9_rack_10 : decode cX9_rack 10 = .ok (.ireturn, 1) := by decide +kernel
theorem dX9_rack_11 : decode cX9_rack 11 = .ok (.iload_n 2, 1) := by decide +kernel
theorem dX9_rack_12 : decode cX9_rack 12 = .ok (.i2l, 1) := by decide +kernel
theorem dX9_rack_13 : decode cX9_rack 13 = .ok (.lconst 0, 1) := by decide +kernel
theorem dX9_rack_14 : decode cX9_rack 14 = .ok (.ldc2_w 278, 3) := by decide +kernel
theorem dX9_rack_17 : decode cX9_rack 17 = .ok (.invokestatic 60, 3) := by decide +kernel
theorem dX9_rack_20 : decode cX9_rack 20 = .ok (.ifCond .ne 6, 3) := by decide +kernel
theorem dX9_rack_23 : decode cX9_rack 23 = .ok (.bipush (-102), 2) := by decide +kernel
theorem dX9_rack_25 : decode cX9_rack 25 = .ok (.ireturn, 1) := by decide +kernel
theorem dX9_rack_26 : decode cX9_rack 26 = .ok (.aload_n 0, 1) := by decide +kernel
theorem dX9_rack_27 : decode cX9_rack 27 = .ok (.iload_n 2, 1) := by decide +kernel
theorem dX9_rack_28 : decode cX9_rack 28 = .ok (.invokevirtual 293, 3) := by decide +kernel
theorem dX9_rack_31 : decode cX9_rack 31 = .ok (.istore_n 3, 1) := by decide +kernel
theorem dX9_rack_32 : decode cX9_rack 32 = .ok (.iload_n 3, 1) := by decide +kernel
theorem dX9_rack_33 : decode cX9_rack 33 = .ok (.iconst 3, 1) := by decide +kernel
theorem dX9_rack_34 : decode cX9_rack 34 = .ok (.if_icmp .ne 6, 3) := by decide +kernel
theorem dX9_rack_37 : decode cX9_rack 37 = .ok (.bipush (-104), 2) := by decide +kernel
theorem dX9_rack_39 : decode cX9_rack 39 = .ok (.ireturn, 1) := by decide +kernel
theorem dX9_rack_40 : decode cX9_rack 40 = .ok (.aload_n 0, 1) := by decide +kernel
theorem dX9_rack_41 : decode cX9_rack 41 = .ok (.iload_n 1, 1) := by decide +kernel
theorem dX9_rack_42 : decode cX9_rack 42 = .ok (.invokevirtual 146, 3) := by decide +kernel
theorem dX9_rack_45 : decode cX9_rack 45 = .ok (.iload_n 2, 1) := by decide +kernel
theorem dX9_rack_46 : decode cX9_rack 46 = .ok (.invokestatic 280, 3) := by decide +kernel
theorem dX9_rack_49 : decode cX9_rack 49 = .ok (.ifCond .ne 5, 3) := by decide +kernel
theorem dX9_rack_52 : decode cX9_rack 52 = .ok (.iconst (-1), 1) := by decide +kernel
theorem dX9_rack_53 : decode cX9_rack 53 = .ok (.ireturn, 1) := by decide +kernel
theorem dX9_rack_54 : decode cX9_rack 54 = .ok (.aload_n 0, 1) := by decide +kernel
theorem dX9_rack_55 : decode cX9_rack 55 = .ok (.getfield 38, 3) := by decide +kernel
theorem dX9_rack_58 : decode cX9_rack 58 = .ok (.iconst 3, 1) := by decide +kernel
theorem dX9_rack_59 : decode cX9_rack 59 = .ok (.iload_n 2, 1) := by decide +kernel
theorem dX9_rack_60 : decode cX9_rack 60 = .ok (.imul, 1) := by decide +kernel
theorem dX9_rack_61 : decode cX9_rack 61 = .ok (.iload_n 3, 1) := by decide +kernel
theorem dX9_rack_62 : decode cX9_rack 62 = .ok (.iadd, 1) := by decide +kernel
theorem dX9_rack_63 : decode cX9_rack 63 = .ok (.iload_n 1, 1) := by decide +kernel
theorem dX9_rack_64 : decode cX9_rack 64 = .ok (.iastore, 1) := by decide +kernel
theorem dX9_rack_65 : decode cX9_rack 65 = .ok (.iload_n 3, 1) := by decide +kernel
theorem dX9_rack_66 : decode cX9_rack 66 = .ok (.iconst 1, 1) := by decide +kernel
theorem dX9_rack_67 : decode cX9_rack 67 = .ok (.iadd, 1) := by decide +kernel
theorem dX9_rack_68 : decode cX9_rack 68 = .ok (.ireturn, 1) := by decide +kernel
theorem dX9_racked_0 : decode cX9_racked 0 = .ok (.iload_n 1, 1) := by decide +kernel
theorem dX9_racked_1 : decode cX9_racked 1 = .ok (.i2l, 1) := by decide +kernel
theorem dX9_racked_2 : decode cX9_racked 2 = .ok (.lconst 0, 1) := by decide +kernel
theorem dX9_racked_3 : decode cX9_racked 3 = .ok (.ldc2_w 278, 3) := by decide +kernel
theorem dX9_racked_6 : decode cX9_racked 6 = .ok (.invokestatic 60, 3) := by decide +kernel
theorem dX9_racked_9 : decode cX9_racked 9 = .ok (.ifCond .eq 28, 3) := by decide +kernel
theorem dX9_racked_12 : decode cX9_racked 12 = .ok (.iload_n 2, 1) := by decide +kernel
theorem dX9_racked_13 : decode cX9_racked 13 = .ok (.i2l, 1) := by decide +kernel
theorem dX9_racked_14 : decode cX9_racked 14 = .ok (.lconst 0, 1) := by decide +kernel
theorem dX9_racked_15 : decode cX9_racked 15 = .ok (.ldc2_w 247, 3) := by decide +kernel
theorem dX9_racked_18 : decode cX9_racked 18 = .ok (.invokestatic 60, 3) := by decide +kernel
theorem dX9_racked_21 : decode cX9_racked 21 = .ok (.ifCond .eq 16, 3) := by decide +kernel
theorem dX9_racked_24 : decode cX9_racked 24 = .ok (.aload_n 0, 1) := by decide +kernel
theorem dX9_racked_25 : decode cX9_racked 25 = .ok (.getfield 38, 3) := by decide +kernel
theorem dX9_racked_28 : decode cX9_racked 28 = .ok (.iconst 3, 1) := by decide +kernel
theorem dX9_racked_29 : decode cX9_racked 29 = .ok (.iload_n 1, 1) := by decide +kernel
theorem dX9_racked_30 : decode cX9_racked 30 = .ok (.imul, 1) := by decide +kernel
theorem dX9_racked_31 : decode cX9_racked 31 = .ok (.iload_n 2, 1) := by decide +kernel
theorem dX9_racked_32 : decode cX9_racked 32 = .ok (.iadd, 1) := by decide +kernel
theorem dX9_racked_33 : decode cX9_racked 33 = .ok (.iaload, 1) := by decide +kernel
theorem dX9_racked_34 : decode cX9_racked 34 = .ok (.goto 5, 3) := by decide +kernel
theorem dX9_racked_37 : decode cX9_racked 37 = .ok (.bipush (-102), 2) := by decide +kernel
theorem dX9_racked_39 : decode cX9_racked 39 = .ok (.ireturn, 1) := by decide +kernel
theorem dX9_see_0 : decode cX9_see 0 = .ok (.aload_n 0, 1) := by decide +kernel
theorem dX9_see_1 : decode cX9_see 1 = .ok (.iload_n 1, 1) := by decide +kernel
theorem dX9_see_2 : decode cX9_see 2 = .ok (.invokevirtual 272, 3) := by decide +kernel
theorem dX9_see_5 : decode cX9_see 5 = .ok (.ifCond .ne 6, 3) := by decide +kernel
theorem dX9_see_8 : decode cX9_see 8 = .ok (.bipush (-101), 2) := by decide +kernel
theorem dX9_see_10 : decode cX9_see 10 = .ok (.ireturn, 1) := by decide +kernel
theorem dX9_see_11 : decode cX9_see 11 = .ok (.iload_n 2, 1) := by decide +kernel
theorem dX9_see_12 : decode cX9_see 12 = .ok (.i2l, 1) := by decide +kernel
theorem dX9_see_13 : decode cX9_see 13 = .ok (.lconst 0, 1) := by decide +kernel
theorem dX9_see_14 : decode cX9_see 14 = .ok (.ldc2_w 283, 3) := by decide +kernel
theorem dX9_see_17 : decode cX9_see 17 = .ok (.invokestatic 60, 3) := by decide +kernel
theorem dX9_see_20 : decode cX9_see 20 = .ok (.ifCond .ne 6, 3) := by decide +kernel
theorem dX9_see_23 : decode cX9_see 23 = .ok (.bipush (-102), 2) := by decide +kernel
theorem dX9_see_25 : decode cX9_see 25 = .ok (.ireturn, 1) := by decide +kernel
theorem dX9_see_26 : decode cX9_see 26 = .ok (.aload_n 0, 1) := by decide +kernel
theorem dX9_see_27 : decode cX9_see 27 = .ok (.getfield 133, 3) := by decide +kernel
theorem dX9_see_30 : decode cX9_see 30 = .ok (.bipush 6, 2) := by decide +kernel
theorem dX9_see_32 : decode cX9_see 32 = .ok (.if_icmp .ne 6, 3) := by decide +kernel
theorem dX9_see_35 : decode cX9_see 35 = .ok (.bipush (-104), 2) := by decide +kernel
theorem dX9_see_37 : decode cX9_see 37 = .ok (.ireturn, 1) := by decide +kernel
theorem dX9_see_38 : decode cX9_see 38 = .ok (.aload_n 0, 1) := by decide +kernel
theorem dX9_see_39 : decode cX9_see 39 = .ok (.getfield 41, 3) := by decide +kernel
theorem dX9_see_42 : decode cX9_see 42 = .ok (.iconst 3, 1) := by decide +kernel
theorem dX9_see_43 : decode cX9_see 43 = .ok (.aload_n 0, 1) := by decide +kernel
theorem dX9_see_44 : decode cX9_see 44 = .ok (.getfield 133, 3) := by decide +kernel
theorem dX9_see_47 : decode cX9_see 47 = .ok (.imul, 1) := by decide +kernel
theorem dX9_see_48 : decode cX9_see 48 = .ok (.iload_n 1, 1) := by decide +kernel
theorem dX9_see_49 : decode cX9_see 49 = .ok (.iastore, 1) := by decide +kernel
theorem dX9_see_50 : decode cX9_see 50 = .ok (.aload_n 0, 1) := by decide +kernel
theorem dX9_see_51 : decode cX9_see 51 = .ok (.getfield 41, 3) := by decide +kernel
theorem dX9_see_54 : decode cX9_see 54 = .ok (.iconst 3, 1) := by decide +kernel
theorem dX9_see_55 : decode cX9_see 55 = .ok (.aload_n 0, 1) := by decide +kernel
theorem dX9_see_56 : decode cX9_see 56 = .ok (.getfield 133, 3) := by decide +kernel
theorem dX9_see_59 : decode cX9_see 59 = .ok (.imul, 1) := by decide +kernel
theorem dX9_see_60 : decode cX9_see 60 = .ok (.iconst 1, 1) := by decide +kernel
theorem dX9_see_61 : decode cX9_see 61 = .ok (.iadd, 1) := by decide +kernel
theorem dX9_see_62 : decode cX9_see 62 = .ok (.iload_n 2, 1) := by decide +kernel
theorem dX9_see_63 : decode cX9_see 63 = .ok (.iastore, 1) := by decide +kernel
theorem dX9_see_64 : decode cX9_see 64 = .ok (.aload_n 0, 1) := by decide +kernel
theorem dX9_see_65 : decode cX9_see 65 = .ok (.getfield 41, 3) := by decide +kernel
theorem dX9_see_68 : decode cX9_see 68 = .ok (.iconst 3, 1) := by decide +kernel
theorem dX9_see_69 : decode cX9_see 69 = .ok (.aload_n 0, 1) := by decide +kernel
theorem dX9_see_70 : decode cX9_see 70 = .ok (.getfield 133, 3) := by decide +kernel
theorem dX9_see_73 : decode cX9_see 73 = .ok (.imul, 1) := by decide +kernel
theorem dX9_see_74 : decode cX9_see 74 = .ok (.iconst 2, 1) := by decide +kernel
theorem dX9_see_75 : decode cX9_see 75 = .ok (.iadd, 1) := by decide +kernel
theorem dX9_see_76 : decode cX9_see 76 = .ok (.iload_n 3, 1) := by decide +kernel
theorem dX9_see_77 : decode cX9_see 77 = .ok (.ifCond .eq 7, 3) := by decide +kernel
theorem dX9_see_80 : decode cX9_see 80 = .ok (.iconst 1, 1) := by decide +kernel
theorem dX9_see_81 : decode cX9_see 81 = .ok (.goto 4, 3) := by decide +kernel
theorem dX9_see_84 : decode cX9_see 84 = .ok (.iconst 0, 1) := by decide +kernel
theorem dX9_see_85 : decode cX9_see 85 = .ok (.iastore, 1) := by decide +kernel
theorem dX9_see_86 : decode cX9_see 86 = .ok (.aload_n 0, 1) := by decide +kernel
theorem dX9_see_87 : decode cX9_see 87 = .ok (.dup, 1) := by decide +kernel
theorem dX9_see_88 : decode cX9_see 88 = .ok (.getfield 133, 3) := by decide +kernel
theorem dX9_see_91 : decode cX9_see 91 = .ok (.iconst 1, 1) := by decide +kernel
theorem dX9_see_92 : decode cX9_see 92 = .ok (.iadd, 1) := by decide +kernel
theorem dX9_see_93 : decode cX9_see 93 = .ok (.putfield 133, 3) := by decide +kernel
theorem dX9_see_96 : decode cX9_see 96 = .ok (.aload_n 0, 1) := by decide +kernel
theorem dX9_see_97 : decode cX9_see 97 = .ok (.getfield 133, 3) := by decide +kernel
theorem dX9_see_100 : decode cX9_see 100 = .ok (.ireturn, 1) := by decide +kernel
theorem dX9_forget_0 : decode cX9_forget 0 = .ok (.aload_n 0, 1) := by decide +kernel
theorem dX9_forget_1 : decode cX9_forget 1 = .ok (.getfield 133, 3) := by decide +kernel
theorem dX9_forget_4 : decode cX9_forget 4 = .ok (.istore_n 1, 1) := by decide +kernel
theorem dX9_forget_5 : decode cX9_forget 5 = .ok (.aload_n 0, 1) := by decide +kernel
theorem dX9_forget_6 : decode cX9_forget 6 = .ok (.iconst 0, 1) := by decide +kernel
theorem dX9_forget_7 : decode cX9_forget 7 = .ok (.putfield 133, 3) := by decide +kernel
theorem dX9_forget_10 : decode cX9_forget 10 = .ok (.iload_n 1, 1) := by decide +kernel
theorem dX9_forget_11 : decode cX9_forget 11 = .ok (.ireturn, 1) := by decide +kernel
theorem dX9_sortsBy_0 : decode cX9_sortsBy 0 = .ok (.iload_n 0, 1) := by decide +kernel
theorem dX9_sortsBy_1 : decode cX9_sortsBy 1 = .ok (.tableswitch 36 0 2 #[27, 30, 33], 27) := by decide +kernel
theorem dX9_sortsBy_28 : decode cX9_sortsBy 28 = .ok (.bipush 27, 2) := by decide +kernel
theorem dX9_sortsBy_30 : decode cX9_sortsBy 30 = .ok (.ireturn, 1) := by decide +kernel
theorem dX9_sortsBy_31 : decode cX9_sortsBy 31 = .ok (.bipush 14, 2) := by decide +kernel
theorem dX9_sortsBy_33 : decode cX9_sortsBy 33 = .ok (.ireturn, 1) := by decide +kernel
theorem dX9_sortsBy_34 : decode cX9_sortsBy 34 = .ok (.bipush 20, 2) := by decide +kernel
theorem dX9_sortsBy_36 : decode cX9_sortsBy 36 = .ok (.ireturn, 1) := by decide +kernel
theorem dX9_sortsBy_37 : decode cX9_sortsBy 37 = .ok (.bipush 16, 2) := by decide +kernel
theorem dX9_sortsBy_39 : decode cX9_sortsBy 39 = .ok (.ireturn, 1) := by decide +kernel
theorem dX9_sortsOf_0 : decode cX9_sortsOf 0 = .ok (.bipush 31, 2) := by decide +kernel
theorem dX9_sortsOf_2 : decode cX9_sortsOf 2 = .ok (.istore_n 2, 1) := by decide +kernel
theorem dX9_sortsOf_3 : decode cX9_sortsOf 3 = .ok (.iconst 0, 1) := by decide +kernel
theorem dX9_sortsOf_4 : decode cX9_sortsOf 4 = .ok (.istore_n 3, 1) := by decide +kernel
theorem dX9_sortsOf_5 : decode cX9_sortsOf 5 = .ok (.iload_n 3, 1) := by decide +kernel
theorem dX9_sortsOf_6 : decode cX9_sortsOf 6 = .ok (.iconst 3, 1) := by decide +kernel
theorem dX9_sortsOf_7 : decode cX9_sortsOf 7 = .ok (.aload_n 0, 1) := by decide +kernel
theorem dX9_sortsOf_8 : decode cX9_sortsOf 8 = .ok (.getfield 133, 3) := by decide +kernel
theorem dX9_sortsOf_11 : decode cX9_sortsOf 11 = .ok (.imul, 1) := by decide +kernel
theorem dX9_sortsOf_12 : decode cX9_sortsOf 12 = .ok (.if_icmp .ge 57, 3) := by decide +kernel
theorem dX9_sortsOf_15 : decode cX9_sortsOf 15 = .ok (.aload_n 0, 1) := by decide +kernel
theorem dX9_sortsOf_16 : decode cX9_sortsOf 16 = .ok (.getfield 41, 3) := by decide +kernel
theorem dX9_sortsOf_19 : decode cX9_sortsOf 19 = .ok (.iload_n 3, 1) := by decide +kernel
theorem dX9_sortsOf_20 : decode cX9_sortsOf 20 = .ok (.iaload, 1) := by decide +kernel
theorem dX9_sortsOf_21 : decode cX9_sortsOf 21 = .ok (.iload_n 1, 1) := by decide +kernel
theorem dX9_sortsOf_22 : decode cX9_sortsOf 22 = .ok (.if_icmp .ne 41, 3) := by decide +kernel
theorem dX9_sortsOf_25 : decode cX9_sortsOf 25 = .ok (.aload_n 0, 1) := by decide +kernel
theorem dX9_sortsOf_26 : decode cX9_sortsOf 26 = .ok (.getfield 41, 3) := by decide +kernel
theorem dX9_sortsOf_29 : decode cX9_sortsOf 29 = .ok (.iload_n 3, 1) := by decide +kernel
theorem dX9_sortsOf_30 : decode cX9_sortsOf 30 = .ok (.iconst 1, 1) := by decide +kernel
theorem dX9_sortsOf_31 : decode cX9_sortsOf 31 = .ok (.iadd, 1) := by decide +kernel
theorem dX9_sortsOf_32 : decode cX9_sortsOf 32 = .ok (.iaload, 1) := by decide +kernel
theorem dX9_sortsOf_33 : decode cX9_sortsOf 33 = .ok (.invokestatic 296, 3) := by decide +kernel
theorem dX9_sortsOf_36 : decode cX9_sortsOf 36 = .ok (.istore 4, 2) := by decide +kernel
theorem dX9_sortsOf_38 : decode cX9_sortsOf 38 = .ok (.iload_n 2, 1) := by decide +kernel
theorem dX9_sortsOf_39 : decode cX9_sortsOf 39 = .ok (.aload_n 0, 1) := by decide +kernel
theorem dX9_sortsOf_40 : decode cX9_sortsOf 40 = .ok (.getfield 41, 3) := by decide +kernel
theorem dX9_sortsOf_43 : decode cX9_sortsOf 43 = .ok (.iload_n 3, 1) := by decide +kernel
theorem dX9_sortsOf_44 : decode cX9_sortsOf 44 = .ok (.iconst 2, 1) := by decide +kernel
theorem dX9_sortsOf_45 : decode cX9_sortsOf 45 = .ok (.iadd, 1) := by decide +kernel
theorem dX9_sortsOf_46 : decode cX9_sortsOf 46 = .ok (.iaload, 1) := by decide +kernel
theorem dX9_sortsOf_47 : decode cX9_sortsOf 47 = .ok (.iconst 1, 1) := by decide +kernel
theorem dX9_sortsOf_48 : decode cX9_sortsOf 48 = .ok (.if_icmp .ne 8, 3) := by decide +kernel
theorem dX9_sortsOf_51 : decode cX9_sortsOf 51 = .ok (.iload 4, 2) := by decide +kernel
theorem dX9_sortsOf_53 : decode cX9_sortsOf 53 = .ok (.goto 8, 3) := by decide +kernel
theorem dX9_sortsOf_56 : decode cX9_sortsOf 56 = .ok (.bipush 31, 2) := by decide +kernel
theorem dX9_sortsOf_58 : decode cX9_sortsOf 58 = .ok (.iload 4, 2) := by decide +kernel
theorem dX9_sortsOf_60 : decode cX9_sortsOf 60 = .ok (.isub, 1) := by decide +kernel
theorem dX9_sortsOf_61 : decode cX9_sortsOf 61 = .ok (.iand, 1) := by decide +kernel
theorem dX9_sortsOf_62 : decode cX9_sortsOf 62 = .ok (.istore_n 2, 1) := by decide +kernel
theorem dX9_sortsOf_63 : decode cX9_sortsOf 63 = .ok (.iinc 3 3, 3) := by decide +kernel
theorem dX9_sortsOf_66 : decode cX9_sortsOf 66 = .ok (.goto (-61), 3) := by decide +kernel
theorem dX9_sortsOf_69 : decode cX9_sortsOf 69 = .ok (.iload_n 2, 1) := by decide +kernel
theorem dX9_sortsOf_70 : decode cX9_sortsOf 70 = .ok (.ireturn, 1) := by decide +kernel
theorem dX9_ones_0 : decode cX9_ones 0 = .ok (.iconst 0, 1) := by decide +kernel
theorem dX9_ones_1 : decode cX9_ones 1 = .ok (.istore_n 1, 1) := by decide +kernel
theorem dX9_ones_2 : decode cX9_ones 2 = .ok (.iconst 0, 1) := by decide +kernel
theorem dX9_ones_3 : decode cX9_ones 3 = .ok (.istore_n 2, 1) := by decide +kernel
theorem dX9_ones_4 : decode cX9_ones 4 = .ok (.iload_n 2, 1) := by decide +kernel
theorem dX9_ones_5 : decode cX9_ones 5 = .ok (.iconst 5, 1) := by decide +kernel
theorem dX9_ones_6 : decode cX9_ones 6 = .ok (.if_icmp .ge 17, 3) := by decide +kernel
theorem dX9_ones_9 : decode cX9_ones 9 = .ok (.iload_n 1, 1) := by decide +kernel
theorem dX9_ones_10 : decode cX9_ones 10 = .ok (.iload_n 0, 1) := by decide +kernel
theorem dX9_ones_11 : decode cX9_ones 11 = .ok (.iload_n 2, 1) := by decide +kernel
theorem dX9_ones_12 : decode cX9_ones 12 = .ok (.ishr, 1) := by decide +kernel
theorem dX9_ones_13 : decode cX9_ones 13 = .ok (.iconst 1, 1) := by decide +kernel
theorem dX9_ones_14 : decode cX9_ones 14 = .ok (.iand, 1) := by decide +kernel
theorem dX9_ones_15 : decode cX9_ones 15 = .ok (.iadd, 1) := by decide +kernel
theorem dX9_ones_16 : decode cX9_ones 16 = .ok (.istore_n 1, 1) := by decide +kernel
theorem dX9_ones_17 : decode cX9_ones 17 = .ok (.iinc 2 1, 3) := by decide +kernel
theorem dX9_ones_20 : decode cX9_ones 20 = .ok (.goto (-16), 3) := by decide +kernel
theorem dX9_ones_23 : decode cX9_ones 23 = .ok (.iload_n 1, 1) := by decide +kernel
theorem dX9_ones_24 : decode cX9_ones 24 = .ok (.ireturn, 1) := by decide +kernel
theorem dX9_askOf_0 : decode cX9_askOf 0 = .ok (.aload_n 0, 1) := by decide +kernel
theorem dX9_askOf_1 : decode cX9_askOf 1 = .ok (.iload_n 1, 1) := by decide +kernel
theorem dX9_askOf_2 : decode cX9_askOf 2 = .ok (.invokevirtual 266, 3) := by decide +kernel
theorem dX9_askOf_5 : decode cX9_askOf 5 = .ok (.istore_n 2, 1) := by decide +kernel
theorem dX9_askOf_6 : decode cX9_askOf 6 = .ok (.iconst (-1), 1) := by decide +kernel
theorem dX9_askOf_7 : decode cX9_askOf 7 = .ok (.istore_n 3, 1) := by decide +kernel
theorem dX9_askOf_8 : decode cX9_askOf 8 = .ok (.bipush 6, 2) := by decide +kernel
theorem dX9_askOf_10 : decode cX9_askOf 10 = .ok (.istore 4, 2) := by decide +kernel
theorem dX9_askOf_12 : decode cX9_askOf 12 = .ok (.iconst 0, 1) := by decide +kernel
theorem dX9_askOf_13 : decode cX9_askOf 13 = .ok (.istore 5, 2) := by decide +kernel
theorem dX9_askOf_15 : decode cX9_askOf 15 = .ok (.iload 5, 2) := by decide +kernel
theorem dX9_askOf_17 : decode cX9_askOf 17 = .ok (.iconst 4, 1) := by decide +kernel
theorem dX9_askOf_18 : decode cX9_askOf 18 = .ok (.if_icmp .ge 80, 3) := by decide +kernel
theorem dX9_askOf_21 : decode cX9_askOf 21 = .ok (.iload_n 2, 1) := by decide +kernel
theorem dX9_askOf_22 : decode cX9_askOf 22 = .ok (.ifCond .eq 76, 3) := by decide +kernel
theorem dX9_askOf_25 : decode cX9_askOf 25 = .ok (.iload_n 2, 1) := by decide +kernel
theorem dX9_askOf_26 : decode cX9_askOf 26 = .ok (.iload 5, 2) := by decide +kernel
theorem dX9_askOf_28 : decode cX9_askOf 28 = .ok (.invokestatic 296, 3) := by decide +kernel
theorem dX9_askOf_31 : decode cX9_askOf 31 = .ok (.iand, 1) := by decide +kernel
theorem dX9_askOf_32 : decode cX9_askOf 32 = .ok (.invokestatic 299, 3) := by decide +kernel
theorem dX9_askOf_35 : decode cX9_askOf 35 = .ok (.istore 6, 2) := by decide +kernel
theorem dX9_askOf_37 : decode cX9_askOf 37 = .ok (.iload_n 2, 1) := by decide +kernel
theorem dX9_askOf_38 : decode cX9_askOf 38 = .ok (.invokestatic 299, 3) := by decide +kernel
theorem dX9_askOf_41 : decode cX9_askOf 41 = .ok (.iload 6, 2) := by decide +kernel
theorem dX9_askOf_43 : decode cX9_askOf 43 = .ok (.isub, 1) := by decide +kernel
theorem dX9_askOf_44 : decode cX9_askOf 44 = .ok (.istore 7, 2) := by decide +kernel
theorem dX9_askOf_46 : decode cX9_askOf 46 = .ok (.iload 6, 2) := by decide +kernel
theorem dX9_askOf_48 : decode cX9_askOf 48 = .ok (.iload 7, 2) := by decide +kernel
theorem dX9_askOf_50 : decode cX9_askOf 50 = .ok (.if_icmp .le 8, 3) := by decide +kernel
theorem dX9_askOf_53 : decode cX9_askOf 53 = .ok (.iload 6, 2) := by decide +kernel
theorem dX9_askOf_55 : decode cX9_askOf 55 = .ok (.goto 5, 3) := by decide +kernel
theorem dX9_askOf_58 : decode cX9_askOf 58 = .ok (.iload 7, 2) := by decide +kernel
theorem dX9_askOf_60 : decode cX9_askOf 60 = .ok (.istore 8, 2) := by decide +kernel
theorem dX9_askOf_62 : decode cX9_askOf 62 = .ok (.iload 8, 2) := by decide +kernel
theorem dX9_askOf_64 : decode cX9_askOf 64 = .ok (.iload 4, 2) := by decide +kernel
theorem dX9_askOf_66 : decode cX9_askOf 66 = .ok (.if_icmp .ge 8, 3) := by decide +kernel
theorem dX9_askOf_69 : decode cX9_askOf 69 = .ok (.iload 5, 2) := by decide +kernel
theorem dX9_askOf_71 : decode cX9_askOf 71 = .ok (.goto 4, 3) := by decide +kernel
theorem dX9_askOf_74 : decode cX9_askOf 74 = .ok (.iload_n 3, 1) := by decide +kernel
theorem dX9_askOf_75 : decode cX9_askOf 75 = .ok (.istore_n 3, 1) := by decide +kernel
theorem dX9_askOf_76 : decode cX9_askOf 76 = .ok (.iload 8, 2) := by decide +kernel
theorem dX9_askOf_78 : decode cX9_askOf 78 = .ok (.iload 4, 2) := by decide +kernel
theorem dX9_askOf_80 : decode cX9_askOf 80 = .ok (.if_icmp .ge 8, 3) := by decide +kernel
theorem dX9_askOf_83 : decode cX9_askOf 83 = .ok (.iload 8, 2) := by decide +kernel
theorem dX9_askOf_85 : decode cX9_askOf 85 = .ok (.goto 5, 3) := by decide +kernel
theorem dX9_askOf_88 : decode cX9_askOf 88 = .ok (.iload 4, 2) := by decide +kernel
theorem dX9_askOf_90 : decode cX9_askOf 90 = .ok (.istore 4, 2) := by decide +kernel
theorem dX9_askOf_92 : decode cX9_askOf 92 = .ok (.iinc 5 1, 3) := by decide +kernel
theorem dX9_askOf_95 : decode cX9_askOf 95 = .ok (.goto (-80), 3) := by decide +kernel
theorem dX9_askOf_98 : decode cX9_askOf 98 = .ok (.iload_n 3, 1) := by decide +kernel
theorem dX9_askOf_99 : decode cX9_askOf 99 = .ok (.ireturn, 1) := by decide +kernel
theorem dX9_draw_0 : decode cX9_draw 0 = .ok (.aload_n 0, 1) := by decide +kernel
theorem dX9_draw_1 : decode cX9_draw 1 = .ok (.ldc2_w 302, 3) := by decide +kernel
theorem dX9_draw_4 : decode cX9_draw 4 = .ok (.aload_n 0, 1) := by decide +kernel
theorem dX9_draw_5 : decode cX9_draw 5 = .ok (.getfield 304, 3) := by decide +kernel
theorem dX9_draw_8 : decode cX9_draw 8 = .ok (.i2l, 1) := by decide +kernel
theorem dX9_draw_9 : decode cX9_draw 9 = .ok (.lmul, 1) := by decide +kernel
theorem dX9_draw_10 : decode cX9_draw 10 = .ok (.ldc2_w 307, 3) := by decide +kernel
theorem dX9_draw_13 : decode cX9_draw 13 = .ok (.ladd, 1) := by decide +kernel
theorem dX9_draw_14 : decode cX9_draw 14 = .ok (.ldc2_w 309, 3) := by decide +kernel
theorem dX9_draw_17 : decode cX9_draw 17 = .ok (.land, 1) := by decide +kernel
theorem dX9_draw_18 : decode cX9_draw 18 = .ok (.l2i, 1) := by decide +kernel
theorem dX9_draw_19 : decode cX9_draw 19 = .ok (.putfield 304, 3) := by decide +kernel
theorem dX9_draw_22 : decode cX9_draw 22 = .ok (.aload_n 0, 1) := by decide +kernel
theorem dX9_draw_23 : decode cX9_draw 23 = .ok (.getfield 304, 3) := by decide +kernel
theorem dX9_draw_26 : decode cX9_draw 26 = .ok (.ldc_w 311, 3) := by decide +kernel
theorem dX9_draw_29 : decode cX9_draw 29 = .ok (.idiv, 1) := by decide +kernel
theorem dX9_draw_30 : decode cX9_draw 30 = .ok (.iload_n 1, 1) := by decide +kernel
theorem dX9_draw_31 : decode cX9_draw 31 = .ok (.irem, 1) := by decide +kernel
theorem dX9_draw_32 : decode cX9_draw 32 = .ok (.ireturn, 1) := by decide +kernel
theorem dX9_drawTest_0 : decode cX9_drawTest 0 = .ok (.aload_n 0, 1) := by decide +kernel
theorem dX9_drawTest_1 : decode cX9_drawTest 1 = .ok (.bipush 6, 2) := by decide +kernel
theorem dX9_drawTest_3 : decode cX9_drawTest 3 = .ok (.invokevirtual 312, 3) := by decide +kernel
theorem dX9_drawTest_6 : decode cX9_drawTest 6 = .ok (.istore_n 1, 1) := by decide +kernel
theorem dX9_drawTest_7 : decode cX9_drawTest 7 = .ok (.aload_n 0, 1) := by decide +kernel
theorem dX9_drawTest_8 : decode cX9_drawTest 8 = .ok (.bipush 6, 2) := by decide +kernel
theorem dX9_drawTest_10 : decode cX9_drawTest 10 = .ok (.invokevirtual 312, 3) := by decide +kernel
theorem dX9_drawTest_13 : decode cX9_drawTest 13 = .ok (.istore_n 2, 1) := by decide +kernel
theorem dX9_drawTest_14 : decode cX9_drawTest 14 = .ok (.aload_n 0, 1) := by decide +kernel
theorem dX9_drawTest_15 : decode cX9_drawTest 15 = .ok (.bipush 12, 2) := by decide +kernel
theorem dX9_drawTest_17 : decode cX9_drawTest 17 = .ok (.invokevirtual 312, 3) := by decide +kernel
theorem dX9_drawTest_20 : decode cX9_drawTest 20 = .ok (.iconst 4, 1) := by decide +kernel
theorem dX9_drawTest_21 : decode cX9_drawTest 21 = .ok (.isub, 1) := by decide +kernel
theorem dX9_drawTest_22 : decode cX9_drawTest 22 = .ok (.istore_n 3, 1) := by decide +kernel
theorem dX9_drawTest_23 : decode cX9_drawTest 23 = .ok (.iconst 0, 1) := by decide +kernel
theorem dX9_drawTest_24 : decode cX9_drawTest 24 = .ok (.istore 4, 2) := by decide +kernel
theorem dX9_drawTest_26 : decode cX9_drawTest 26 = .ok (.iload 4, 2) := by decide +kernel
theorem dX9_drawTest_28 : decode cX9_drawTest 28 = .ok (.sipush 4913, 3) := by decide +kernel
theorem dX9_drawTest_31 : decode cX9_drawTest 31 = .ok (.if_icmp .ge 59, 3) := by decide +kernel
theorem dX9_drawTest_34 : decode cX9_drawTest 34 = .ok (.ldc_w 315, 3) := by decide +kernel
theorem dX9_drawTest_37 : decode cX9_drawTest 37 = .ok (.iload 4, 2) := by decide +kernel
theorem dX9_drawTest_39 : decode cX9_drawTest 39 = .ok (.iadd, 1) := by decide +kernel
theorem dX9_drawTest_40 : decode cX9_drawTest 40 = .ok (.istore 5, 2) := by decide +kernel
theorem dX9_drawTest_42 : decode cX9_drawTest 42 = .ok (.aload_n 0, 1) := by decide +kernel
theorem dX9_drawTest_43 : decode cX9_drawTest 43 = .ok (.getfield 20, 3) := by decide +kernel
theorem dX9_drawTest_46 : decode cX9_drawTest 46 = .ok (.iload 5, 2) := by decide +kernel
theorem dX9_drawTest_48 : decode cX9_drawTest 48 = .ok (.aload_n 0, 1) := by decide +kernel
theorem dX9_drawTest_49 : decode cX9_drawTest 49 = .ok (.getfield 20, 3) := by decide +kernel
theorem dX9_drawTest_52 : decode cX9_drawTest 52 = .ok (.iload 5, 2) := by decide +kernel
theorem dX9_drawTest_54 : decode cX9_drawTest 54 = .ok (.iaload, 1) := by decide +kernel
theorem dX9_drawTest_55 : decode cX9_drawTest 55 = .ok (.iconst 1, 1) := by decide +kernel
theorem dX9_drawTest_56 : decode cX9_drawTest 56 = .ok (.if_icmp .ne 26, 3) := by decide +kernel
theorem dX9_drawTest_59 : decode cX9_drawTest 59 = .ok (.aload_n 0, 1) := by decide +kernel
theorem dX9_drawTest_60 : decode cX9_drawTest 60 = .ok (.iload 4, 2) := by decide +kernel
theorem dX9_drawTest_62 : decode cX9_drawTest 62 = .ok (.iload_n 1, 1) := by decide +kernel
theorem dX9_drawTest_63 : decode cX9_drawTest 63 = .ok (.invokevirtual 152, 3) := by decide +kernel
theorem dX9_drawTest_66 : decode cX9_drawTest 66 = .ok (.aload_n 0, 1) := by decide +kernel
theorem dX9_drawTest_67 : decode cX9_drawTest 67 = .ok (.iload 4, 2) := by decide +kernel
theorem dX9_drawTest_69 : decode cX9_drawTest 69 = .ok (.iload_n 2, 1) := by decide +kernel
theorem dX9_drawTest_70 : decode cX9_drawTest 70 = .ok (.invokevirtual 152, 3) := by decide +kernel
theorem dX9_drawTest_73 : decode cX9_drawTest 73 = .ok (.iadd, 1) := by decide +kernel
theorem dX9_drawTest_74 : decode cX9_drawTest 74 = .ok (.iload_n 3, 1) := by decide +kernel
theorem dX9_drawTest_75 : decode cX9_drawTest 75 = .ok (.if_icmp .gt 7, 3) := by decide +kernel
theorem dX9_drawTest_78 : decode cX9_drawTest 78 = .ok (.iconst 1, 1) := by decide +kernel
theorem dX9_drawTest_79 : decode cX9_drawTest 79 = .ok (.goto 4, 3) := by decide +kernel
theorem dX9_drawTest_82 : decode cX9_drawTest 82 = .ok (.iconst 0, 1) := by decide +kernel
theorem dX9_drawTest_83 : decode cX9_drawTest 83 = .ok (.iastore, 1) := by decide +kernel
theorem dX9_drawTest_84 : decode cX9_drawTest 84 = .ok (.iinc 4 1, 3) := by decide +kernel
theorem dX9_drawTest_87 : decode cX9_drawTest 87 = .ok (.goto (-61), 3) := by decide +kernel
theorem dX9_drawTest_90 : decode cX9_drawTest 90 = .ok (.return_, 1) := by decide +kernel
theorem dX9_drawn_0 : decode cX9_drawn 0 = .ok (.iload_n 1, 1) := by decide +kernel
theorem dX9_drawn_1 : decode cX9_drawn 1 = .ok (.i2l, 1) := by decide +kernel
theorem dX9_drawn_2 : decode cX9_drawn 2 = .ok (.lconst 1, 1) := by decide +kernel
theorem dX9_drawn_3 : decode cX9_drawn 3 = .ok (.ldc2_w 171, 3) := by decide +kernel
theorem dX9_drawn_6 : decode cX9_drawn 6 = .ok (.invokestatic 60, 3) := by decide +kernel
theorem dX9_drawn_9 : decode cX9_drawn 9 = .ok (.ifCond .eq 19, 3) := by decide +kernel
theorem dX9_drawn_12 : decode cX9_drawn 12 = .ok (.iload_n 2, 1) := by decide +kernel
theorem dX9_drawn_13 : decode cX9_drawn 13 = .ok (.ifCond .lt 15, 3) := by decide +kernel
theorem dX9_drawn_16 : decode cX9_drawn 16 = .ok (.iload_n 3, 1) := by decide +kernel
theorem dX9_drawn_17 : decode cX9_drawn 17 = .ok (.i2l, 1) := by decide +kernel
theorem dX9_drawn_18 : decode cX9_drawn 18 = .ok (.lconst 0, 1) := by decide +kernel
theorem dX9_drawn_19 : decode cX9_drawn 19 = .ok (.ldc2_w 247, 3) := by decide +kernel
theorem dX9_drawn_22 : decode cX9_drawn 22 = .ok (.invokestatic 60, 3) := by decide +kernel
theorem dX9_drawn_25 : decode cX9_drawn 25 = .ok (.ifCond .ne 6, 3) := by decide +kernel
theorem dX9_drawn_28 : decode cX9_drawn 28 = .ok (.bipush (-102), 2) := by decide +kernel
theorem dX9_drawn_30 : decode cX9_drawn 30 = .ok (.ireturn, 1) := by decide +kernel
theorem dX9_drawn_31 : decode cX9_drawn 31 = .ok (.aload_n 0, 1) := by decide +kernel
theorem dX9_drawn_32 : decode cX9_drawn 32 = .ok (.iload_n 2, 1) := by decide +kernel
theorem dX9_drawn_33 : decode cX9_drawn 33 = .ok (.putfield 304, 3) := by decide +kernel
theorem dX9_drawn_36 : decode cX9_drawn 36 = .ok (.iconst 0, 1) := by decide +kernel
theorem dX9_drawn_37 : decode cX9_drawn 37 = .ok (.istore 4, 2) := by decide +kernel
theorem dX9_drawn_39 : decode cX9_drawn 39 = .ok (.iconst 0, 1) := by decide +kernel
theorem dX9_drawn_40 : decode cX9_drawn 40 = .ok (.istore 5, 2) := by decide +kernel
theorem dX9_drawn_42 : decode cX9_drawn 42 = .ok (.iconst 0, 1) := by decide +kernel
theorem dX9_drawn_43 : decode cX9_drawn 43 = .ok (.istore 6, 2) := by decide +kernel
theorem dX9_drawn_45 : decode cX9_drawn 45 = .ok (.iload 6, 2) := by decide +kernel
theorem dX9_drawn_47 : decode cX9_drawn 47 = .ok (.iload_n 1, 1) := by decide +kernel
theorem dX9_drawn_48 : decode cX9_drawn 48 = .ok (.if_icmp .ge 87, 3) := by decide +kernel
theorem dX9_drawn_51 : decode cX9_drawn 51 = .ok (.iconst 0, 1) := by decide +kernel
theorem dX9_drawn_52 : decode cX9_drawn 52 = .ok (.istore 7, 2) := by decide +kernel
theorem dX9_drawn_54 : decode cX9_drawn 54 = .ok (.iload 7, 2) := by decide +kernel
theorem dX9_drawn_56 : decode cX9_drawn 56 = .ok (.sipush 4913, 3) := by decide +kernel
theorem dX9_drawn_59 : decode cX9_drawn 59 = .ok (.if_icmp .ge 21, 3) := by decide +kernel
theorem dX9_drawn_62 : decode cX9_drawn 62 = .ok (.aload_n 0, 1) := by decide +kernel
theorem dX9_drawn_63 : decode cX9_drawn 63 = .ok (.getfield 20, 3) := by decide +kernel
theorem dX9_drawn_66 : decode cX9_drawn 66 = .ok (.ldc_w 315, 3) := by decide +kernel
theorem dX9_drawn_69 : decode cX9_drawn 69 = .ok (.iload 7, 2) := by decide +kernel
theorem dX9_drawn_71 : decode cX9_drawn 71 = .ok (.iadd, 1) := by decide +kernel
theorem dX9_drawn_72 : decode cX9_drawn 72 = .ok (.iconst 1, 1) := by decide +kernel
theorem dX9_drawn_73 : decode cX9_drawn 73 = .ok (.iastore, 1) := by decide +kernel
theorem dX9_drawn_74 : decode cX9_drawn 74 = .ok (.iinc 7 1, 3) := by decide +kernel
theorem dX9_drawn_77 : decode cX9_drawn 77 = .ok (.goto (-23), 3) := by decide +kernel
theorem dX9_drawn_80 : decode cX9_drawn 80 = .ok (.iconst 0, 1) := by decide +kernel
theorem dX9_drawn_81 : decode cX9_drawn 81 = .ok (.istore 7, 2) := by decide +kernel
theorem dX9_drawn_83 : decode cX9_drawn 83 = .ok (.iload 7, 2) := by decide +kernel
theorem dX9_drawn_85 : decode cX9_drawn 85 = .ok (.iconst 4, 1) := by decide +kernel
theorem dX9_drawn_86 : decode cX9_drawn 86 = .ok (.if_icmp .ge 13, 3) := by decide +kernel
theorem dX9_drawn_89 : decode cX9_drawn 89 = .ok (.aload_n 0, 1) := by decide +kernel
theorem dX9_drawn_90 : decode cX9_drawn 90 = .ok (.invokevirtual 316, 3) := by decide +kernel
theorem dX9_drawn_93 : decode cX9_drawn 93 = .ok (.iinc 7 1, 3) := by decide +kernel
theorem dX9_drawn_96 : decode cX9_drawn 96 = .ok (.goto (-13), 3) := by decide +kernel
theorem dX9_drawn_99 : decode cX9_drawn 99 = .ok (.aload_n 0, 1) := by decide +kernel
theorem dX9_drawn_100 : decode cX9_drawn 100 = .ok (.bipush 7, 2) := by decide +kernel
theorem dX9_drawn_102 : decode cX9_drawn 102 = .ok (.invokevirtual 185, 3) := by decide +kernel
theorem dX9_drawn_105 : decode cX9_drawn 105 = .ok (.istore 7, 2) := by decide +kernel
theorem dX9_drawn_107 : decode cX9_drawn 107 = .ok (.iload 4, 2) := by decide +kernel
theorem dX9_drawn_109 : decode cX9_drawn 109 = .ok (.iload 7, 2) := by decide +kernel
theorem dX9_drawn_111 : decode cX9_drawn 111 = .ok (.ifCond .le 7, 3) := by decide +kernel
theorem dX9_drawn_114 : decode cX9_drawn 114 = .ok (.iconst 1, 1) := by decide +kernel
theorem dX9_drawn_115 : decode cX9_drawn 115 = .ok (.goto 4, 3) := by decide +kernel
theorem dX9_drawn_118 : decode cX9_drawn 118 = .ok (.iconst 0, 1) := by decide +kernel
theorem dX9_drawn_119 : decode cX9_drawn 119 = .ok (.iadd, 1) := by decide +kernel
theorem dX9_drawn_120 : decode cX9_drawn 120 = .ok (.istore 4, 2) := by decide +kernel
theorem dX9_drawn_122 : decode cX9_drawn 122 = .ok (.iload 5, 2) := by decide +kernel
theorem dX9_drawn_124 : decode cX9_drawn 124 = .ok (.iload 7, 2) := by decide +kernel
theorem dX9_drawn_126 : decode cX9_drawn 126 = .ok (.iadd, 1) := by decide +kernel
theorem dX9_drawn_127 : decode cX9_drawn 127 = .ok (.istore 5, 2) := by decide +kernel
theorem dX9_drawn_129 : decode cX9_drawn 129 = .ok (.iinc 6 1, 3) := by decide +kernel
theorem dX9_drawn_132 : decode cX9_drawn 132 = .ok (.goto (-87), 3) := by decide +kernel
theorem dX9_drawn_135 : decode cX9_drawn 135 = .ok (.iload_n 3, 1) := by decide +kernel
theorem dX9_drawn_136 : decode cX9_drawn 136 = .ok (.ifCond .ne 8, 3) := by decide +kernel
theorem dX9_drawn_139 : decode cX9_drawn 139 = .ok (.iload 4, 2) := by decide +kernel
theorem dX9_drawn_141 : decode cX9_drawn 141 = .ok (.goto 17, 3) := by decide +kernel
theorem dX9_drawn_144 : decode cX9_drawn 144 = .ok (.iload_n 3, 1) := by decide +kernel
theorem dX9_drawn_145 : decode cX9_drawn 145 = .ok (.iconst 1, 1) := by decide +kernel
theorem dX9_drawn_146 : decode cX9_drawn 146 = .ok (.if_icmp .ne 8, 3) := by decide +kernel
theorem dX9_drawn_149 : decode cX9_drawn 149 = .ok (.iload 5, 2) := by decide +kernel
theorem dX9_drawn_151 : decode cX9_drawn 151 = .ok (.goto 7, 3) := by decide +kernel
theorem dX9_drawn_154 : decode cX9_drawn 154 = .ok (.aload_n 0, 1) := by decide +kernel
theorem dX9_drawn_155 : decode cX9_drawn 155 = .ok (.getfield 304, 3) := by decide +kernel
theorem dX9_drawn_158 : decode cX9_drawn 158 = .ok (.ireturn, 1) := by decide +kernel
theorem dX9_image_0 : decode cX9_image 0 = .ok (.aload_n 0, 1) := by decide +kernel
theorem dX9_image_1 : decode cX9_image 1 = .ok (.invokevirtual 222, 3) := by decide +kernel
theorem dX9_image_4 : decode cX9_image 4 = .ok (.ifCond .eq 6, 3) := by decide +kernel
theorem dX9_image_7 : decode cX9_image 7 = .ok (.bipush (-103), 2) := by decide +kernel
theorem dX9_image_9 : decode cX9_image 9 = .ok (.ireturn, 1) := by decide +kernel
theorem dX9_image_10 : decode cX9_image 10 = .ok (.aload_n 0, 1) := by decide +kernel
theorem dX9_image_11 : decode cX9_image 11 = .ok (.getfield 16, 3) := by decide +kernel
theorem dX9_image_14 : decode cX9_image 14 = .ok (.aload_n 0, 1) := by decide +kernel
theorem dX9_image_15 : decode cX9_image 15 = .ok (.getfield 44, 3) := by decide +kernel
theorem dX9_image_18 : decode cX9_image 18 = .ok (.invokestatic 129, 3) := by decide +kernel
theorem dX9_image_21 : decode cX9_image 21 = .ok (.aload_n 0, 1) := by decide +kernel
theorem dX9_image_22 : decode cX9_image 22 = .ok (.getfield 41, 3) := by decide +kernel
theorem dX9_image_25 : decode cX9_image 25 = .ok (.aload_n 0, 1) := by decide +kernel
theorem dX9_image_26 : decode cX9_image 26 = .ok (.getfield 47, 3) := by decide +kernel
theorem dX9_image_29 : decode cX9_image 29 = .ok (.invokestatic 129, 3) := by decide +kernel
theorem dX9_image_32 : decode cX9_image 32 = .ok (.aload_n 0, 1) := by decide +kernel
theorem dX9_image_33 : decode cX9_image 33 = .ok (.aload_n 0, 1) := by decide +kernel
theorem dX9_image_34 : decode cX9_image 34 = .ok (.getfield 126, 3) := by decide +kernel
theorem dX9_image_37 : decode cX9_image 37 = .ok (.putfield 319, 3) := by decide +kernel
theorem dX9_image_40 : decode cX9_image 40 = .ok (.aload_n 0, 1) := by decide +kernel
theorem dX9_image_41 : decode cX9_image 41 = .ok (.aload_n 0, 1) := by decide +kernel
theorem dX9_image_42 : decode cX9_image 42 = .ok (.getfield 133, 3) := by decide +kernel
theorem dX9_image_45 : decode cX9_image 45 = .ok (.putfield 322, 3) := by decide +kernel
theorem dX9_image_48 : decode cX9_image 48 = .ok (.aload_n 0, 1) := by decide +kernel
theorem dX9_image_49 : decode cX9_image 49 = .ok (.aload_n 0, 1) := by decide +kernel
theorem dX9_image_50 : decode cX9_image 50 = .ok (.getfield 136, 3) := by decide +kernel
theorem dX9_image_53 : decode cX9_image 53 = .ok (.putfield 50, 3) := by decide +kernel
theorem dX9_image_56 : decode cX9_image 56 = .ok (.aload_n 0, 1) := by decide +kernel
theorem dX9_image_57 : decode cX9_image 57 = .ok (.getfield 126, 3) := by decide +kernel
theorem dX9_image_60 : decode cX9_image 60 = .ok (.ireturn, 1) := by decide +kernel
theorem dX9_restore_0 : decode cX9_restore 0 = .ok (.aload_n 0, 1) := by decide +kernel
theorem dX9_restore_1 : decode cX9_restore 1 = .ok (.getfield 50, 3) := by decide +kernel
theorem dX9_restore_4 : decode cX9_restore 4 = .ok (.aload_n 0, 1) := by decide +kernel
theorem dX9_restore_5 : decode cX9_restore 5 = .ok (.getfield 136, 3) := by decide +kernel
theorem dX9_restore_8 : decode cX9_restore 8 = .ok (.if_icmp .eq 6, 3) := by decide +kernel
theorem dX9_restore_11 : decode cX9_restore 11 = .ok (.bipush (-103), 2) := by decide +kernel
theorem dX9_restore_13 : decode cX9_restore 13 = .ok (.ireturn, 1) := by decide +kernel
theorem dX9_restore_14 : decode cX9_restore 14 = .ok (.aload_n 0, 1) := by decide +kernel
theorem dX9_restore_15 : decode cX9_restore 15 = .ok (.getfield 44, 3) := by decide +kernel
theorem dX9_restore_18 : decode cX9_restore 18 = .ok (.aload_n 0, 1) := by decide +kernel
theorem dX9_restore_19 : decode cX9_restore 19 = .ok (.getfield 16, 3) := by decide +kernel
theorem dX9_restore_22 : decode cX9_restore 22 = .ok (.invokestatic 129, 3) := by decide +kernel
theorem dX9_restore_25 : decode cX9_restore 25 = .ok (.aload_n 0, 1) := by decide +kernel
theorem dX9_restore_26 : decode cX9_restore 26 = .ok (.getfield 47, 3) := by decide +kernel
theorem dX9_restore_29 : decode cX9_restore 29 = .ok (.aload_n 0, 1) := by decide +kernel
theorem dX9_restore_30 : decode cX9_restore 30 = .ok (.getfield 41, 3) := by decide +kernel
theorem dX9_restore_33 : decode cX9_restore 33 = .ok (.invokestatic 129, 3) := by decide +kernel
theorem dX9_restore_36 : decode cX9_restore 36 = .ok (.aload_n 0, 1) := by decide +kernel
theorem dX9_restore_37 : decode cX9_restore 37 = .ok (.aload_n 0, 1) := by decide +kernel
theorem dX9_restore_38 : decode cX9_restore 38 = .ok (.getfield 319, 3) := by decide +kernel
theorem dX9_restore_41 : decode cX9_restore 41 = .ok (.putfield 126, 3) := by decide +kernel
theorem dX9_restore_44 : decode cX9_restore 44 = .ok (.aload_n 0, 1) := by decide +kernel
theorem dX9_restore_45 : decode cX9_restore 45 = .ok (.aload_n 0, 1) := by decide +kernel
theorem dX9_restore_46 : decode cX9_restore 46 = .ok (.getfield 322, 3) := by decide +kernel
theorem dX9_restore_49 : decode cX9_restore 49 = .ok (.putfield 133, 3) := by decide +kernel
theorem dX9_restore_52 : decode cX9_restore 52 = .ok (.aload_n 0, 1) := by decide +kernel
theorem dX9_restore_53 : decode cX9_restore 53 = .ok (.invokevirtual 139, 3) := by decide +kernel
theorem dX9_restore_56 : decode cX9_restore 56 = .ok (.aload_n 0, 1) := by decide +kernel
theorem dX9_restore_57 : decode cX9_restore 57 = .ok (.getfield 126, 3) := by decide +kernel
theorem dX9_restore_60 : decode cX9_restore 60 = .ok (.ireturn, 1) := by decide +kernel
theorem dX9_stepsBy_0 : decode cX9_stepsBy 0 = .ok (.iconst 0, 1) := by decide +kernel
theorem dX9_stepsBy_1 : decode cX9_stepsBy 1 = .ok (.istore_n 2, 1) := by decide +kernel
theorem dX9_stepsBy_2 : decode cX9_stepsBy 2 = .ok (.iconst 0, 1) := by decide +kernel
theorem dX9_stepsBy_3 : decode cX9_stepsBy 3 = .ok (.istore_n 3, 1) := by decide +kernel
theorem dX9_stepsBy_4 : decode cX9_stepsBy 4 = .ok (.iload_n 3, 1) := by decide +kernel
theorem dX9_stepsBy_5 : decode cX9_stepsBy 5 = .ok (.aload_n 0, 1) := by decide +kernel
theorem dX9_stepsBy_6 : decode cX9_stepsBy 6 = .ok (.getfield 126, 3) := by decide +kernel
theorem dX9_stepsBy_9 : decode cX9_stepsBy 9 = .ok (.if_icmp .ge 52, 3) := by decide +kernel
theorem dX9_stepsBy_12 : decode cX9_stepsBy 12 = .ok (.iload_n 2, 1) := by decide +kernel
theorem dX9_stepsBy_13 : decode cX9_stepsBy 13 = .ok (.iload_n 1, 1) := by decide +kernel
theorem dX9_stepsBy_14 : decode cX9_stepsBy 14 = .ok (.iconst 1, 1) := by decide +kernel
theorem dX9_stepsBy_15 : decode cX9_stepsBy 15 = .ok (.if_icmp .ne 20, 3) := by decide +kernel
theorem dX9_stepsBy_18 : decode cX9_stepsBy 18 = .ok (.aload_n 0, 1) := by decide +kernel
theorem dX9_stepsBy_19 : decode cX9_stepsBy 19 = .ok (.iload_n 3, 1) := by decide +kernel
theorem dX9_stepsBy_20 : decode cX9_stepsBy 20 = .ok (.invokevirtual 146, 3) := by decide +kernel
theorem dX9_stepsBy_23 : decode cX9_stepsBy 23 = .ok (.iconst 4, 1) := by decide +kernel
theorem dX9_stepsBy_24 : decode cX9_stepsBy 24 = .ok (.if_icmp .ne 7, 3) := by decide +kernel
theorem dX9_stepsBy_27 : decode cX9_stepsBy 27 = .ok (.iconst 1, 1) := by decide +kernel
theorem dX9_stepsBy_28 : decode cX9_stepsBy 28 = .ok (.goto 25, 3) := by decide +kernel
theorem dX9_stepsBy_31 : decode cX9_stepsBy 31 = .ok (.iconst 0, 1) := by decide +kernel
theorem dX9_stepsBy_32 : decode cX9_stepsBy 32 = .ok (.goto 21, 3) := by decide +kernel
theorem dX9_stepsBy_35 : decode cX9_stepsBy 35 = .ok (.iload_n 1, 1) := by decide +kernel
theorem dX9_stepsBy_36 : decode cX9_stepsBy 36 = .ok (.iconst 3, 1) := by decide +kernel
theorem dX9_stepsBy_37 : decode cX9_stepsBy 37 = .ok (.if_icmp .ne 11, 3) := by decide +kernel
theorem dX9_stepsBy_40 : decode cX9_stepsBy 40 = .ok (.aload_n 0, 1) := by decide +kernel
theorem dX9_stepsBy_41 : decode cX9_stepsBy 41 = .ok (.iload_n 3, 1) := by decide +kernel
theorem dX9_stepsBy_42 : decode cX9_stepsBy 42 = .ok (.invokevirtual 260, 3) := by decide +kernel
theorem dX9_stepsBy_45 : decode cX9_stepsBy 45 = .ok (.goto 8, 3) := by decide +kernel
theorem dX9_stepsBy_48 : decode cX9_stepsBy 48 = .ok (.aload_n 0, 1) := by decide +kernel
theorem dX9_stepsBy_49 : decode cX9_stepsBy 49 = .ok (.iload_n 3, 1) := by decide +kernel
theorem dX9_stepsBy_50 : decode cX9_stepsBy 50 = .ok (.invokevirtual 263, 3) := by decide +kernel
theorem dX9_stepsBy_53 : decode cX9_stepsBy 53 = .ok (.iadd, 1) := by decide +kernel
theorem dX9_stepsBy_54 : decode cX9_stepsBy 54 = .ok (.istore_n 2, 1) := by decide +kernel
theorem dX9_stepsBy_55 : decode cX9_stepsBy 55 = .ok (.iinc 3 1, 3) := by decide +kernel
theorem dX9_stepsBy_58 : decode cX9_stepsBy 58 = .ok (.goto (-54), 3) := by decide +kernel
theorem dX9_stepsBy_61 : decode cX9_stepsBy 61 = .ok (.iload_n 2, 1) := by decide +kernel
theorem dX9_stepsBy_62 : decode cX9_stepsBy 62 = .ok (.ireturn, 1) := by decide +kernel
theorem dX9_countProgram_0 : decode cX9_countProgram 0 = .ok (.aload_n 0, 1) := by decide +kernel
theorem dX9_countProgram_1 : decode cX9_countProgram 1 = .ok (.invokevirtual 222, 3) := by decide +kernel
theorem dX9_countProgram_4 : decode cX9_countProgram 4 = .ok (.ifCond .eq 5, 3) := by decide +kernel
theorem dX9_countProgram_7 : decode cX9_countProgram 7 = .ok (.iconst 0, 1) := by decide +kernel
theorem dX9_countProgram_8 : decode cX9_countProgram 8 = .ok (.ireturn, 1) := by decide +kernel
theorem dX9_countProgram_9 : decode cX9_countProgram 9 = .ok (.aload_n 0, 1) := by decide +kernel
theorem dX9_countProgram_10 : decode cX9_countProgram 10 = .ok (.invokevirtual 226, 3) := by decide +kernel
theorem dX9_countProgram_13 : decode cX9_countProgram 13 = .ok (.iload_n 1, 1) := by decide +kernel
theorem dX9_countProgram_14 : decode cX9_countProgram 14 = .ok (.iconst 2, 1) := by decide +kernel
theorem dX9_countProgram_15 : decode cX9_countProgram 15 = .ok (.if_icmp .ne 10, 3) := by decide +kernel
theorem dX9_countProgram_18 : decode cX9_countProgram 18 = .ok (.aload_n 0, 1) := by decide +kernel
theorem dX9_countProgram_19 : decode cX9_countProgram 19 = .ok (.getfield 212, 3) := by decide +kernel
theorem dX9_countProgram_22 : decode cX9_countProgram 22 = .ok (.goto 25, 3) := by decide +kernel
theorem dX9_countProgram_25 : decode cX9_countProgram 25 = .ok (.iload_n 1, 1) := by decide +kernel
theorem dX9_countProgram_26 : decode cX9_countProgram 26 = .ok (.iconst 5, 1) := by decide +kernel
theorem dX9_countProgram_27 : decode cX9_countProgram 27 = .ok (.if_icmp .ne 15, 3) := by decide +kernel
theorem dX9_countProgram_30 : decode cX9_countProgram 30 = .ok (.aload_n 0, 1) := by decide +kernel
theorem dX9_countProgram_31 : decode cX9_countProgram 31 = .ok (.getfield 35, 3) := by decide +kernel
theorem dX9_countProgram_34 : decode cX9_countProgram 34 = .ok (.aload_n 0, 1) := by decide +kernel
theorem dX9_countProgram_35 : decode cX9_countProgram 35 = .ok (.getfield 126, 3) := by decide +kernel
theorem dX9_countProgram_38 : decode cX9_countProgram 38 = .ok (.iaload, 1) := by decide +kernel
theorem dX9_countProgram_39 : decode cX9_countProgram 39 = .ok (.goto 8, 3) := by decide +kernel
theorem dX9_countProgram_42 : decode cX9_countProgram 42 = .ok (.aload_n 0, 1) := by decide +kernel
theorem dX9_countProgram_43 : decode cX9_countProgram 43 = .ok (.iload_n 1, 1) := by decide +kernel
theorem dX9_countProgram_44 : decode cX9_countProgram 44 = .ok (.invokevirtual 325, 3) := by decide +kernel
theorem dX9_countProgram_47 : decode cX9_countProgram 47 = .ok (.ireturn, 1) := by decide +kernel
