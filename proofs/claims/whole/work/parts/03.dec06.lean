theorem dX9_freshen_0 : decode cX9_freshen 0 = .ok (.aload_n 0, 1) := by decide +kernel
theorem dX9_freshen_1 : decode cX9_freshen 1 = .ok (.getfield 142, 3) := by decide +kernel
theorem dX9_freshen_4 : decode cX9_freshen 4 = .ok (.ifCond .ne 4, 3) := by decide +kernel
theorem dX9_freshen_7 : decode cX9_freshen 7 = .ok (.return_, 1) := by decide +kernel
theorem dX9_freshen_8 : decode cX9_freshen 8 = .ok (.aload_n 0, 1) := by decide +kernel
theorem dX9_freshen_9 : decode cX9_freshen 9 = .ok (.iconst 0, 1) := by decide +kernel
theorem dX9_freshen_10 : decode cX9_freshen 10 = .ok (.putfield 212, 3) := by decide +kernel
theorem dX9_freshen_13 : decode cX9_freshen 13 = .ok (.iconst 0, 1) := by decide +kernel
theorem dX9_freshen_14 : decode cX9_freshen 14 = .ok (.istore_n 1, 1) := by decide +kernel
theorem dX9_freshen_15 : decode cX9_freshen 15 = .ok (.iload_n 1, 1) := by decide +kernel
theorem dX9_freshen_16 : decode cX9_freshen 16 = .ok (.sipush 4913, 3) := by decide +kernel
theorem dX9_freshen_19 : decode cX9_freshen 19 = .ok (.if_icmp .ge 16, 3) := by decide +kernel
theorem dX9_freshen_22 : decode cX9_freshen 22 = .ok (.aload_n 0, 1) := by decide +kernel
theorem dX9_freshen_23 : decode cX9_freshen 23 = .ok (.getfield 20, 3) := by decide +kernel
theorem dX9_freshen_26 : decode cX9_freshen 26 = .ok (.iload_n 1, 1) := by decide +kernel
theorem dX9_freshen_27 : decode cX9_freshen 27 = .ok (.iconst 1, 1) := by decide +kernel
theorem dX9_freshen_28 : decode cX9_freshen 28 = .ok (.iastore, 1) := by decide +kernel
theorem dX9_freshen_29 : decode cX9_freshen 29 = .ok (.iinc 1 1, 3) := by decide +kernel
theorem dX9_freshen_32 : decode cX9_freshen 32 = .ok (.goto (-17), 3) := by decide +kernel
theorem dX9_freshen_35 : decode cX9_freshen 35 = .ok (.iconst 0, 1) := by decide +kernel
theorem dX9_freshen_36 : decode cX9_freshen 36 = .ok (.istore_n 1, 1) := by decide +kernel
theorem dX9_freshen_37 : decode cX9_freshen 37 = .ok (.iload_n 1, 1) := by decide +kernel
theorem dX9_freshen_38 : decode cX9_freshen 38 = .ok (.aload_n 0, 1) := by decide +kernel
theorem dX9_freshen_39 : decode cX9_freshen 39 = .ok (.getfield 126, 3) := by decide +kernel
theorem dX9_freshen_42 : decode cX9_freshen 42 = .ok (.if_icmp .ge 31, 3) := by decide +kernel
theorem dX9_freshen_45 : decode cX9_freshen 45 = .ok (.aload_n 0, 1) := by decide +kernel
theorem dX9_freshen_46 : decode cX9_freshen 46 = .ok (.iload_n 1, 1) := by decide +kernel
theorem dX9_freshen_47 : decode cX9_freshen 47 = .ok (.invokevirtual 146, 3) := by decide +kernel
theorem dX9_freshen_50 : decode cX9_freshen 50 = .ok (.iconst 4, 1) := by decide +kernel
theorem dX9_freshen_51 : decode cX9_freshen 51 = .ok (.if_icmp .ne 11, 3) := by decide +kernel
theorem dX9_freshen_54 : decode cX9_freshen 54 = .ok (.aload_n 0, 1) := by decide +kernel
theorem dX9_freshen_55 : decode cX9_freshen 55 = .ok (.iload_n 1, 1) := by decide +kernel
theorem dX9_freshen_56 : decode cX9_freshen 56 = .ok (.invokevirtual 219, 3) := by decide +kernel
theorem dX9_freshen_59 : decode cX9_freshen 59 = .ok (.goto 8, 3) := by decide +kernel
theorem dX9_freshen_62 : decode cX9_freshen 62 = .ok (.aload_n 0, 1) := by decide +kernel
theorem dX9_freshen_63 : decode cX9_freshen 63 = .ok (.iload_n 1, 1) := by decide +kernel
theorem dX9_freshen_64 : decode cX9_freshen 64 = .ok (.invokevirtual 198, 3) := by decide +kernel
theorem dX9_freshen_67 : decode cX9_freshen 67 = .ok (.iinc 1 1, 3) := by decide +kernel
theorem dX9_freshen_70 : decode cX9_freshen 70 = .ok (.goto (-33), 3) := by decide +kernel
theorem dX9_freshen_73 : decode cX9_freshen 73 = .ok (.iconst 0, 1) := by decide +kernel
theorem dX9_freshen_74 : decode cX9_freshen 74 = .ok (.istore_n 1, 1) := by decide +kernel
theorem dX9_freshen_75 : decode cX9_freshen 75 = .ok (.iload_n 1, 1) := by decide +kernel
theorem dX9_freshen_76 : decode cX9_freshen 76 = .ok (.aload_n 0, 1) := by decide +kernel
theorem dX9_freshen_77 : decode cX9_freshen 77 = .ok (.getfield 126, 3) := by decide +kernel
theorem dX9_freshen_80 : decode cX9_freshen 80 = .ok (.if_icmp .gt 20, 3) := by decide +kernel
theorem dX9_freshen_83 : decode cX9_freshen 83 = .ok (.aload_n 0, 1) := by decide +kernel
theorem dX9_freshen_84 : decode cX9_freshen 84 = .ok (.getfield 35, 3) := by decide +kernel
theorem dX9_freshen_87 : decode cX9_freshen 87 = .ok (.iload_n 1, 1) := by decide +kernel
theorem dX9_freshen_88 : decode cX9_freshen 88 = .ok (.aload_n 0, 1) := by decide +kernel
theorem dX9_freshen_89 : decode cX9_freshen 89 = .ok (.iload_n 1, 1) := by decide +kernel
theorem dX9_freshen_90 : decode cX9_freshen 90 = .ok (.invokevirtual 185, 3) := by decide +kernel
theorem dX9_freshen_93 : decode cX9_freshen 93 = .ok (.iastore, 1) := by decide +kernel
theorem dX9_freshen_94 : decode cX9_freshen 94 = .ok (.iinc 1 1, 3) := by decide +kernel
theorem dX9_freshen_97 : decode cX9_freshen 97 = .ok (.goto (-22), 3) := by decide +kernel
theorem dX9_freshen_100 : decode cX9_freshen 100 = .ok (.aload_n 0, 1) := by decide +kernel
theorem dX9_freshen_101 : decode cX9_freshen 101 = .ok (.iconst 0, 1) := by decide +kernel
theorem dX9_freshen_102 : decode cX9_freshen 102 = .ok (.putfield 142, 3) := by decide +kernel
theorem dX9_freshen_105 : decode cX9_freshen 105 = .ok (.return_, 1) := by decide +kernel
theorem dX9_isPlace_0 : decode cX9_isPlace 0 = .ok (.aload_n 0, 1) := by decide +kernel
theorem dX9_isPlace_1 : decode cX9_isPlace 1 = .ok (.invokevirtual 222, 3) := by decide +kernel
theorem dX9_isPlace_4 : decode cX9_isPlace 4 = .ok (.ifCond .eq 5, 3) := by decide +kernel
theorem dX9_isPlace_7 : decode cX9_isPlace 7 = .ok (.iconst 0, 1) := by decide +kernel
theorem dX9_isPlace_8 : decode cX9_isPlace 8 = .ok (.ireturn, 1) := by decide +kernel
theorem dX9_isPlace_9 : decode cX9_isPlace 9 = .ok (.aload_n 0, 1) := by decide +kernel
theorem dX9_isPlace_10 : decode cX9_isPlace 10 = .ok (.invokevirtual 226, 3) := by decide +kernel
theorem dX9_isPlace_13 : decode cX9_isPlace 13 = .ok (.iload_n 1, 1) := by decide +kernel
theorem dX9_isPlace_14 : decode cX9_isPlace 14 = .ok (.i2l, 1) := by decide +kernel
theorem dX9_isPlace_15 : decode cX9_isPlace 15 = .ok (.lconst 0, 1) := by decide +kernel
theorem dX9_isPlace_16 : decode cX9_isPlace 16 = .ok (.aload_n 0, 1) := by decide +kernel
theorem dX9_isPlace_17 : decode cX9_isPlace 17 = .ok (.getfield 126, 3) := by decide +kernel
theorem dX9_isPlace_20 : decode cX9_isPlace 20 = .ok (.i2l, 1) := by decide +kernel
theorem dX9_isPlace_21 : decode cX9_isPlace 21 = .ok (.invokestatic 60, 3) := by decide +kernel
theorem dX9_isPlace_24 : decode cX9_isPlace 24 = .ok (.ireturn, 1) := by decide +kernel
theorem dX9_boundOf_0 : decode cX9_boundOf 0 = .ok (.aload_n 0, 1) := by decide +kernel
theorem dX9_boundOf_1 : decode cX9_boundOf 1 = .ok (.getfield 35, 3) := by decide +kernel
theorem dX9_boundOf_4 : decode cX9_boundOf 4 = .ok (.iload_n 1, 1) := by decide +kernel
theorem dX9_boundOf_5 : decode cX9_boundOf 5 = .ok (.iaload, 1) := by decide +kernel
theorem dX9_boundOf_6 : decode cX9_boundOf 6 = .ok (.ifCond .ne 7, 3) := by decide +kernel
theorem dX9_boundOf_9 : decode cX9_boundOf 9 = .ok (.iconst (-1), 1) := by decide +kernel
theorem dX9_boundOf_10 : decode cX9_boundOf 10 = .ok (.goto 13, 3) := by decide +kernel
theorem dX9_boundOf_13 : decode cX9_boundOf 13 = .ok (.bipush 100, 2) := by decide +kernel
theorem dX9_boundOf_15 : decode cX9_boundOf 15 = .ok (.aload_n 0, 1) := by decide +kernel
theorem dX9_boundOf_16 : decode cX9_boundOf 16 = .ok (.iload_n 1, 1) := by decide +kernel
theorem dX9_boundOf_17 : decode cX9_boundOf 17 = .ok (.iload_n 2, 1) := by decide +kernel
theorem dX9_boundOf_18 : decode cX9_boundOf 18 = .ok (.iload_n 3, 1) := by decide +kernel
theorem dX9_boundOf_19 : decode cX9_boundOf 19 = .ok (.invokevirtual 229, 3) := by decide +kernel
theorem dX9_boundOf_22 : decode cX9_boundOf 22 = .ok (.iadd, 1) := by decide +kernel
theorem dX9_boundOf_23 : decode cX9_boundOf 23 = .ok (.ireturn, 1) := by decide +kernel
theorem dX9_bound_0 : decode cX9_bound 0 = .ok (.aload_n 0, 1) := by decide +kernel
theorem dX9_bound_1 : decode cX9_bound 1 = .ok (.iload_n 1, 1) := by decide +kernel
theorem dX9_bound_2 : decode cX9_bound 2 = .ok (.invokevirtual 232, 3) := by decide +kernel
theorem dX9_bound_5 : decode cX9_bound 5 = .ok (.ifCond .ne 6, 3) := by decide +kernel
theorem dX9_bound_8 : decode cX9_bound 8 = .ok (.bipush (-101), 2) := by decide +kernel
theorem dX9_bound_10 : decode cX9_bound 10 = .ok (.ireturn, 1) := by decide +kernel
theorem dX9_bound_11 : decode cX9_bound 11 = .ok (.iload_n 2, 1) := by decide +kernel
theorem dX9_bound_12 : decode cX9_bound 12 = .ok (.i2l, 1) := by decide +kernel
theorem dX9_bound_13 : decode cX9_bound 13 = .ok (.lconst 0, 1) := by decide +kernel
theorem dX9_bound_14 : decode cX9_bound 14 = .ok (.ldc2_w 235, 3) := by decide +kernel
theorem dX9_bound_17 : decode cX9_bound 17 = .ok (.invokestatic 60, 3) := by decide +kernel
theorem dX9_bound_20 : decode cX9_bound 20 = .ok (.ifCond .eq 25, 3) := by decide +kernel
theorem dX9_bound_23 : decode cX9_bound 23 = .ok (.iload_n 3, 1) := by decide +kernel
theorem dX9_bound_24 : decode cX9_bound 24 = .ok (.i2l, 1) := by decide +kernel
theorem dX9_bound_25 : decode cX9_bound 25 = .ok (.lconst 0, 1) := by decide +kernel
theorem dX9_bound_26 : decode cX9_bound 26 = .ok (.ldc2_w 235, 3) := by decide +kernel
theorem dX9_bound_29 : decode cX9_bound 29 = .ok (.invokestatic 60, 3) := by decide +kernel
theorem dX9_bound_32 : decode cX9_bound 32 = .ok (.ifCond .eq 13, 3) := by decide +kernel
theorem dX9_bound_35 : decode cX9_bound 35 = .ok (.aload_n 0, 1) := by decide +kernel
theorem dX9_bound_36 : decode cX9_bound 36 = .ok (.iload_n 1, 1) := by decide +kernel
theorem dX9_bound_37 : decode cX9_bound 37 = .ok (.iload_n 2, 1) := by decide +kernel
theorem dX9_bound_38 : decode cX9_bound 38 = .ok (.iload_n 3, 1) := by decide +kernel
theorem dX9_bound_39 : decode cX9_bound 39 = .ok (.invokevirtual 237, 3) := by decide +kernel
theorem dX9_bound_42 : decode cX9_bound 42 = .ok (.goto 5, 3) := by decide +kernel
theorem dX9_bound_45 : decode cX9_bound 45 = .ok (.bipush (-102), 2) := by decide +kernel
theorem dX9_bound_47 : decode cX9_bound 47 = .ok (.ireturn, 1) := by decide +kernel
theorem dX9_points_0 : decode cX9_points 0 = .ok (.aload_n 0, 1) := by decide +kernel
theorem dX9_points_1 : decode cX9_points 1 = .ok (.iload_n 1, 1) := by decide +kernel
theorem dX9_points_2 : decode cX9_points 2 = .ok (.invokevirtual 232, 3) := by decide +kernel
theorem dX9_points_5 : decode cX9_points 5 = .ok (.ifCond .eq 12, 3) := by decide +kernel
theorem dX9_points_8 : decode cX9_points 8 = .ok (.aload_n 0, 1) := by decide +kernel
theorem dX9_points_9 : decode cX9_points 9 = .ok (.getfield 35, 3) := by decide +kernel
theorem dX9_points_12 : decode cX9_points 12 = .ok (.iload_n 1, 1) := by decide +kernel
theorem dX9_points_13 : decode cX9_points 13 = .ok (.iaload, 1) := by decide +kernel
theorem dX9_points_14 : decode cX9_points 14 = .ok (.goto 5, 3) := by decide +kernel
theorem dX9_points_17 : decode cX9_points 17 = .ok (.bipush (-101), 2) := by decide +kernel
theorem dX9_points_19 : decode cX9_points 19 = .ok (.ireturn, 1) := by decide +kernel
theorem dX9_has_0 : decode cX9_has 0 = .ok (.aload_n 0, 1) := by decide +kernel
theorem dX9_has_1 : decode cX9_has 1 = .ok (.iload_n 1, 1) := by decide +kernel
theorem dX9_has_2 : decode cX9_has 2 = .ok (.invokevirtual 232, 3) := by decide +kernel
theorem dX9_has_5 : decode cX9_has 5 = .ok (.ifCond .ne 6, 3) := by decide +kernel
theorem dX9_has_8 : decode cX9_has 8 = .ok (.bipush (-101), 2) := by decide +kernel
theorem dX9_has_10 : decode cX9_has 10 = .ok (.ireturn, 1) := by decide +kernel
theorem dX9_has_11 : decode cX9_has 11 = .ok (.iload_n 2, 1) := by decide +kernel
theorem dX9_has_12 : decode cX9_has 12 = .ok (.i2l, 1) := by decide +kernel
theorem dX9_has_13 : decode cX9_has 13 = .ok (.ldc2_w 169, 3) := by decide +kernel
theorem dX9_has_16 : decode cX9_has 16 = .ok (.ldc2_w 171, 3) := by decide +kernel
theorem dX9_has_19 : decode cX9_has 19 = .ok (.invokestatic 60, 3) := by decide +kernel
theorem dX9_has_22 : decode cX9_has 22 = .ok (.ifCond .eq 32, 3) := by decide +kernel
theorem dX9_has_25 : decode cX9_has 25 = .ok (.iload_n 3, 1) := by decide +kernel
theorem dX9_has_26 : decode cX9_has 26 = .ok (.i2l, 1) := by decide +kernel
theorem dX9_has_27 : decode cX9_has 27 = .ok (.ldc2_w 169, 3) := by decide +kernel
theorem dX9_has_30 : decode cX9_has 30 = .ok (.ldc2_w 171, 3) := by decide +kernel
theorem dX9_has_33 : decode cX9_has 33 = .ok (.invokestatic 60, 3) := by decide +kernel
theorem dX9_has_36 : decode cX9_has 36 = .ok (.ifCond .eq 18, 3) := by decide +kernel
theorem dX9_has_39 : decode cX9_has 39 = .ok (.iload 4, 2) := by decide +kernel
theorem dX9_has_41 : decode cX9_has 41 = .ok (.i2l, 1) := by decide +kernel
theorem dX9_has_42 : decode cX9_has 42 = .ok (.ldc2_w 169, 3) := by decide +kernel
theorem dX9_has_45 : decode cX9_has 45 = .ok (.ldc2_w 171, 3) := by decide +kernel
theorem dX9_has_48 : decode cX9_has 48 = .ok (.invokestatic 60, 3) := by decide +kernel
theorem dX9_has_51 : decode cX9_has 51 = .ok (.ifCond .ne 6, 3) := by decide +kernel
theorem dX9_has_54 : decode cX9_has 54 = .ok (.bipush (-102), 2) := by decide +kernel
theorem dX9_has_56 : decode cX9_has 56 = .ok (.ireturn, 1) := by decide +kernel
theorem dX9_has_57 : decode cX9_has 57 = .ok (.aload_n 0, 1) := by decide +kernel
theorem dX9_has_58 : decode cX9_has 58 = .ok (.getfield 20, 3) := by decide +kernel
theorem dX9_has_61 : decode cX9_has 61 = .ok (.sipush 4913, 3) := by decide +kernel
theorem dX9_has_64 : decode cX9_has 64 = .ok (.iload_n 1, 1) := by decide +kernel
theorem dX9_has_65 : decode cX9_has 65 = .ok (.imul, 1) := by decide +kernel
theorem dX9_has_66 : decode cX9_has 66 = .ok (.iload_n 2, 1) := by decide +kernel
theorem dX9_has_67 : decode cX9_has 67 = .ok (.iload_n 3, 1) := by decide +kernel
theorem dX9_has_68 : decode cX9_has 68 = .ok (.iload 4, 2) := by decide +kernel
theorem dX9_has_70 : decode cX9_has 70 = .ok (.invokestatic 240, 3) := by decide +kernel
theorem dX9_has_73 : decode cX9_has 73 = .ok (.iadd, 1) := by decide +kernel
theorem dX9_has_74 : decode cX9_has 74 = .ok (.iaload, 1) := by decide +kernel
theorem dX9_has_75 : decode cX9_has 75 = .ok (.ireturn, 1) := by decide +kernel
theorem dX9_bitsOf_0 : decode cX9_bitsOf 0 = .ok (.iload_n 0, 1) := by decide +kernel
theorem dX9_bitsOf_1 : decode cX9_bitsOf 1 = .ok (.ifCond .ne 5, 3) := by decide +kernel
theorem dX9_bitsOf_4 : decode cX9_bitsOf 4 = .ok (.lconst 0, 1) := by decide +kernel
theorem dX9_bitsOf_5 : decode cX9_bitsOf 5 = .ok (.lreturn, 1) := by decide +kernel
theorem dX9_bitsOf_6 : decode cX9_bitsOf 6 = .ok (.iload_n 0, 1) := by decide +kernel
theorem dX9_bitsOf_7 : decode cX9_bitsOf 7 = .ok (.i2l, 1) := by decide +kernel
theorem dX9_bitsOf_8 : decode cX9_bitsOf 8 = .ok (.lstore_n 1, 1) := by decide +kernel
theorem dX9_bitsOf_9 : decode cX9_bitsOf 9 = .ok (.ldc2_w 243, 3) := by decide +kernel
theorem dX9_bitsOf_12 : decode cX9_bitsOf 12 = .ok (.lstore_n 3, 1) := by decide +kernel
theorem dX9_bitsOf_13 : decode cX9_bitsOf 13 = .ok (.lload_n 1, 1) := by decide +kernel
theorem dX9_bitsOf_14 : decode cX9_bitsOf 14 = .ok (.ldc2_w 245, 3) := by decide +kernel
theorem dX9_bitsOf_17 : decode cX9_bitsOf 17 = .ok (.lcmp, 1) := by decide +kernel
theorem dX9_bitsOf_18 : decode cX9_bitsOf 18 = .ok (.ifCond .ge 16, 3) := by decide +kernel
theorem dX9_bitsOf_21 : decode cX9_bitsOf 21 = .ok (.lload_n 1, 1) := by decide +kernel
theorem dX9_bitsOf_22 : decode cX9_bitsOf 22 = .ok (.ldc2_w 247, 3) := by decide +kernel
theorem dX9_bitsOf_25 : decode cX9_bitsOf 25 = .ok (.lmul, 1) := by decide +kernel
theorem dX9_bitsOf_26 : decode cX9_bitsOf 26 = .ok (.lstore_n 1, 1) := by decide +kernel
theorem dX9_bitsOf_27 : decode cX9_bitsOf 27 = .ok (.lload_n 3, 1) := by decide +kernel
theorem dX9_bitsOf_28 : decode cX9_bitsOf 28 = .ok (.lconst 1, 1) := by decide +kernel
theorem dX9_bitsOf_29 : decode cX9_bitsOf 29 = .ok (.lsub, 1) := by decide +kernel
theorem dX9_bitsOf_30 : decode cX9_bitsOf 30 = .ok (.lstore_n 3, 1) := by decide +kernel
theorem dX9_bitsOf_31 : decode cX9_bitsOf 31 = .ok (.goto (-18), 3) := by decide +kernel
theorem dX9_bitsOf_34 : decode cX9_bitsOf 34 = .ok (.iconst 0, 1) := by decide +kernel
theorem dX9_bitsOf_35 : decode cX9_bitsOf 35 = .ok (.istore 5, 2) := by decide +kernel
theorem dX9_bitsOf_37 : decode cX9_bitsOf 37 = .ok (.iload 5, 2) := by decide +kernel
theorem dX9_bitsOf_39 : decode cX9_bitsOf 39 = .ok (.bipush 40, 2) := by decide +kernel
theorem dX9_bitsOf_41 : decode cX9_bitsOf 41 = .ok (.if_icmp .ge 15, 3) := by decide +kernel
theorem dX9_bitsOf_44 : decode cX9_bitsOf 44 = .ok (.lload_n 1, 1) := by decide +kernel
theorem dX9_bitsOf_45 : decode cX9_bitsOf 45 = .ok (.ldc2_w 247, 3) := by decide +kernel
theorem dX9_bitsOf_48 : decode cX9_bitsOf 48 = .ok (.lmul, 1) := by decide +kernel
theorem dX9_bitsOf_49 : decode cX9_bitsOf 49 = .ok (.lstore_n 1, 1) := by decide +kernel
theorem dX9_bitsOf_50 : decode cX9_bitsOf 50 = .ok (.iinc 5 1, 3) := by decide +kernel
theorem dX9_bitsOf_53 : decode cX9_bitsOf 53 = .ok (.goto (-16), 3) := by decide +kernel
theorem dX9_bitsOf_56 : decode cX9_bitsOf 56 = .ok (.lload_n 1, 1) := by decide +kernel
theorem dX9_bitsOf_57 : decode cX9_bitsOf 57 = .ok (.ldc2_w 245, 3) := by decide +kernel
theorem dX9_bitsOf_60 : decode cX9_bitsOf 60 = .ok (.ldiv, 1) := by decide +kernel
theorem dX9_bitsOf_61 : decode cX9_bitsOf 61 = .ok (.lstore 5, 2) := by decide +kernel
theorem dX9_bitsOf_63 : decode cX9_bitsOf 63 = .ok (.lload_n 1, 1) := by decide +kernel
theorem dX9_bitsOf_64 : decode cX9_bitsOf 64 = .ok (.ldc2_w 245, 3) := by decide +kernel
theorem dX9_bitsOf_67 : decode cX9_bitsOf 67 = .ok (.lrem, 1) := by decide +kernel
theorem dX9_bitsOf_68 : decode cX9_bitsOf 68 = .ok (.lstore 7, 2) := by decide +kernel
theorem dX9_bitsOf_70 : decode cX9_bitsOf 70 = .ok (.iconst 0, 1) := by decide +kernel
theorem dX9_bitsOf_71 : decode cX9_bitsOf 71 = .ok (.istore 9, 2) := by decide +kernel
theorem dX9_bitsOf_73 : decode cX9_bitsOf 73 = .ok (.iload 9, 2) := by decide +kernel
theorem dX9_bitsOf_75 : decode cX9_bitsOf 75 = .ok (.bipush 12, 2) := by decide +kernel
theorem dX9_bitsOf_77 : decode cX9_bitsOf 77 = .ok (.if_icmp .ge 61, 3) := by decide +kernel
theorem dX9_bitsOf_80 : decode cX9_bitsOf 80 = .ok (.lload 7, 2) := by decide +kernel
theorem dX9_bitsOf_82 : decode cX9_bitsOf 82 = .ok (.ldc2_w 247, 3) := by decide +kernel
theorem dX9_bitsOf_85 : decode cX9_bitsOf 85 = .ok (.lmul, 1) := by decide +kernel
theorem dX9_bitsOf_86 : decode cX9_bitsOf 86 = .ok (.lstore 7, 2) := by decide +kernel
theorem dX9_bitsOf_88 : decode cX9_bitsOf 88 = .ok (.ldc2_w 247, 3) := by decide +kernel
theorem dX9_bitsOf_91 : decode cX9_bitsOf 91 = .ok (.lload 5, 2) := by decide +kernel
theorem dX9_bitsOf_93 : decode cX9_bitsOf 93 = .ok (.lmul, 1) := by decide +kernel
theorem dX9_bitsOf_94 : decode cX9_bitsOf 94 = .ok (.lload 7, 2) := by decide +kernel
theorem dX9_bitsOf_96 : decode cX9_bitsOf 96 = .ok (.ldc2_w 245, 3) := by decide +kernel
theorem dX9_bitsOf_99 : decode cX9_bitsOf 99 = .ok (.lcmp, 1) := by decide +kernel
theorem dX9_bitsOf_100 : decode cX9_bitsOf 100 = .ok (.ifCond .lt 7, 3) := by decide +kernel
theorem dX9_bitsOf_103 : decode cX9_bitsOf 103 = .ok (.lconst 1, 1) := by decide +kernel
theorem dX9_bitsOf_104 : decode cX9_bitsOf 104 = .ok (.goto 4, 3) := by decide +kernel
theorem dX9_bitsOf_107 : decode cX9_bitsOf 107 = .ok (.lconst 0, 1) := by decide +kernel
theorem dX9_bitsOf_108 : decode cX9_bitsOf 108 = .ok (.ladd, 1) := by decide +kernel
theorem dX9_bitsOf_109 : decode cX9_bitsOf 109 = .ok (.lstore 5, 2) := by decide +kernel
theorem dX9_bitsOf_111 : decode cX9_bitsOf 111 = .ok (.lload 7, 2) := by decide +kernel
theorem dX9_bitsOf_113 : decode cX9_bitsOf 113 = .ok (.lload 7, 2) := by decide +kernel
theorem dX9_bitsOf_115 : decode cX9_bitsOf 115 = .ok (.ldc2_w 245, 3) := by decide +kernel
theorem dX9_bitsOf_118 : decode cX9_bitsOf 118 = .ok (.lcmp, 1) := by decide +kernel
theorem dX9_bitsOf_119 : decode cX9_bitsOf 119 = .ok (.ifCond .lt 9, 3) := by decide +kernel
theorem dX9_bitsOf_122 : decode cX9_bitsOf 122 = .ok (.ldc2_w 245, 3) := by decide +kernel
theorem dX9_bitsOf_125 : decode cX9_bitsOf 125 = .ok (.goto 4, 3) := by decide +kernel
theorem dX9_bitsOf_128 : decode cX9_bitsOf 128 = .ok (.lconst 0, 1) := by decide +kernel
theorem dX9_bitsOf_129 : decode cX9_bitsOf 129 = .ok (.lsub, 1) := by decide +kernel
theorem dX9_bitsOf_130 : decode cX9_bitsOf 130 = .ok (.lstore 7, 2) := by decide +kernel
theorem dX9_bitsOf_132 : decode cX9_bitsOf 132 = .ok (.iinc 9 1, 3) := by decide +kernel
theorem dX9_bitsOf_135 : decode cX9_bitsOf 135 = .ok (.goto (-62), 3) := by decide +kernel
theorem dX9_bitsOf_138 : decode cX9_bitsOf 138 = .ok (.lload 5, 2) := by decide +kernel
theorem dX9_bitsOf_140 : decode cX9_bitsOf 140 = .ok (.ldc2_w 247, 3) := by decide +kernel
theorem dX9_bitsOf_143 : decode cX9_bitsOf 143 = .ok (.lload 7, 2) := by decide +kernel
theorem dX9_bitsOf_145 : decode cX9_bitsOf 145 = .ok (.lmul, 1) := by decide +kernel
theorem dX9_bitsOf_146 : decode cX9_bitsOf 146 = .ok (.ldc2_w 245, 3) := by decide +kernel
theorem dX9_bitsOf_149 : decode cX9_bitsOf 149 = .ok (.lcmp, 1) := by decide +kernel
theorem dX9_bitsOf_150 : decode cX9_bitsOf 150 = .ok (.ifCond .gt 27, 3) := by decide +kernel
theorem dX9_bitsOf_153 : decode cX9_bitsOf 153 = .ok (.ldc2_w 247, 3) := by decide +kernel
theorem dX9_bitsOf_156 : decode cX9_bitsOf 156 = .ok (.lload 7, 2) := by decide +kernel
theorem dX9_bitsOf_158 : decode cX9_bitsOf 158 = .ok (.lmul, 1) := by decide +kernel
theorem dX9_bitsOf_159 : decode cX9_bitsOf 159 = .ok (.ldc2_w 245, 3) := by decide +kernel
theorem dX9_bitsOf_162 : decode cX9_bitsOf 162 = .ok (.lcmp, 1) := by decide +kernel
theorem dX9_bitsOf_163 : decode cX9_bitsOf 163 = .ok (.ifCond .ne 18, 3) := by decide +kernel
theorem dX9_bitsOf_166 : decode cX9_bitsOf 166 = .ok (.lload 5, 2) := by decide +kernel
theorem dX9_bitsOf_168 : decode cX9_bitsOf 168 = .ok (.ldc2_w 247, 3) := by decide +kernel
theorem dX9_bitsOf_171 : decode cX9_bitsOf 171 = .ok (.lrem, 1) := by decide +kernel
theorem dX9_bitsOf_172 : decode cX9_bitsOf 172 = .ok (.lconst 1, 1) := by decide +kernel
theorem dX9_bitsOf_173 : decode cX9_bitsOf 173 = .ok (.lcmp, 1) := by decide +kernel
theorem dX9_bitsOf_174 : decode cX9_bitsOf 174 = .ok (.ifCond .ne 7, 3) := by decide +kernel
theorem dX9_bitsOf_177 : decode cX9_bitsOf 177 = .ok (.lconst 1, 1) := by decide +kernel
theorem dX9_bitsOf_178 : decode cX9_bitsOf 178 = .ok (.goto 4, 3) := by decide +kernel
theorem dX9_bitsOf_181 : decode cX9_bitsOf 181 = .ok (.lconst 0, 1) := by decide +kernel
theorem dX9_bitsOf_182 : decode cX9_bitsOf 182 = .ok (.ladd, 1) := by decide +kernel
theorem dX9_bitsOf_183 : decode cX9_bitsOf 183 = .ok (.lstore 5, 2) := by decide +kernel
theorem dX9_bitsOf_185 : decode cX9_bitsOf 185 = .ok (.lload_n 3, 1) := by decide +kernel
theorem dX9_bitsOf_186 : decode cX9_bitsOf 186 = .ok (.bipush 52, 2) := by decide +kernel
theorem dX9_bitsOf_188 : decode cX9_bitsOf 188 = .ok (.lshl, 1) := by decide +kernel
theorem dX9_bitsOf_189 : decode cX9_bitsOf 189 = .ok (.lload 5, 2) := by decide +kernel
theorem dX9_bitsOf_191 : decode cX9_bitsOf 191 = .ok (.ladd, 1) := by decide +kernel
theorem dX9_bitsOf_192 : decode cX9_bitsOf 192 = .ok (.ldc2_w 249, 3) := by decide +kernel
theorem dX9_bitsOf_195 : decode cX9_bitsOf 195 = .ok (.lsub, 1) := by decide +kernel
theorem dX9_bitsOf_196 : decode cX9_bitsOf 196 = .ok (.lreturn, 1) := by decide +kernel
theorem dX9_share_0 : decode cX9_share 0 = .ok (.aload_n 0, 1) := by decide +kernel
theorem dX9_share_1 : decode cX9_share 1 = .ok (.iload_n 1, 1) := by decide +kernel
theorem dX9_share_2 : decode cX9_share 2 = .ok (.invokevirtual 232, 3) := by decide +kernel
theorem dX9_share_5 : decode cX9_share 5 = .ok (.ifCond .eq 15, 3) := by decide +kernel
theorem dX9_share_8 : decode cX9_share 8 = .ok (.aload_n 0, 1) := by decide +kernel
theorem dX9_share_9 : decode cX9_share 9 = .ok (.getfield 35, 3) := by decide +kernel
theorem dX9_share_12 : decode cX9_share 12 = .ok (.iload_n 1, 1) := by decide +kernel
theorem dX9_share_13 : decode cX9_share 13 = .ok (.iaload, 1) := by decide +kernel
theorem dX9_share_14 : decode cX9_share 14 = .ok (.invokestatic 251, 3) := by decide +kernel
theorem dX9_share_17 : decode cX9_share 17 = .ok (.goto 6, 3) := by decide +kernel
theorem dX9_share_20 : decode cX9_share 20 = .ok (.ldc2_w 255, 3) := by decide +kernel
theorem dX9_share_23 : decode cX9_share 23 = .ok (.lreturn, 1) := by decide +kernel
theorem dX9_compareOf_0 : decode cX9_compareOf 0 = .ok (.iconst 1, 1) := by decide +kernel
theorem dX9_compareOf_1 : decode cX9_compareOf 1 = .ok (.istore_n 3, 1) := by decide +kernel
theorem dX9_compareOf_2 : decode cX9_compareOf 2 = .ok (.iconst 1, 1) := by decide +kernel
theorem dX9_compareOf_3 : decode cX9_compareOf 3 = .ok (.istore 4, 2) := by decide +kernel
theorem dX9_compareOf_5 : decode cX9_compareOf 5 = .ok (.iconst 0, 1) := by decide +kernel
theorem dX9_compareOf_6 : decode cX9_compareOf 6 = .ok (.istore 5, 2) := by decide +kernel
theorem dX9_compareOf_8 : decode cX9_compareOf 8 = .ok (.iconst 0, 1) := by decide +kernel
theorem dX9_compareOf_9 : decode cX9_compareOf 9 = .ok (.istore 6, 2) := by decide +kernel
theorem dX9_compareOf_11 : decode cX9_compareOf 11 = .ok (.iload 6, 2) := by decide +kernel
theorem dX9_compareOf_13 : decode cX9_compareOf 13 = .ok (.sipush 4913, 3) := by decide +kernel
theorem dX9_compareOf_16 : decode cX9_compareOf 16 = .ok (.if_icmp .ge 96, 3) := by decide +kernel
theorem dX9_compareOf_19 : decode cX9_compareOf 19 = .ok (.aload_n 0, 1) := by decide +kernel
theorem dX9_compareOf_20 : decode cX9_compareOf 20 = .ok (.getfield 20, 3) := by decide +kernel
theorem dX9_compareOf_23 : decode cX9_compareOf 23 = .ok (.sipush 4913, 3) := by decide +kernel
theorem dX9_compareOf_26 : decode cX9_compareOf 26 = .ok (.iload_n 1, 1) := by decide +kernel
theorem dX9_compareOf_27 : decode cX9_compareOf 27 = .ok (.imul, 1) := by decide +kernel
theorem dX9_compareOf_28 : decode cX9_compareOf 28 = .ok (.iload 6, 2) := by decide +kernel
theorem dX9_compareOf_30 : decode cX9_compareOf 30 = .ok (.iadd, 1) := by decide +kernel
theorem dX9_compareOf_31 : decode cX9_compareOf 31 = .ok (.iaload, 1) := by decide +kernel
theorem dX9_compareOf_32 : decode cX9_compareOf 32 = .ok (.istore 7, 2) := by decide +kernel
theorem dX9_compareOf_34 : decode cX9_compareOf 34 = .ok (.aload_n 0, 1) := by decide +kernel
theorem dX9_compareOf_35 : decode cX9_compareOf 35 = .ok (.getfield 20, 3) := by decide +kernel
theorem dX9_compareOf_38 : decode cX9_compareOf 38 = .ok (.sipush 4913, 3) := by decide +kernel
theorem dX9_compareOf_41 : decode cX9_compareOf 41 = .ok (.iload_n 2, 1) := by decide +kernel
theorem dX9_compareOf_42 : decode cX9_compareOf 42 = .ok (.imul, 1) := by decide +kernel
theorem dX9_compareOf_43 : decode cX9_compareOf 43 = .ok (.iload 6, 2) := by decide +kernel
theorem dX9_compareOf_45 : decode cX9_compareOf 45 = .ok (.iadd, 1) := by decide +kernel
theorem dX9_compareOf_46 : decode cX9_compareOf 46 = .ok (.iaload, 1) := by decide +kernel
theorem dX9_compareOf_47 : decode cX9_compareOf 47 = .ok (.istore 8, 2) := by decide +kernel
theorem dX9_compareOf_49 : decode cX9_compareOf 49 = .ok (.iload_n 3, 1) := by decide +kernel
theorem dX9_compareOf_50 : decode cX9_compareOf 50 = .ok (.ifCond .eq 14, 3) := by decide +kernel
theorem dX9_compareOf_53 : decode cX9_compareOf 53 = .ok (.iload 7, 2) := by decide +kernel
theorem dX9_compareOf_55 : decode cX9_compareOf 55 = .ok (.iload 8, 2) := by decide +kernel
theorem dX9_compareOf_57 : decode cX9_compareOf 57 = .ok (.if_icmp .gt 7, 3) := by decide +kernel
theorem dX9_compareOf_60 : decode cX9_compareOf 60 = .ok (.iconst 1, 1) := by decide +kernel
theorem dX9_compareOf_61 : decode cX9_compareOf 61 = .ok (.goto 4, 3) := by decide +kernel
theorem dX9_compareOf_64 : decode cX9_compareOf 64 = .ok (.iconst 0, 1) := by decide +kernel
theorem dX9_compareOf_65 : decode cX9_compareOf 65 = .ok (.istore_n 3, 1) := by decide +kernel
theorem dX9_compareOf_66 : decode cX9_compareOf 66 = .ok (.iload 4, 2) := by decide +kernel
theorem dX9_compareOf_68 : decode cX9_compareOf 68 = .ok (.ifCond .eq 14, 3) := by decide +kernel
theorem dX9_compareOf_71 : decode cX9_compareOf 71 = .ok (.iload 8, 2) := by decide +kernel
theorem dX9_compareOf_73 : decode cX9_compareOf 73 = .ok (.iload 7, 2) := by decide +kernel
theorem dX9_compareOf_75 : decode cX9_compareOf 75 = .ok (.if_icmp .gt 7, 3) := by decide +kernel
theorem dX9_compareOf_78 : decode cX9_compareOf 78 = .ok (.iconst 1, 1) := by decide +kernel
theorem dX9_compareOf_79 : decode cX9_compareOf 79 = .ok (.goto 4, 3) := by decide +kernel
theorem dX9_compareOf_82 : decode cX9_compareOf 82 = .ok (.iconst 0, 1) := by decide +kernel
theorem dX9_compareOf_83 : decode cX9_compareOf 83 = .ok (.istore 4, 2) := by decide +kernel
theorem dX9_compareOf_85 : decode cX9_compareOf 85 = .ok (.iload 5, 2) := by decide +kernel
theorem dX9_compareOf_87 : decode cX9_compareOf 87 = .ok (.ifCond .ne 12, 3) := by decide +kernel
theorem dX9_compareOf_90 : decode cX9_compareOf 90 = .ok (.iload 7, 2) := by decide +kernel
theorem dX9_compareOf_92 : decode cX9_compareOf 92 = .ok (.iload 8, 2) := by decide +kernel
theorem dX9_compareOf_94 : decode cX9_compareOf 94 = .ok (.iadd, 1) := by decide +kernel
theorem dX9_compareOf_95 : decode cX9_compareOf 95 = .ok (.iconst 2, 1) := by decide +kernel
theorem dX9_compareOf_96 : decode cX9_compareOf 96 = .ok (.if_icmp .ne 7, 3) := by decide +kernel
theorem dX9_compareOf_99 : decode cX9_compareOf 99 = .ok (.iconst 1, 1) := by decide +kernel
theorem dX9_compareOf_100 : decode cX9_compareOf 100 = .ok (.goto 4, 3) := by decide +kernel
theorem dX9_compareOf_103 : decode cX9_compareOf 103 = .ok (.iconst 0, 1) := by decide +kernel
theorem dX9_compareOf_104 : decode cX9_compareOf 104 = .ok (.istore 5, 2) := by decide +kernel
theorem dX9_compareOf_106 : decode cX9_compareOf 106 = .ok (.iinc 6 1, 3) := by decide +kernel
theorem dX9_compareOf_109 : decode cX9_compareOf 109 = .ok (.goto (-98), 3) := by decide +kernel
theorem dX9_compareOf_112 : decode cX9_compareOf 112 = .ok (.iload_n 3, 1) := by decide +kernel
theorem dX9_compareOf_113 : decode cX9_compareOf 113 = .ok (.ifCond .eq 12, 3) := by decide +kernel
theorem dX9_compareOf_116 : decode cX9_compareOf 116 = .ok (.iload 4, 2) := by decide +kernel
theorem dX9_compareOf_118 : decode cX9_compareOf 118 = .ok (.ifCond .eq 7, 3) := by decide +kernel
theorem dX9_compareOf_121 : decode cX9_compareOf 121 = .ok (.iconst 0, 1) := by decide +kernel
theorem dX9_compareOf_122 : decode cX9_compareOf 122 = .ok (.goto 30, 3) := by decide +kernel
theorem dX9_compareOf_125 : decode cX9_compareOf 125 = .ok (.iload_n 3, 1) := by decide +kernel
theorem dX9_compareOf_126 : decode cX9_compareOf 126 = .ok (.ifCond .eq 7, 3) := by decide +kernel
theorem dX9_compareOf_129 : decode cX9_compareOf 129 = .ok (.iconst 1, 1) := by decide +kernel
theorem dX9_compareOf_130 : decode cX9_compareOf 130 = .ok (.goto 22, 3) := by decide +kernel
theorem dX9_compareOf_133 : decode cX9_compareOf 133 = .ok (.iload 4, 2) := by decide +kernel
theorem dX9_compareOf_135 : decode cX9_compareOf 135 = .ok (.ifCond .eq 7, 3) := by decide +kernel
theorem dX9_compareOf_138 : decode cX9_compareOf 138 = .ok (.iconst 2, 1) := by decide +kernel
theorem dX9_compareOf_139 : decode cX9_compareOf 139 = .ok (.goto 13, 3) := by decide +kernel
theorem dX9_compareOf_142 : decode cX9_compareOf 142 = .ok (.iload 5, 2) := by decide +kernel
theorem dX9_compareOf_144 : decode cX9_compareOf 144 = .ok (.ifCond .eq 7, 3) := by decide +kernel
theorem dX9_compareOf_147 : decode cX9_compareOf 147 = .ok (.iconst 3, 1) := by decide +kernel
theorem dX9_compareOf_148 : decode cX9_compareOf 148 = .ok (.goto 4, 3) := by decide +kernel
theorem dX9_compareOf_151 : decode cX9_compareOf 151 = .ok (.iconst 4, 1) := by decide +kernel
theorem dX9_compareOf_152 : decode cX9_compareOf 152 = .ok (.ireturn, 1) := by decide +kernel
theorem dX9_compare_0 : decode cX9_compare 0 = .ok (.aload_n 0, 1) := by decide +kernel
theorem dX9_compare_1 : decode cX9_compare 1 = .ok (.iload_n 1, 1) := by decide +kernel
theorem dX9_compare_2 : decode cX9_compare 2 = .ok (.invokevirtual 232, 3) := by decide +kernel
theorem dX9_compare_5 : decode cX9_compare 5 = .ok (.ifCond .eq 20, 3) := by decide +kernel
theorem dX9_compare_8 : decode cX9_compare 8 = .ok (.aload_n 0, 1) := by decide +kernel
theorem dX9_compare_9 : decode cX9_compare 9 = .ok (.iload_n 2, 1) := by decide +kernel
theorem dX9_compare_10 : decode cX9_compare 10 = .ok (.invokevirtual 232, 3) := by decide +kernel
theorem dX9_compare_13 : decode cX9_compare 13 = .ok (.ifCond .eq 12, 3) := by decide +kernel
theorem dX9_compare_16 : decode cX9_compare 16 = .ok (.aload_n 0, 1) := by decide +kernel
theorem dX9_compare_17 : decode cX9_compare 17 = .ok (.iload_n 1, 1) := by decide +kernel
theorem dX9_compare_18 : decode cX9_compare 18 = .ok (.iload_n 2, 1) := by decide +kernel
theorem dX9_compare_19 : decode cX9_compare 19 = .ok (.invokevirtual 257, 3) := by decide +kernel
theorem dX9_compare_22 : decode cX9_compare 22 = .ok (.goto 5, 3) := by decide +kernel
theorem dX9_compare_25 : decode cX9_compare 25 = .ok (.bipush (-101), 2) := by decide +kernel
theorem dX9_compare_27 : decode cX9_compare 27 = .ok (.ireturn, 1) := by decide +kernel
theorem dX9_dead_0 : decode cX9_dead 0 = .ok (.aload_n 0, 1) := by decide +kernel
theorem dX9_dead_1 : decode cX9_dead 1 = .ok (.getfield 35, 3) := by decide +kernel
theorem dX9_dead_4 : decode cX9_dead 4 = .ok (.iload_n 1, 1) := by decide +kernel
theorem dX9_dead_5 : decode cX9_dead 5 = .ok (.iaload, 1) := by decide +kernel
theorem dX9_dead_6 : decode cX9_dead 6 = .ok (.ifCond .ne 7, 3) := by decide +kernel
theorem dX9_dead_9 : decode cX9_dead 9 = .ok (.iconst 1, 1) := by decide +kernel
theorem dX9_dead_10 : decode cX9_dead 10 = .ok (.goto 4, 3) := by decide +kernel
theorem dX9_dead_13 : decode cX9_dead 13 = .ok (.iconst 0, 1) := by decide +kernel
theorem dX9_dead_14 : decode cX9_dead 14 = .ok (.ireturn, 1) := by decide +kernel
theorem dX9_idle_0 : decode cX9_idle 0 = .ok (.aload_n 0, 1) := by decide +kernel
theorem dX9_idle_1 : decode cX9_idle 1 = .ok (.iload_n 1, 1) := by decide +kernel
theorem dX9_idle_2 : decode cX9_idle 2 = .ok (.invokevirtual 146, 3) := by decide +kernel
theorem dX9_idle_5 : decode cX9_idle 5 = .ok (.iconst 4, 1) := by decide +kernel
theorem dX9_idle_6 : decode cX9_idle 6 = .ok (.if_icmp .eq 44, 3) := by decide +kernel
theorem dX9_idle_9 : decode cX9_idle 9 = .ok (.aload_n 0, 1) := by decide +kernel
theorem dX9_idle_10 : decode cX9_idle 10 = .ok (.getfield 35, 3) := by decide +kernel
theorem dX9_idle_13 : decode cX9_idle 13 = .ok (.iload_n 1, 1) := by decide +kernel
theorem dX9_idle_14 : decode cX9_idle 14 = .ok (.iaload, 1) := by decide +kernel
theorem dX9_idle_15 : decode cX9_idle 15 = .ok (.ifCond .le 35, 3) := by decide +kernel
theorem dX9_idle_18 : decode cX9_idle 18 = .ok (.aload_n 0, 1) := by decide +kernel
theorem dX9_idle_19 : decode cX9_idle 19 = .ok (.getfield 35, 3) := by decide +kernel
theorem dX9_idle_22 : decode cX9_idle 22 = .ok (.iload_n 1, 1) := by decide +kernel
theorem dX9_idle_23 : decode cX9_idle 23 = .ok (.iaload, 1) := by decide +kernel
theorem dX9_idle_24 : decode cX9_idle 24 = .ok (.aload_n 0, 1) := by decide +kernel
theorem dX9_idle_25 : decode cX9_idle 25 = .ok (.getfield 35, 3) := by decide +kernel
theorem dX9_idle_28 : decode cX9_idle 28 = .ok (.iload_n 1, 1) := by decide +kernel
theorem dX9_idle_29 : decode cX9_idle 29 = .ok (.iconst 1, 1) := by decide +kernel
theorem dX9_idle_30 : decode cX9_idle 30 = .ok (.iadd, 1) := by decide +kernel
theorem dX9_idle_31 : decode cX9_idle 31 = .ok (.iaload, 1) := by decide +kernel
theorem dX9_idle_32 : decode cX9_idle 32 = .ok (.if_icmp .ne 18, 3) := by decide +kernel
theorem dX9_idle_35 : decode cX9_idle 35 = .ok (.aload_n 0, 1) := by decide +kernel
theorem dX9_idle_36 : decode cX9_idle 36 = .ok (.iload_n 1, 1) := by decide +kernel
theorem dX9_idle_37 : decode cX9_idle 37 = .ok (.iload_n 1, 1) := by decide +kernel
theorem dX9_idle_38 : decode cX9_idle 38 = .ok (.iconst 1, 1) := by decide +kernel
theorem dX9_idle_39 : decode cX9_idle 39 = .ok (.iadd, 1) := by decide +kernel
theorem dX9_idle_40 : decode cX9_idle 40 = .ok (.invokevirtual 208, 3) := by decide +kernel
theorem dX9_idle_43 : decode cX9_idle 43 = .ok (.ifCond .eq 7, 3) := by decide +kernel
theorem dX9_idle_46 : decode cX9_idle 46 = .ok (.iconst 1, 1) := by decide +kernel
theorem dX9_idle_47 : decode cX9_idle 47 = .ok (.goto 4, 3) := by decide +kernel
theorem dX9_idle_50 : decode cX9_idle 50 = .ok (.iconst 0, 1) := by decide +kernel
theorem dX9_idle_51 : decode cX9_idle 51 = .ok (.ireturn, 1) := by decide +kernel
theorem dX9_tellStep_0 : decode cX9_tellStep 0 = .ok (.aload_n 0, 1) := by decide +kernel
theorem dX9_tellStep_1 : decode cX9_tellStep 1 = .ok (.invokevirtual 226, 3) := by decide +kernel
theorem dX9_tellStep_4 : decode cX9_tellStep 4 = .ok (.iload_n 2, 1) := by decide +kernel
theorem dX9_tellStep_5 : decode cX9_tellStep 5 = .ok (.tableswitch 112 0 8 #[51, 51, 51, 51, 62, 68, 94, 100, 106], 51) := by decide +kernel
theorem dX9_tellStep_56 : decode cX9_tellStep 56 = .ok (.aload_n 0, 1) := by decide +kernel
theorem dX9_tellStep_57 : decode cX9_tellStep 57 = .ok (.getfield 16, 3) := by decide +kernel
theorem dX9_tellStep_60 : decode cX9_tellStep 60 = .ok (.iconst 4, 1) := by decide +kernel
theorem dX9_tellStep_61 : decode cX9_tellStep 61 = .ok (.iload_n 1, 1) := by decide +kernel
theorem dX9_tellStep_62 : decode cX9_tellStep 62 = .ok (.imul, 1) := by decide +kernel
theorem dX9_tellStep_63 : decode cX9_tellStep 63 = .ok (.iload_n 2, 1) := by decide +kernel
theorem dX9_tellStep_64 : decode cX9_tellStep 64 = .ok (.iadd, 1) := by decide +kernel
theorem dX9_tellStep_65 : decode cX9_tellStep 65 = .ok (.iaload, 1) := by decide +kernel
theorem dX9_tellStep_66 : decode cX9_tellStep 66 = .ok (.ireturn, 1) := by decide +kernel
theorem dX9_tellStep_67 : decode cX9_tellStep 67 = .ok (.aload_n 0, 1) := by decide +kernel
theorem dX9_tellStep_68 : decode cX9_tellStep 68 = .ok (.iload_n 1, 1) := by decide +kernel
theorem dX9_tellStep_69 : decode cX9_tellStep 69 = .ok (.invokevirtual 260, 3) := by decide +kernel
theorem dX9_tellStep_72 : decode cX9_tellStep 72 = .ok (.ireturn, 1) := by decide +kernel
theorem dX9_tellStep_73 : decode cX9_tellStep 73 = .ok (.aload_n 0, 1) := by decide +kernel
theorem dX9_tellStep_74 : decode cX9_tellStep 74 = .ok (.getfield 35, 3) := by decide +kernel
theorem dX9_tellStep_77 : decode cX9_tellStep 77 = .ok (.iload_n 1, 1) := by decide +kernel
theorem dX9_tellStep_78 : decode cX9_tellStep 78 = .ok (.iaload, 1) := by decide +kernel
theorem dX9_tellStep_79 : decode cX9_tellStep 79 = .ok (.ifCond .le 18, 3) := by decide +kernel
theorem dX9_tellStep_82 : decode cX9_tellStep 82 = .ok (.aload_n 0, 1) := by decide +kernel
theorem dX9_tellStep_83 : decode cX9_tellStep 83 = .ok (.getfield 35, 3) := by decide +kernel
theorem dX9_tellStep_86 : decode cX9_tellStep 86 = .ok (.iload_n 1, 1) := by decide +kernel
theorem dX9_tellStep_87 : decode cX9_tellStep 87 = .ok (.iconst 1, 1) := by decide +kernel
theorem dX9_tellStep_88 : decode cX9_tellStep 88 = .ok (.iadd, 1) := by decide +kernel
theorem dX9_tellStep_89 : decode cX9_tellStep 89 = .ok (.iaload, 1) := by decide +kernel
theorem dX9_tellStep_90 : decode cX9_tellStep 90 = .ok (.ifCond .ne 7, 3) := by decide +kernel
theorem dX9_tellStep_93 : decode cX9_tellStep 93 = .ok (.iconst 1, 1) := by decide +kernel
theorem dX9_tellStep_94 : decode cX9_tellStep 94 = .ok (.goto 4, 3) := by decide +kernel
theorem dX9_tellStep_97 : decode cX9_tellStep 97 = .ok (.iconst 0, 1) := by decide +kernel
theorem dX9_tellStep_98 : decode cX9_tellStep 98 = .ok (.ireturn, 1) := by decide +kernel
theorem dX9_tellStep_99 : decode cX9_tellStep 99 = .ok (.aload_n 0, 1) := by decide +kernel
theorem dX9_tellStep_100 : decode cX9_tellStep 100 = .ok (.iload_n 1, 1) := by decide +kernel
theorem dX9_tellStep_101 : decode cX9_tellStep 101 = .ok (.invokevirtual 263, 3) := by decide +kernel
theorem dX9_tellStep_104 : decode cX9_tellStep 104 = .ok (.ireturn, 1) := by decide +kernel
theorem dX9_tellStep_105 : decode cX9_tellStep 105 = .ok (.aload_n 0, 1) := by decide +kernel
theorem dX9_tellStep_106 : decode cX9_tellStep 106 = .ok (.iload_n 1, 1) := by decide +kernel
theorem dX9_tellStep_107 : decode cX9_tellStep 107 = .ok (.invokevirtual 266, 3) := by decide +kernel
theorem dX9_tellStep_110 : decode cX9_tellStep 110 = .ok (.ireturn, 1) := by decide +kernel
theorem dX9_tellStep_111 : decode cX9_tellStep 111 = .ok (.aload_n 0, 1) := by decide +kernel
theorem dX9_tellStep_112 : decode cX9_tellStep 112 = .ok (.iload_n 1, 1) := by decide +kernel
theorem dX9_tellStep_113 : decode cX9_tellStep 113 = .ok (.invokevirtual 269, 3) := by decide +kernel
theorem dX9_tellStep_116 : decode cX9_tellStep 116 = .ok (.ireturn, 1) := by decide +kernel
theorem dX9_tellStep_117 : decode cX9_tellStep 117 = .ok (.bipush (-102), 2) := by decide +kernel
theorem dX9_tellStep_119 : decode cX9_tellStep 119 = .ok (.ireturn, 1) := by decide +kernel
theorem dX9_step_0 : decode cX9_step 0 = .ok (.aload_n 0, 1) := by decide +kernel
theorem dX9_step_1 : decode cX9_step 1 = .ok (.iload_n 1, 1) := by decide +kernel
theorem dX9_step_2 : decode cX9_step 2 = .ok (.invokevirtual 272, 3) := by decide +kernel
theorem dX9_step_5 : decode cX9_step 5 = .ok (.ifCond .eq 12, 3) := by decide +kernel
theorem dX9_step_8 : decode cX9_step 8 = .ok (.aload_n 0, 1) := by decide +kernel
theorem dX9_step_9 : decode cX9_step 9 = .ok (.iload_n 1, 1) := by decide +kernel
theorem dX9_step_10 : decode cX9_step 10 = .ok (.iload_n 2, 1) := by decide +kernel
theorem dX9_step_11 : decode cX9_step 11 = .ok (.invokevirtual 275, 3) := by decide +kernel
theorem dX9_step_14 : decode cX9_step 14 = .ok (.goto 5, 3) := by decide +kernel
theorem dX9_step_17 : decode cX9_step 17 = .ok (.bipush (-101), 2) := by decide +kernel
theorem dX9_step_19 : decode cX9_step 19 = .ok (.ireturn, 1) := by decide +kernel
theorem dX9_isOf_0 : decode cX9_isOf 0 = .ok (.iload_n 1, 1) := by decide +kernel
theorem dX9_isOf_1 : decode cX9_isOf 1 = .ok (.ifCond .eq 18, 3) := by decide +kernel
theorem dX9_isOf_4 : decode cX9_isOf 4 = .ok (.iload_n 1, 1) := by decide +kernel
theorem dX9_isOf_5 : decode cX9_isOf 5 = .ok (.iload_n 0, 1) := by decide +kernel
theorem dX9_isOf_6 : decode cX9_isOf 6 = .ok (.if_icmp .eq 13, 3) := by decide +kernel
theorem dX9_isOf_9 : decode cX9_isOf 9 = .ok (.iload_n 1, 1) := by decide +kernel
theorem dX9_isOf_10 : decode cX9_isOf 10 = .ok (.iconst 1, 1) := by decide +kernel
theorem dX9_isOf_11 : decode cX9_isOf 11 = .ok (.if_icmp .ne 12, 3) := by decide +kernel
theorem dX9_isOf_14 : decode cX9_isOf 14 = .ok (.iload_n 0, 1) := by decide +kernel
theorem dX9_isOf_15 : decode cX9_isOf 15 = .ok (.iconst 3, 1) := by decide +kernel
theorem dX9_isOf_16 : decode cX9_isOf 16 = .ok (.if_icmp .ne 7, 3) := by decide +kernel
theorem dX9_isOf_19 : decode cX9_isOf 19 = .ok (.iconst 1, 1) := by decide +kernel
theorem dX9_isOf_20 : decode cX9_isOf 20 = .ok (.goto 4, 3) := by decide +kernel
theorem dX9_isOf_23 : decode cX9_isOf 23 = .ok (.iconst 0, 1) := by decide +kernel
theorem dX9_isOf_24 : decode cX9_isOf 24 = .ok (.ireturn, 1) := by decide +kernel
theorem dX9_as_0 : decode cX9_as 0 = .ok (.aload_n 0, 1) := by decide +kernel
theorem dX9_as_1 : decode cX9_as 1 = .ok (.iload_n 1, 1) := by decide +kernel
theorem dX9_as_2 : decode cX9_as 2 = .ok (.invokevirtual 272, 3) := by decide +kernel
theorem dX9_as_5 : decode cX9_as 5 = .ok (.ifCond .ne 6, 3) := by decide +kernel
theorem dX9_as_8 : decode cX9_as 8 = .ok (.bipush (-101), 2) := by decide +kernel
theorem dX9_as_10 : decode cX9_as 10 = .ok (.ireturn, 1) := by decide +kernel
theorem dX9_as_11 : decode cX9_as 11 = .ok (.iload_n 2, 1) := by decide +kernel
theorem dX9_as_12 : decode cX9_as 12 = .ok (.i2l, 1) := by decide +kernel
theorem dX9_as_13 : decode cX9_as 13 = .ok (.lconst 0, 1) := by decide +kernel
theorem dX9_as_14 : decode cX9_as 14 = .ok (.ldc2_w 278, 3) := by decide +kernel
theorem dX9_as_17 : decode cX9_as 17 = .ok (.invokestatic 60, 3) := by decide +kernel
theorem dX9_as_20 : decode cX9_as 20 = .ok (.ifCond .ne 6, 3) := by decide +kernel
theorem dX9_as_23 : decode cX9_as 23 = .ok (.bipush (-102), 2) := by decide +kernel
theorem dX9_as_25 : decode cX9_as 25 = .ok (.ireturn, 1) := by decide +kernel
theorem dX9_as_26 : decode cX9_as 26 = .ok (.aload_n 0, 1) := by decide +kernel
theorem dX9_as_27 : decode cX9_as 27 = .ok (.iload_n 1, 1) := by decide +kernel
theorem dX9_as_28 : decode cX9_as 28 = .ok (.invokevirtual 146, 3) := by decide +kernel
theorem dX9_as_31 : decode cX9_as 31 = .ok (.iload_n 2, 1) := by decide +kernel
theorem dX9_as_32 : decode cX9_as 32 = .ok (.invokestatic 280, 3) := by decide +kernel
theorem dX9_as_35 : decode cX9_as 35 = .ok (.ifCond .eq 7, 3) := by decide +kernel
theorem dX9_as_38 : decode cX9_as 38 = .ok (.iload_n 1, 1) := by decide +kernel
theorem dX9_as_39 : decode cX9_as 39 = .ok (.goto 4, 3) := by decide +kernel
theorem dX9_as_42 : decode cX9_as 42 = .ok (.iconst (-1), 1) := by decide +kernel
theorem dX9_as_43 : decode cX9_as 43 = .ok (.ireturn, 1) := by decide +kernel
theorem dX9_isAsTold_0 : decode cX9_isAsTold 0 = .ok (.iload_n 0, 1) := by decide +kernel
theorem dX9_isAsTold_1 : decode cX9_isAsTold 1 = .ok (.iconst 1, 1) := by decide +kernel
theorem dX9_isAsTold_2 : decode cX9_isAsTold 2 = .ok (.if_icmp .gt 15, 3) := by decide +kernel
theorem dX9_isAsTold_5 : decode cX9_isAsTold 5 = .ok (.iload_n 2, 1) := by decide +kernel
theorem dX9_isAsTold_6 : decode cX9_isAsTold 6 = .ok (.i2l, 1) := by decide +kernel
theorem dX9_isAsTold_7 : decode cX9_isAsTold 7 = .ok (.lconst 0, 1) := by decide +kernel
theorem dX9_isAsTold_8 : decode cX9_isAsTold 8 = .ok (.ldc2_w 235, 3) := by decide +kernel
theorem dX9_isAsTold_11 : decode cX9_isAsTold 11 = .ok (.invokestatic 60, 3) := by decide +kernel
theorem dX9_isAsTold_14 : decode cX9_isAsTold 14 = .ok (.ifCond .eq 7, 3) := by decide +kernel
theorem dX9_isAsTold_17 : decode cX9_isAsTold 17 = .ok (.iconst 1, 1) := by decide +kernel
theorem dX9_isAsTold_18 : decode cX9_isAsTold 18 = .ok (.goto 4, 3) := by decide +kernel
theorem dX9_isAsTold_21 : decode cX9_isAsTold 21 = .ok (.iconst 0, 1) := by decide +kernel
theorem dX9_isAsTold_22 : decode cX9_isAsTold 22 = .ok (.istore 4, 2) := by decide +kernel
theorem dX9_isAsTold_24 : decode cX9_isAsTold 24 = .ok (.iload_n 0, 1) := by decide +kernel
theorem dX9_isAsTold_25 : decode cX9_isAsTold 25 = .ok (.i2l, 1) := by decide +kernel
theorem dX9_isAsTold_26 : decode cX9_isAsTold 26 = .ok (.lconst 0, 1) := by decide +kernel
theorem dX9_isAsTold_27 : decode cX9_isAsTold 27 = .ok (.ldc2_w 283, 3) := by decide +kernel
theorem dX9_isAsTold_30 : decode cX9_isAsTold 30 = .ok (.invokestatic 60, 3) := by decide +kernel
theorem dX9_isAsTold_33 : decode cX9_isAsTold 33 = .ok (.ifCond .eq 53, 3) := by decide +kernel
theorem dX9_isAsTold_36 : decode cX9_isAsTold 36 = .ok (.iload_n 1, 1) := by decide +kernel
theorem dX9_isAsTold_37 : decode cX9_isAsTold 37 = .ok (.i2l, 1) := by decide +kernel
theorem dX9_isAsTold_38 : decode cX9_isAsTold 38 = .ok (.lconst 0, 1) := by decide +kernel
theorem dX9_isAsTold_39 : decode cX9_isAsTold 39 = .ok (.iload_n 0, 1) := by decide +kernel
theorem dX9_isAsTold_40 : decode cX9_isAsTold 40 = .ok (.ifCond .ne 9, 3) := by decide +kernel
theorem dX9_isAsTold_43 : decode cX9_isAsTold 43 = .ok (.ldc2_w 235, 3) := by decide +kernel
theorem dX9_isAsTold_46 : decode cX9_isAsTold 46 = .ok (.goto 6, 3) := by decide +kernel
theorem dX9_isAsTold_49 : decode cX9_isAsTold 49 = .ok (.ldc2_w 247, 3) := by decide +kernel
theorem dX9_isAsTold_52 : decode cX9_isAsTold 52 = .ok (.invokestatic 60, 3) := by decide +kernel
theorem dX9_isAsTold_55 : decode cX9_isAsTold 55 = .ok (.ifCond .eq 31, 3) := by decide +kernel
theorem dX9_isAsTold_58 : decode cX9_isAsTold 58 = .ok (.iload 4, 2) := by decide +kernel
theorem dX9_isAsTold_60 : decode cX9_isAsTold 60 = .ok (.ifCond .eq 26, 3) := by decide +kernel
theorem dX9_isAsTold_63 : decode cX9_isAsTold 63 = .ok (.iload_n 0, 1) := by decide +kernel
theorem dX9_isAsTold_64 : decode cX9_isAsTold 64 = .ok (.iconst 2, 1) := by decide +kernel
theorem dX9_isAsTold_65 : decode cX9_isAsTold 65 = .ok (.if_icmp .eq 17, 3) := by decide +kernel
theorem dX9_isAsTold_68 : decode cX9_isAsTold 68 = .ok (.iload_n 3, 1) := by decide +kernel
theorem dX9_isAsTold_69 : decode cX9_isAsTold 69 = .ok (.i2l, 1) := by decide +kernel
theorem dX9_isAsTold_70 : decode cX9_isAsTold 70 = .ok (.ldc2_w 285, 3) := by decide +kernel
theorem dX9_isAsTold_73 : decode cX9_isAsTold 73 = .ok (.ldc2_w 287, 3) := by decide +kernel
theorem dX9_isAsTold_76 : decode cX9_isAsTold 76 = .ok (.invokestatic 60, 3) := by decide +kernel
theorem dX9_isAsTold_79 : decode cX9_isAsTold 79 = .ok (.ifCond .eq 7, 3) := by decide +kernel
theorem dX9_isAsTold_82 : decode cX9_isAsTold 82 = .ok (.iconst 1, 1) := by decide +kernel
theorem dX9_isAsTold_83 : decode cX9_isAsTold 83 = .ok (.goto 4, 3) := by decide +kernel
theorem dX9_isAsTold_86 : decode cX9_isAsTold 86 = .ok (.iconst 0, 1) := by decide +kernel
theorem dX9_isAsTold_87 : decode cX9_isAsTold 87 = .ok (.ireturn, 1) := by decide +kernel
theorem dX9_put_0 : decode cX9_put 0 = .ok (.iload_n 1, 1) := by decide +kernel
theorem dX9_put_1 : decode cX9_put 1 = .ok (.i2l, 1) := by decide +kernel
theorem dX9_put_2 : decode cX9_put 2 = .ok (.lconst 0, 1) := by decide +kernel
theorem dX9_put_3 : decode cX9_put 3 = .ok (.aload_n 0, 1) := by decide +kernel
theorem dX9_put_4 : decode cX9_put 4 = .ok (.getfield 126, 3) := by decide +kernel
theorem dX9_put_7 : decode cX9_put 7 = .ok (.i2l, 1) := by decide +kernel
theorem dX9_put_8 : decode cX9_put 8 = .ok (.invokestatic 60, 3) := by decide +kernel
theorem dX9_put_11 : decode cX9_put 11 = .ok (.ifCond .ne 6, 3) := by decide +kernel
theorem dX9_put_14 : decode cX9_put 14 = .ok (.bipush (-101), 2) := by decide +kernel
theorem dX9_put_16 : decode cX9_put 16 = .ok (.ireturn, 1) := by decide +kernel
theorem dX9_put_17 : decode cX9_put 17 = .ok (.iload_n 2, 1) := by decide +kernel
theorem dX9_put_18 : decode cX9_put 18 = .ok (.iload_n 3, 1) := by decide +kernel
theorem dX9_put_19 : decode cX9_put 19 = .ok (.iload 4, 2) := by decide +kernel
theorem dX9_put_21 : decode cX9_put 21 = .ok (.iload 5, 2) := by decide +kernel
theorem dX9_put_23 : decode cX9_put 23 = .ok (.invokestatic 289, 3) := by decide +kernel
theorem dX9_put_26 : decode cX9_put 26 = .ok (.ifCond .ne 6, 3) := by decide +kernel
theorem dX9_put_29 : decode cX9_put 29 = .ok (.bipush (-102), 2) := by decide +kernel
theorem dX9_put_31 : decode cX9_put 31 = .ok (.ireturn, 1) := by decide +kernel
theorem dX9_put_32 : decode cX9_put 32 = .ok (.aload_n 0, 1) := by decide +kernel
theorem dX9_put_33 : decode cX9_put 33 = .ok (.invokevirtual 222, 3) := by decide +kernel
theorem dX9_put_36 : decode cX9_put 36 = .ok (.ifCond .eq 6, 3) := by decide +kernel
theorem dX9_put_39 : decode cX9_put 39 = .ok (.bipush (-103), 2) := by decide +kernel
theorem dX9_put_41 : decode cX9_put 41 = .ok (.ireturn, 1) := by decide +kernel
theorem dX9_put_42 : decode cX9_put 42 = .ok (.aload_n 0, 1) := by decide +kernel
theorem dX9_put_43 : decode cX9_put 43 = .ok (.getfield 126, 3) := by decide +kernel
theorem dX9_put_46 : decode cX9_put 46 = .ok (.bipush 6, 2) := by decide +kernel
theorem dX9_put_48 : decode cX9_put 48 = .ok (.if_icmp .ne 6, 3) := by decide +kernel
theorem dX9_put_51 : decode cX9_put 51 = .ok (.bipush (-104), 2) := by decide +kernel
theorem dX9_put_53 : decode cX9_put 53 = .ok (.ireturn, 1) := by decide +kernel
theorem dX9_put_54 : decode cX9_put 54 = .ok (.aload_n 0, 1) := by decide +kernel
theorem dX9_put_55 : decode cX9_put 55 = .ok (.getfield 126, 3) := by decide +kernel
theorem dX9_put_58 : decode cX9_put 58 = .ok (.istore 6, 2) := by decide +kernel
theorem dX9_put_60 : decode cX9_put 60 = .ok (.iload 6, 2) := by decide +kernel
theorem dX9_put_62 : decode cX9_put 62 = .ok (.iload_n 1, 1) := by decide +kernel
theorem dX9_put_63 : decode cX9_put 63 = .ok (.if_icmp .le 89, 3) := by decide +kernel
theorem dX9_put_66 : decode cX9_put 66 = .ok (.iconst 0, 1) := by decide +kernel
theorem dX9_put_67 : decode cX9_put 67 = .ok (.istore 7, 2) := by decide +kernel
theorem dX9_put_69 : decode cX9_put 69 = .ok (.iload 7, 2) := by decide +kernel
theorem dX9_put_71 : decode cX9_put 71 = .ok (.iconst 4, 1) := by decide +kernel
theorem dX9_put_72 : decode cX9_put 72 = .ok (.if_icmp .ge 35, 3) := by decide +kernel
theorem dX9_put_75 : decode cX9_put 75 = .ok (.aload_n 0, 1) := by decide +kernel
theorem dX9_put_76 : decode cX9_put 76 = .ok (.getfield 16, 3) := by decide +kernel
theorem dX9_put_79 : decode cX9_put 79 = .ok (.iconst 4, 1) := by decide +kernel
theorem dX9_put_80 : decode cX9_put 80 = .ok (.iload 6, 2) := by decide +kernel
theorem dX9_put_82 : decode cX9_put 82 = .ok (.imul, 1) := by decide +kernel
theorem dX9_put_83 : decode cX9_put 83 = .ok (.iload 7, 2) := by decide +kernel
theorem dX9_put_85 : decode cX9_put 85 = .ok (.iadd, 1) := by decide +kernel
theorem dX9_put_86 : decode cX9_put 86 = .ok (.aload_n 0, 1) := by decide +kernel
theorem dX9_put_87 : decode cX9_put 87 = .ok (.getfield 16, 3) := by decide +kernel
theorem dX9_put_90 : decode cX9_put 90 = .ok (.iconst 4, 1) := by decide +kernel
theorem dX9_put_91 : decode cX9_put 91 = .ok (.iload 6, 2) := by decide +kernel
theorem dX9_put_93 : decode cX9_put 93 = .ok (.imul, 1) := by decide +kernel
theorem dX9_put_94 : decode cX9_put 94 = .ok (.iconst 4, 1) := by decide +kernel
theorem dX9_put_95 : decode cX9_put 95 = .ok (.isub, 1) := by decide +kernel
theorem dX9_put_96 : decode cX9_put 96 = .ok (.iload 7, 2) := by decide +kernel
theorem dX9_put_98 : decode cX9_put 98 = .ok (.iadd, 1) := by decide +kernel
theorem dX9_put_99 : decode cX9_put 99 = .ok (.iaload, 1) := by decide +kernel
theorem dX9_put_100 : decode cX9_put 100 = .ok (.iastore, 1) := by decide +kernel
theorem dX9_put_101 : decode cX9_put 101 = .ok (.iinc 7 1, 3) := by decide +kernel
theorem dX9_put_104 : decode cX9_put 104 = .ok (.goto (-35), 3) := by decide +kernel
theorem dX9_put_107 : decode cX9_put 107 = .ok (.aload_n 0, 1) := by decide +kernel
theorem dX9_put_108 : decode cX9_put 108 = .ok (.getfield 16, 3) := by decide +kernel
theorem dX9_put_111 : decode cX9_put 111 = .ok (.iconst 4, 1) := by decide +kernel
theorem dX9_put_112 : decode cX9_put 112 = .ok (.iload 6, 2) := by decide +kernel
theorem dX9_put_114 : decode cX9_put 114 = .ok (.imul, 1) := by decide +kernel
theorem dX9_put_115 : decode cX9_put 115 = .ok (.iconst 1, 1) := by decide +kernel
theorem dX9_put_116 : decode cX9_put 116 = .ok (.iadd, 1) := by decide +kernel
theorem dX9_put_117 : decode cX9_put 117 = .ok (.dup2, 1) := by decide +kernel
theorem dX9_put_118 : decode cX9_put 118 = .ok (.iaload, 1) := by decide +kernel
theorem dX9_put_119 : decode cX9_put 119 = .ok (.aload_n 0, 1) := by decide +kernel
theorem dX9_put_120 : decode cX9_put 120 = .ok (.iload 6, 2) := by decide +kernel
theorem dX9_put_122 : decode cX9_put 122 = .ok (.invokevirtual 146, 3) := by decide +kernel
theorem dX9_put_125 : decode cX9_put 125 = .ok (.iconst 4, 1) := by decide +kernel
theorem dX9_put_126 : decode cX9_put 126 = .ok (.if_icmp .ne 17, 3) := by decide +kernel
theorem dX9_put_129 : decode cX9_put 129 = .ok (.aload_n 0, 1) := by decide +kernel
theorem dX9_put_130 : decode cX9_put 130 = .ok (.iload 6, 2) := by decide +kernel
theorem dX9_put_132 : decode cX9_put 132 = .ok (.invokevirtual 149, 3) := by decide +kernel
theorem dX9_put_135 : decode cX9_put 135 = .ok (.iload_n 1, 1) := by decide +kernel
theorem dX9_put_136 : decode cX9_put 136 = .ok (.if_icmp .le 7, 3) := by decide +kernel
theorem dX9_put_139 : decode cX9_put 139 = .ok (.iconst 1, 1) := by decide +kernel
theorem dX9_put_140 : decode cX9_put 140 = .ok (.goto 4, 3) := by decide +kernel
theorem dX9_put_143 : decode cX9_put 143 = .ok (.iconst 0, 1) := by decide +kernel
theorem dX9_put_144 : decode cX9_put 144 = .ok (.iadd, 1) := by decide +kernel
theorem dX9_put_145 : decode cX9_put 145 = .ok (.iastore, 1) := by decide +kernel
theorem dX9_put_146 : decode cX9_put 146 = .ok (.iinc 6 (-1), 3) := by decide +kernel
theorem dX9_put_149 : decode cX9_put 149 = .ok (.goto (-89), 3) := by decide +kernel
theorem dX9_put_152 : decode cX9_put 152 = .ok (.aload_n 0, 1) := by decide +kernel
theorem dX9_put_153 : decode cX9_put 153 = .ok (.getfield 16, 3) := by decide +kernel
theorem dX9_put_156 : decode cX9_put 156 = .ok (.iconst 4, 1) := by decide +kernel
theorem dX9_put_157 : decode cX9_put 157 = .ok (.iload_n 1, 1) := by decide +kernel
theorem dX9_put_158 : decode cX9_put 158 = .ok (.imul, 1) := by decide +kernel
theorem dX9_put_159 : decode cX9_put 159 = .ok (.iload_n 2, 1) := by decide +kernel
theorem dX9_put_160 : decode cX9_put 160 = .ok (.iastore, 1) := by decide +kernel
theorem dX9_put_161 : decode cX9_put 161 = .ok (.aload_n 0, 1) := by decide +kernel
theorem dX9_put_162 : decode cX9_put 162 = .ok (.getfield 16, 3) := by decide +kernel
theorem dX9_put_165 : decode cX9_put 165 = .ok (.iconst 4, 1) := by decide +kernel
theorem dX9_put_166 : decode cX9_put 166 = .ok (.iload_n 1, 1) := by decide +kernel
theorem dX9_put_167 : decode cX9_put 167 = .ok (.imul, 1) := by decide +kernel
theorem dX9_put_168 : decode cX9_put 168 = .ok (.iconst 1, 1) := by decide +kernel
theorem dX9_put_169 : decode cX9_put 169 = .ok (.iadd, 1) := by decide +kernel
theorem dX9_put_170 : decode cX9_put 170 = .ok (.iload_n 3, 1) := by decide +kernel
theorem dX9_put_171 : decode cX9_put 171 = .ok (.iastore, 1) := by decide +kernel
theorem dX9_put_172 : decode cX9_put 172 = .ok (.aload_n 0, 1) := by decide +kernel
theorem dX9_put_173 : decode cX9_put 173 = .ok (.getfield 16, 3) := by decide +kernel
theorem dX9_put_176 : decode cX9_put 176 = .ok (.iconst 4, 1) := by decide +kernel
theorem dX9_put_177 : decode cX9_put 177 = .ok (.iload_n 1, 1) := by decide +kernel
theorem dX9_put_178 : decode cX9_put 178 = .ok (.imul, 1) := by decide +kernel
theorem dX9_put_179 : decode cX9_put 179 = .ok (.iconst 2, 1) := by decide +kernel
theorem dX9_put_180 : decode cX9_put 180 = .ok (.iadd, 1) := by decide +kernel
theorem dX9_put_181 : decode cX9_put 181 = .ok (.iload_n 2, 1) := by decide +kernel
theorem dX9_put_182 : decode cX9_put 182 = .ok (.iconst 1, 1) := by decide +kernel
theorem dX9_put_183 : decode cX9_put 183 = .ok (.if_icmp .le 7, 3) := by decide +kernel
theorem dX9_put_186 : decode cX9_put 186 = .ok (.iconst (-1), 1) := by decide +kernel
theorem dX9_put_187 : decode cX9_put 187 = .ok (.goto 5, 3) := by decide +kernel
theorem dX9_put_190 : decode cX9_put 190 = .ok (.iload 4, 2) := by decide +kernel
theorem dX9_put_192 : decode cX9_put 192 = .ok (.iastore, 1) := by decide +kernel
theorem dX9_put_193 : decode cX9_put 193 = .ok (.aload_n 0, 1) := by decide +kernel
theorem dX9_put_194 : decode cX9_put 194 = .ok (.getfield 16, 3) := by decide +kernel
theorem dX9_put_197 : decode cX9_put 197 = .ok (.iconst 4, 1) := by decide +kernel
theorem dX9_put_198 : decode cX9_put 198 = .ok (.iload_n 1, 1) := by decide +kernel
theorem dX9_put_199 : decode cX9_put 199 = .ok (.imul, 1) := by decide +kernel
theorem dX9_put_200 : decode cX9_put 200 = .ok (.iconst 3, 1) := by decide +kernel
theorem dX9_put_201 : decode cX9_put 201 = .ok (.iadd, 1) := by decide +kernel
theorem dX9_put_202 : decode cX9_put 202 = .ok (.iload_n 2, 1) := by decide +kernel
theorem dX9_put_203 : decode cX9_put 203 = .ok (.iconst 2, 1) := by decide +kernel
theorem dX9_put_204 : decode cX9_put 204 = .ok (.if_icmp .ne 7, 3) := by decide +kernel
theorem dX9_put_207 : decode cX9_put 207 = .ok (.iconst (-1), 1) := by decide +kernel
theorem dX9_put_208 : decode cX9_put 208 = .ok (.goto 8, 3) := by decide +kernel
theorem dX9_put_211 : decode cX9_put 211 = .ok (.bipush 100, 2) := by decide +kernel
theorem dX9_put_213 : decode cX9_put 213 = .ok (.iload 5, 2) := by decide +kernel
theorem dX9_put_215 : decode cX9_put 215 = .ok (.iadd, 1) := by decide +kernel
theorem dX9_put_216 : decode cX9_put 216 = .ok (.iastore, 1) := by decide +kernel
theorem dX9_put_217 : decode cX9_put 217 = .ok (.aload_n 0, 1) := by decide +kernel
theorem dX9_put_218 : decode cX9_put 218 = .ok (.dup, 1) := by decide +kernel
theorem dX9_put_219 : decode cX9_put 219 = .ok (.getfield 126, 3) := by decide +kernel
theorem dX9_put_222 : decode cX9_put 222 = .ok (.iconst 1, 1) := by decide +kernel
theorem dX9_put_223 : decode cX9_put 223 = .ok (.iadd, 1) := by decide +kernel
theorem dX9_put_224 : decode cX9_put 224 = .ok (.putfield 126, 3) := by decide +kernel
theorem dX9_put_227 : decode cX9_put 227 = .ok (.aload_n 0, 1) := by decide +kernel
theorem dX9_put_228 : decode cX9_put 228 = .ok (.invokevirtual 139, 3) := by decide +kernel
theorem dX9_put_231 : decode cX9_put 231 = .ok (.aload_n 0, 1) := by decide +kernel
theorem dX9_put_232 : decode cX9_put 232 = .ok (.getfield 126, 3) := by decide +kernel
theorem dX9_put_235 : decode cX9_put 235 = .ok (.ireturn, 1) := by decide +kernel
