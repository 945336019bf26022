theorem dX8_isSigned_0 : decode cX8_isSigned 0 = .ok (.iload_n 0, 1) := by decide +kernel
theorem dX8_isSigned_1 : decode cX8_isSigned 1 = .ok (.ifCond .lt 13, 3) := by decide +kernel
theorem dX8_isSigned_4 : decode cX8_isSigned 4 = .ok (.iload_n 0, 1) := by decide +kernel
theorem dX8_isSigned_5 : decode cX8_isSigned 5 = .ok (.bipush 6, 2) := by decide +kernel
theorem dX8_isSigned_7 : decode cX8_isSigned 7 = .ok (.if_icmp .ge 7, 3) := by decide +kernel
theorem dX8_isSigned_10 : decode cX8_isSigned 10 = .ok (.iconst 1, 1) := by decide +kernel
theorem dX8_isSigned_11 : decode cX8_isSigned 11 = .ok (.goto 4, 3) := by decide +kernel
theorem dX8_isSigned_14 : decode cX8_isSigned 14 = .ok (.iconst 0, 1) := by decide +kernel
theorem dX8_isSigned_15 : decode cX8_isSigned 15 = .ok (.ireturn, 1) := by decide +kernel
theorem dX8_isNumber_0 : decode cX8_isNumber 0 = .ok (.iload_n 0, 1) := by decide +kernel
theorem dX8_isNumber_1 : decode cX8_isNumber 1 = .ok (.bipush (-8), 2) := by decide +kernel
theorem dX8_isNumber_3 : decode cX8_isNumber 3 = .ok (.if_icmp .lt 13, 3) := by decide +kernel
theorem dX8_isNumber_6 : decode cX8_isNumber 6 = .ok (.iload_n 0, 1) := by decide +kernel
theorem dX8_isNumber_7 : decode cX8_isNumber 7 = .ok (.bipush 8, 2) := by decide +kernel
theorem dX8_isNumber_9 : decode cX8_isNumber 9 = .ok (.if_icmp .gt 7, 3) := by decide +kernel
theorem dX8_isNumber_12 : decode cX8_isNumber 12 = .ok (.iconst 1, 1) := by decide +kernel
theorem dX8_isNumber_13 : decode cX8_isNumber 13 = .ok (.goto 4, 3) := by decide +kernel
theorem dX8_isNumber_16 : decode cX8_isNumber 16 = .ok (.iconst 0, 1) := by decide +kernel
theorem dX8_isNumber_17 : decode cX8_isNumber 17 = .ok (.ireturn, 1) := by decide +kernel
theorem dX8_isBy_0 : decode cX8_isBy 0 = .ok (.iload_n 0, 1) := by decide +kernel
theorem dX8_isBy_1 : decode cX8_isBy 1 = .ok (.bipush (-9), 2) := by decide +kernel
theorem dX8_isBy_3 : decode cX8_isBy 3 = .ok (.if_icmp .lt 13, 3) := by decide +kernel
theorem dX8_isBy_6 : decode cX8_isBy 6 = .ok (.iload_n 0, 1) := by decide +kernel
theorem dX8_isBy_7 : decode cX8_isBy 7 = .ok (.bipush 9, 2) := by decide +kernel
theorem dX8_isBy_9 : decode cX8_isBy 9 = .ok (.if_icmp .gt 7, 3) := by decide +kernel
theorem dX8_isBy_12 : decode cX8_isBy 12 = .ok (.iconst 1, 1) := by decide +kernel
theorem dX8_isBy_13 : decode cX8_isBy 13 = .ok (.goto 4, 3) := by decide +kernel
theorem dX8_isBy_16 : decode cX8_isBy 16 = .ok (.iconst 0, 1) := by decide +kernel
theorem dX8_isBy_17 : decode cX8_isBy 17 = .ok (.ireturn, 1) := by decide +kernel
theorem dX8_hasSecond_0 : decode cX8_hasSecond 0 = .ok (.iload_n 0, 1) := by decide +kernel
theorem dX8_hasSecond_1 : decode cX8_hasSecond 1 = .ok (.ifCond .eq 8, 3) := by decide +kernel
theorem dX8_hasSecond_4 : decode cX8_hasSecond 4 = .ok (.iload_n 0, 1) := by decide +kernel
theorem dX8_hasSecond_5 : decode cX8_hasSecond 5 = .ok (.iconst 1, 1) := by decide +kernel
theorem dX8_hasSecond_6 : decode cX8_hasSecond 6 = .ok (.if_icmp .ne 7, 3) := by decide +kernel
theorem dX8_hasSecond_9 : decode cX8_hasSecond 9 = .ok (.iconst 1, 1) := by decide +kernel
theorem dX8_hasSecond_10 : decode cX8_hasSecond 10 = .ok (.goto 4, 3) := by decide +kernel
theorem dX8_hasSecond_13 : decode cX8_hasSecond 13 = .ok (.iconst 0, 1) := by decide +kernel
theorem dX8_hasSecond_14 : decode cX8_hasSecond 14 = .ok (.ireturn, 1) := by decide +kernel
theorem dX8_hasNumber_0 : decode cX8_hasNumber 0 = .ok (.iload_n 0, 1) := by decide +kernel
theorem dX8_hasNumber_1 : decode cX8_hasNumber 1 = .ok (.ifCond .eq 13, 3) := by decide +kernel
theorem dX8_hasNumber_4 : decode cX8_hasNumber 4 = .ok (.iload_n 0, 1) := by decide +kernel
theorem dX8_hasNumber_5 : decode cX8_hasNumber 5 = .ok (.iconst 1, 1) := by decide +kernel
theorem dX8_hasNumber_6 : decode cX8_hasNumber 6 = .ok (.if_icmp .eq 8, 3) := by decide +kernel
theorem dX8_hasNumber_9 : decode cX8_hasNumber 9 = .ok (.iload_n 0, 1) := by decide +kernel
theorem dX8_hasNumber_10 : decode cX8_hasNumber 10 = .ok (.iconst 3, 1) := by decide +kernel
theorem dX8_hasNumber_11 : decode cX8_hasNumber 11 = .ok (.if_icmp .ne 7, 3) := by decide +kernel
theorem dX8_hasNumber_14 : decode cX8_hasNumber 14 = .ok (.iconst 1, 1) := by decide +kernel
theorem dX8_hasNumber_15 : decode cX8_hasNumber 15 = .ok (.goto 4, 3) := by decide +kernel
theorem dX8_hasNumber_18 : decode cX8_hasNumber 18 = .ok (.iconst 0, 1) := by decide +kernel
theorem dX8_hasNumber_19 : decode cX8_hasNumber 19 = .ok (.ireturn, 1) := by decide +kernel
theorem dX8_isSuch_0 : decode cX8_isSuch 0 = .ok (.iload_n 1, 1) := by decide +kernel
theorem dX8_isSuch_1 : decode cX8_isSuch 1 = .ok (.ifCond .eq 18, 3) := by decide +kernel
theorem dX8_isSuch_4 : decode cX8_isSuch 4 = .ok (.iload_n 0, 1) := by decide +kernel
theorem dX8_isSuch_5 : decode cX8_isSuch 5 = .ok (.iload_n 1, 1) := by decide +kernel
theorem dX8_isSuch_6 : decode cX8_isSuch 6 = .ok (.if_icmp .eq 13, 3) := by decide +kernel
theorem dX8_isSuch_9 : decode cX8_isSuch 9 = .ok (.iload_n 1, 1) := by decide +kernel
theorem dX8_isSuch_10 : decode cX8_isSuch 10 = .ok (.iconst 1, 1) := by decide +kernel
theorem dX8_isSuch_11 : decode cX8_isSuch 11 = .ok (.if_icmp .ne 12, 3) := by decide +kernel
theorem dX8_isSuch_14 : decode cX8_isSuch 14 = .ok (.iload_n 0, 1) := by decide +kernel
theorem dX8_isSuch_15 : decode cX8_isSuch 15 = .ok (.iconst 3, 1) := by decide +kernel
theorem dX8_isSuch_16 : decode cX8_isSuch 16 = .ok (.if_icmp .ne 7, 3) := by decide +kernel
theorem dX8_isSuch_19 : decode cX8_isSuch 19 = .ok (.iconst 1, 1) := by decide +kernel
theorem dX8_isSuch_20 : decode cX8_isSuch 20 = .ok (.goto 4, 3) := by decide +kernel
theorem dX8_isSuch_23 : decode cX8_isSuch 23 = .ok (.iconst 0, 1) := by decide +kernel
theorem dX8_isSuch_24 : decode cX8_isSuch 24 = .ok (.ireturn, 1) := by decide +kernel
theorem dX8_asInt_0 : decode cX8_asInt 0 = .ok (.iload_n 0, 1) := by decide +kernel
theorem dX8_asInt_1 : decode cX8_asInt 1 = .ok (.ifCond .eq 7, 3) := by decide +kernel
theorem dX8_asInt_4 : decode cX8_asInt 4 = .ok (.iconst 1, 1) := by decide +kernel
theorem dX8_asInt_5 : decode cX8_asInt 5 = .ok (.goto 4, 3) := by decide +kernel
theorem dX8_asInt_8 : decode cX8_asInt 8 = .ok (.iconst 0, 1) := by decide +kernel
theorem dX8_asInt_9 : decode cX8_asInt 9 = .ok (.ireturn, 1) := by decide +kernel
theorem dX8_questionFor_0 : decode cX8_questionFor 0 = .ok (.iload_n 0, 1) := by decide +kernel
theorem dX8_questionFor_1 : decode cX8_questionFor 1 = .ok (.ifCond .ne 5, 3) := by decide +kernel
theorem dX8_questionFor_4 : decode cX8_questionFor 4 = .ok (.iconst (-1), 1) := by decide +kernel
theorem dX8_questionFor_5 : decode cX8_questionFor 5 = .ok (.ireturn, 1) := by decide +kernel
theorem dX8_questionFor_6 : decode cX8_questionFor 6 = .ok (.iconst (-1), 1) := by decide +kernel
theorem dX8_questionFor_7 : decode cX8_questionFor 7 = .ok (.istore_n 1, 1) := by decide +kernel
theorem dX8_questionFor_8 : decode cX8_questionFor 8 = .ok (.bipush 6, 2) := by decide +kernel
theorem dX8_questionFor_10 : decode cX8_questionFor 10 = .ok (.istore_n 2, 1) := by decide +kernel
theorem dX8_questionFor_11 : decode cX8_questionFor 11 = .ok (.iconst 0, 1) := by decide +kernel
theorem dX8_questionFor_12 : decode cX8_questionFor 12 = .ok (.istore_n 3, 1) := by decide +kernel
theorem dX8_questionFor_13 : decode cX8_questionFor 13 = .ok (.iload_n 3, 1) := by decide +kernel
theorem dX8_questionFor_14 : decode cX8_questionFor 14 = .ok (.iconst 4, 1) := by decide +kernel
theorem dX8_questionFor_15 : decode cX8_questionFor 15 = .ok (.if_icmp .ge 55, 3) := by decide +kernel
theorem dX8_questionFor_18 : decode cX8_questionFor 18 = .ok (.iload_n 0, 1) := by decide +kernel
theorem dX8_questionFor_19 : decode cX8_questionFor 19 = .ok (.getstatic 306, 3) := by decide +kernel
theorem dX8_questionFor_22 : decode cX8_questionFor 22 = .ok (.iload_n 3, 1) := by decide +kernel
theorem dX8_questionFor_23 : decode cX8_questionFor 23 = .ok (.iaload, 1) := by decide +kernel
theorem dX8_questionFor_24 : decode cX8_questionFor 24 = .ok (.iand, 1) := by decide +kernel
theorem dX8_questionFor_25 : decode cX8_questionFor 25 = .ok (.invokestatic 309, 3) := by decide +kernel
theorem dX8_questionFor_28 : decode cX8_questionFor 28 = .ok (.istore 4, 2) := by decide +kernel
theorem dX8_questionFor_30 : decode cX8_questionFor 30 = .ok (.iload_n 0, 1) := by decide +kernel
theorem dX8_questionFor_31 : decode cX8_questionFor 31 = .ok (.getstatic 306, 3) := by decide +kernel
theorem dX8_questionFor_34 : decode cX8_questionFor 34 = .ok (.iload_n 3, 1) := by decide +kernel
theorem dX8_questionFor_35 : decode cX8_questionFor 35 = .ok (.iaload, 1) := by decide +kernel
theorem dX8_questionFor_36 : decode cX8_questionFor 36 = .ok (.iconst (-1), 1) := by decide +kernel
theorem dX8_questionFor_37 : decode cX8_questionFor 37 = .ok (.ixor, 1) := by decide +kernel
theorem dX8_questionFor_38 : decode cX8_questionFor 38 = .ok (.iand, 1) := by decide +kernel
theorem dX8_questionFor_39 : decode cX8_questionFor 39 = .ok (.invokestatic 309, 3) := by decide +kernel
theorem dX8_questionFor_42 : decode cX8_questionFor 42 = .ok (.istore 5, 2) := by decide +kernel
theorem dX8_questionFor_44 : decode cX8_questionFor 44 = .ok (.iload 4, 2) := by decide +kernel
theorem dX8_questionFor_46 : decode cX8_questionFor 46 = .ok (.iload 5, 2) := by decide +kernel
theorem dX8_questionFor_48 : decode cX8_questionFor 48 = .ok (.invokestatic 314, 3) := by decide +kernel
theorem dX8_questionFor_51 : decode cX8_questionFor 51 = .ok (.istore 6, 2) := by decide +kernel
theorem dX8_questionFor_53 : decode cX8_questionFor 53 = .ok (.iload 6, 2) := by decide +kernel
theorem dX8_questionFor_55 : decode cX8_questionFor 55 = .ok (.iload_n 2, 1) := by decide +kernel
theorem dX8_questionFor_56 : decode cX8_questionFor 56 = .ok (.if_icmp .ge 8, 3) := by decide +kernel
theorem dX8_questionFor_59 : decode cX8_questionFor 59 = .ok (.iload 6, 2) := by decide +kernel
theorem dX8_questionFor_61 : decode cX8_questionFor 61 = .ok (.istore_n 2, 1) := by decide +kernel
theorem dX8_questionFor_62 : decode cX8_questionFor 62 = .ok (.iload_n 3, 1) := by decide +kernel
theorem dX8_questionFor_63 : decode cX8_questionFor 63 = .ok (.istore_n 1, 1) := by decide +kernel
theorem dX8_questionFor_64 : decode cX8_questionFor 64 = .ok (.iinc 3 1, 3) := by decide +kernel
theorem dX8_questionFor_67 : decode cX8_questionFor 67 = .ok (.goto (-54), 3) := by decide +kernel
theorem dX8_questionFor_70 : decode cX8_questionFor 70 = .ok (.iload_n 1, 1) := by decide +kernel
theorem dX8_questionFor_71 : decode cX8_questionFor 71 = .ok (.ireturn, 1) := by decide +kernel
theorem dX8_shareBits_0 : decode cX8_shareBits 0 = .ok (.iload_n 0, 1) := by decide +kernel
theorem dX8_shareBits_1 : decode cX8_shareBits 1 = .ok (.ifCond .gt 5, 3) := by decide +kernel
theorem dX8_shareBits_4 : decode cX8_shareBits 4 = .ok (.lconst 0, 1) := by decide +kernel
theorem dX8_shareBits_5 : decode cX8_shareBits 5 = .ok (.lreturn, 1) := by decide +kernel
theorem dX8_shareBits_6 : decode cX8_shareBits 6 = .ok (.iload_n 0, 1) := by decide +kernel
theorem dX8_shareBits_7 : decode cX8_shareBits 7 = .ok (.istore_n 1, 1) := by decide +kernel
theorem dX8_shareBits_8 : decode cX8_shareBits 8 = .ok (.ldc2_w 319, 3) := by decide +kernel
theorem dX8_shareBits_11 : decode cX8_shareBits 11 = .ok (.lstore_n 2, 1) := by decide +kernel
theorem dX8_shareBits_12 : decode cX8_shareBits 12 = .ok (.iconst 0, 1) := by decide +kernel
theorem dX8_shareBits_13 : decode cX8_shareBits 13 = .ok (.istore 4, 2) := by decide +kernel
theorem dX8_shareBits_15 : decode cX8_shareBits 15 = .ok (.iload 4, 2) := by decide +kernel
theorem dX8_shareBits_17 : decode cX8_shareBits 17 = .ok (.bipush 13, 2) := by decide +kernel
theorem dX8_shareBits_19 : decode cX8_shareBits 19 = .ok (.if_icmp .ge 24, 3) := by decide +kernel
theorem dX8_shareBits_22 : decode cX8_shareBits 22 = .ok (.iload_n 1, 1) := by decide +kernel
theorem dX8_shareBits_23 : decode cX8_shareBits 23 = .ok (.sipush 4913, 3) := by decide +kernel
theorem dX8_shareBits_26 : decode cX8_shareBits 26 = .ok (.if_icmp .ge 17, 3) := by decide +kernel
theorem dX8_shareBits_29 : decode cX8_shareBits 29 = .ok (.iload_n 1, 1) := by decide +kernel
theorem dX8_shareBits_30 : decode cX8_shareBits 30 = .ok (.iconst 2, 1) := by decide +kernel
theorem dX8_shareBits_31 : decode cX8_shareBits 31 = .ok (.imul, 1) := by decide +kernel
theorem dX8_shareBits_32 : decode cX8_shareBits 32 = .ok (.istore_n 1, 1) := by decide +kernel
theorem dX8_shareBits_33 : decode cX8_shareBits 33 = .ok (.lload_n 2, 1) := by decide +kernel
theorem dX8_shareBits_34 : decode cX8_shareBits 34 = .ok (.lconst 1, 1) := by decide +kernel
theorem dX8_shareBits_35 : decode cX8_shareBits 35 = .ok (.lsub, 1) := by decide +kernel
theorem dX8_shareBits_36 : decode cX8_shareBits 36 = .ok (.lstore_n 2, 1) := by decide +kernel
theorem dX8_shareBits_37 : decode cX8_shareBits 37 = .ok (.iinc 4 1, 3) := by decide +kernel
theorem dX8_shareBits_40 : decode cX8_shareBits 40 = .ok (.goto (-25), 3) := by decide +kernel
theorem dX8_shareBits_43 : decode cX8_shareBits 43 = .ok (.iinc 1 (-4913), 6) := by decide +kernel
theorem dX8_shareBits_49 : decode cX8_shareBits 49 = .ok (.lconst 0, 1) := by decide +kernel
theorem dX8_shareBits_50 : decode cX8_shareBits 50 = .ok (.lstore 4, 2) := by decide +kernel
theorem dX8_shareBits_52 : decode cX8_shareBits 52 = .ok (.iconst 0, 1) := by decide +kernel
theorem dX8_shareBits_53 : decode cX8_shareBits 53 = .ok (.istore 6, 2) := by decide +kernel
theorem dX8_shareBits_55 : decode cX8_shareBits 55 = .ok (.iload 6, 2) := by decide +kernel
theorem dX8_shareBits_57 : decode cX8_shareBits 57 = .ok (.bipush 52, 2) := by decide +kernel
theorem dX8_shareBits_59 : decode cX8_shareBits 59 = .ok (.if_icmp .ge 40, 3) := by decide +kernel
theorem dX8_shareBits_62 : decode cX8_shareBits 62 = .ok (.iload_n 1, 1) := by decide +kernel
theorem dX8_shareBits_63 : decode cX8_shareBits 63 = .ok (.iconst 2, 1) := by decide +kernel
theorem dX8_shareBits_64 : decode cX8_shareBits 64 = .ok (.imul, 1) := by decide +kernel
theorem dX8_shareBits_65 : decode cX8_shareBits 65 = .ok (.istore_n 1, 1) := by decide +kernel
theorem dX8_shareBits_66 : decode cX8_shareBits 66 = .ok (.lload 4, 2) := by decide +kernel
theorem dX8_shareBits_68 : decode cX8_shareBits 68 = .ok (.ldc2_w 321, 3) := by decide +kernel
theorem dX8_shareBits_71 : decode cX8_shareBits 71 = .ok (.lmul, 1) := by decide +kernel
theorem dX8_shareBits_72 : decode cX8_shareBits 72 = .ok (.lstore 4, 2) := by decide +kernel
theorem dX8_shareBits_74 : decode cX8_shareBits 74 = .ok (.iload_n 1, 1) := by decide +kernel
theorem dX8_shareBits_75 : decode cX8_shareBits 75 = .ok (.sipush 4913, 3) := by decide +kernel
theorem dX8_shareBits_78 : decode cX8_shareBits 78 = .ok (.if_icmp .lt 15, 3) := by decide +kernel
theorem dX8_shareBits_81 : decode cX8_shareBits 81 = .ok (.iinc 1 (-4913), 6) := by decide +kernel
theorem dX8_shareBits_87 : decode cX8_shareBits 87 = .ok (.lload 4, 2) := by decide +kernel
theorem dX8_shareBits_89 : decode cX8_shareBits 89 = .ok (.lconst 1, 1) := by decide +kernel
theorem dX8_shareBits_90 : decode cX8_shareBits 90 = .ok (.ladd, 1) := by decide +kernel
theorem dX8_shareBits_91 : decode cX8_shareBits 91 = .ok (.lstore 4, 2) := by decide +kernel
theorem dX8_shareBits_93 : decode cX8_shareBits 93 = .ok (.iinc 6 1, 3) := by decide +kernel
theorem dX8_shareBits_96 : decode cX8_shareBits 96 = .ok (.goto (-41), 3) := by decide +kernel
theorem dX8_shareBits_99 : decode cX8_shareBits 99 = .ok (.lload_n 2, 1) := by decide +kernel
theorem dX8_shareBits_100 : decode cX8_shareBits 100 = .ok (.bipush 52, 2) := by decide +kernel
theorem dX8_shareBits_102 : decode cX8_shareBits 102 = .ok (.lshl, 1) := by decide +kernel
theorem dX8_shareBits_103 : decode cX8_shareBits 103 = .ok (.lload 4, 2) := by decide +kernel
theorem dX8_shareBits_105 : decode cX8_shareBits 105 = .ok (.ladd, 1) := by decide +kernel
theorem dX8_shareBits_106 : decode cX8_shareBits 106 = .ok (.lstore 6, 2) := by decide +kernel
theorem dX8_shareBits_108 : decode cX8_shareBits 108 = .ok (.iconst 2, 1) := by decide +kernel
theorem dX8_shareBits_109 : decode cX8_shareBits 109 = .ok (.iload_n 1, 1) := by decide +kernel
theorem dX8_shareBits_110 : decode cX8_shareBits 110 = .ok (.imul, 1) := by decide +kernel
theorem dX8_shareBits_111 : decode cX8_shareBits 111 = .ok (.sipush 4913, 3) := by decide +kernel
theorem dX8_shareBits_114 : decode cX8_shareBits 114 = .ok (.if_icmp .le 10, 3) := by decide +kernel
theorem dX8_shareBits_117 : decode cX8_shareBits 117 = .ok (.lload 6, 2) := by decide +kernel
theorem dX8_shareBits_119 : decode cX8_shareBits 119 = .ok (.lconst 1, 1) := by decide +kernel
theorem dX8_shareBits_120 : decode cX8_shareBits 120 = .ok (.ladd, 1) := by decide +kernel
theorem dX8_shareBits_121 : decode cX8_shareBits 121 = .ok (.goto 5, 3) := by decide +kernel
theorem dX8_shareBits_124 : decode cX8_shareBits 124 = .ok (.lload 6, 2) := by decide +kernel
theorem dX8_shareBits_126 : decode cX8_shareBits 126 = .ok (.lreturn, 1) := by decide +kernel
theorem dX9_init_0 : decode cX9_init 0 = .ok (.aload_n 0, 1) := by decide +kernel
theorem dX9_init_1 : decode cX9_init 1 = .ok (.invokespecial 1, 3) := by decide +kernel
theorem dX9_init_4 : decode cX9_init 4 = .ok (.aload_n 0, 1) := by decide +kernel
theorem dX9_init_5 : decode cX9_init 5 = .ok (.bipush 36, 2) := by decide +kernel
theorem dX9_init_7 : decode cX9_init 7 = .ok (.newarray .int, 2) := by decide +kernel
theorem dX9_init_9 : decode cX9_init 9 = .ok (.putfield 7, 3) := by decide +kernel
theorem dX9_init_12 : decode cX9_init 12 = .ok (.aload_n 0, 1) := by decide +kernel
theorem dX9_init_13 : decode cX9_init 13 = .ok (.bipush 24, 2) := by decide +kernel
theorem dX9_init_15 : decode cX9_init 15 = .ok (.newarray .int, 2) := by decide +kernel
theorem dX9_init_17 : decode cX9_init 17 = .ok (.putfield 13, 3) := by decide +kernel
theorem dX9_init_20 : decode cX9_init 20 = .ok (.aload_n 0, 1) := by decide +kernel
theorem dX9_init_21 : decode cX9_init 21 = .ok (.bipush 24, 2) := by decide +kernel
theorem dX9_init_23 : decode cX9_init 23 = .ok (.newarray .int, 2) := by decide +kernel
theorem dX9_init_25 : decode cX9_init 25 = .ok (.putfield 16, 3) := by decide +kernel
theorem dX9_init_28 : decode cX9_init 28 = .ok (.aload_n 0, 1) := by decide +kernel
theorem dX9_init_29 : decode cX9_init 29 = .ok (.ldc 19, 2) := by decide +kernel
theorem dX9_init_31 : decode cX9_init 31 = .ok (.newarray .int, 2) := by decide +kernel
theorem dX9_init_33 : decode cX9_init 33 = .ok (.putfield 20, 3) := by decide +kernel
theorem dX9_init_36 : decode cX9_init 36 = .ok (.aload_n 0, 1) := by decide +kernel
theorem dX9_init_37 : decode cX9_init 37 = .ok (.sipush 29478, 3) := by decide +kernel
theorem dX9_init_40 : decode cX9_init 40 = .ok (.newarray .int, 2) := by decide +kernel
theorem dX9_init_42 : decode cX9_init 42 = .ok (.putfield 23, 3) := by decide +kernel
theorem dX9_init_45 : decode cX9_init 45 = .ok (.aload_n 0, 1) := by decide +kernel
theorem dX9_init_46 : decode cX9_init 46 = .ok (.bipush 36, 2) := by decide +kernel
theorem dX9_init_48 : decode cX9_init 48 = .ok (.newarray .int, 2) := by decide +kernel
theorem dX9_init_50 : decode cX9_init 50 = .ok (.putfield 26, 3) := by decide +kernel
theorem dX9_init_53 : decode cX9_init 53 = .ok (.aload_n 0, 1) := by decide +kernel
theorem dX9_init_54 : decode cX9_init 54 = .ok (.bipush 36, 2) := by decide +kernel
theorem dX9_init_56 : decode cX9_init 56 = .ok (.newarray .int, 2) := by decide +kernel
theorem dX9_init_58 : decode cX9_init 58 = .ok (.putfield 29, 3) := by decide +kernel
theorem dX9_init_61 : decode cX9_init 61 = .ok (.aload_n 0, 1) := by decide +kernel
theorem dX9_init_62 : decode cX9_init 62 = .ok (.bipush 36, 2) := by decide +kernel
theorem dX9_init_64 : decode cX9_init 64 = .ok (.newarray .int, 2) := by decide +kernel
theorem dX9_init_66 : decode cX9_init 66 = .ok (.putfield 32, 3) := by decide +kernel
theorem dX9_init_69 : decode cX9_init 69 = .ok (.aload_n 0, 1) := by decide +kernel
theorem dX9_init_70 : decode cX9_init 70 = .ok (.bipush 7, 2) := by decide +kernel
theorem dX9_init_72 : decode cX9_init 72 = .ok (.newarray .int, 2) := by decide +kernel
theorem dX9_init_74 : decode cX9_init 74 = .ok (.putfield 35, 3) := by decide +kernel
theorem dX9_init_77 : decode cX9_init 77 = .ok (.aload_n 0, 1) := by decide +kernel
theorem dX9_init_78 : decode cX9_init 78 = .ok (.bipush 15, 2) := by decide +kernel
theorem dX9_init_80 : decode cX9_init 80 = .ok (.newarray .int, 2) := by decide +kernel
theorem dX9_init_82 : decode cX9_init 82 = .ok (.putfield 38, 3) := by decide +kernel
theorem dX9_init_85 : decode cX9_init 85 = .ok (.aload_n 0, 1) := by decide +kernel
theorem dX9_init_86 : decode cX9_init 86 = .ok (.bipush 18, 2) := by decide +kernel
theorem dX9_init_88 : decode cX9_init 88 = .ok (.newarray .int, 2) := by decide +kernel
theorem dX9_init_90 : decode cX9_init 90 = .ok (.putfield 41, 3) := by decide +kernel
theorem dX9_init_93 : decode cX9_init 93 = .ok (.aload_n 0, 1) := by decide +kernel
theorem dX9_init_94 : decode cX9_init 94 = .ok (.bipush 24, 2) := by decide +kernel
theorem dX9_init_96 : decode cX9_init 96 = .ok (.newarray .int, 2) := by decide +kernel
theorem dX9_init_98 : decode cX9_init 98 = .ok (.putfield 44, 3) := by decide +kernel
theorem dX9_init_101 : decode cX9_init 101 = .ok (.aload_n 0, 1) := by decide +kernel
theorem dX9_init_102 : decode cX9_init 102 = .ok (.bipush 18, 2) := by decide +kernel
theorem dX9_init_104 : decode cX9_init 104 = .ok (.newarray .int, 2) := by decide +kernel
theorem dX9_init_106 : decode cX9_init 106 = .ok (.putfield 47, 3) := by decide +kernel
theorem dX9_init_109 : decode cX9_init 109 = .ok (.aload_n 0, 1) := by decide +kernel
theorem dX9_init_110 : decode cX9_init 110 = .ok (.iconst (-1), 1) := by decide +kernel
theorem dX9_init_111 : decode cX9_init 111 = .ok (.putfield 50, 3) := by decide +kernel
theorem dX9_init_114 : decode cX9_init 114 = .ok (.iconst 0, 1) := by decide +kernel
theorem dX9_init_115 : decode cX9_init 115 = .ok (.istore_n 1, 1) := by decide +kernel
theorem dX9_init_116 : decode cX9_init 116 = .ok (.iload_n 1, 1) := by decide +kernel
theorem dX9_init_117 : decode cX9_init 117 = .ok (.bipush 15, 2) := by decide +kernel
theorem dX9_init_119 : decode cX9_init 119 = .ok (.if_icmp .ge 16, 3) := by decide +kernel
theorem dX9_init_122 : decode cX9_init 122 = .ok (.aload_n 0, 1) := by decide +kernel
theorem dX9_init_123 : decode cX9_init 123 = .ok (.getfield 38, 3) := by decide +kernel
theorem dX9_init_126 : decode cX9_init 126 = .ok (.iload_n 1, 1) := by decide +kernel
theorem dX9_init_127 : decode cX9_init 127 = .ok (.iconst (-1), 1) := by decide +kernel
theorem dX9_init_128 : decode cX9_init 128 = .ok (.iastore, 1) := by decide +kernel
theorem dX9_init_129 : decode cX9_init 129 = .ok (.iinc 1 1, 3) := by decide +kernel
theorem dX9_init_132 : decode cX9_init 132 = .ok (.goto (-16), 3) := by decide +kernel
theorem dX9_init_135 : decode cX9_init 135 = .ok (.iconst 0, 1) := by decide +kernel
theorem dX9_init_136 : decode cX9_init 136 = .ok (.istore_n 1, 1) := by decide +kernel
theorem dX9_init_137 : decode cX9_init 137 = .ok (.iload_n 1, 1) := by decide +kernel
theorem dX9_init_138 : decode cX9_init 138 = .ok (.sipush 29478, 3) := by decide +kernel
theorem dX9_init_141 : decode cX9_init 141 = .ok (.if_icmp .ge 42, 3) := by decide +kernel
theorem dX9_init_144 : decode cX9_init 144 = .ok (.iload_n 1, 1) := by decide +kernel
theorem dX9_init_145 : decode cX9_init 145 = .ok (.bipush 6, 2) := by decide +kernel
theorem dX9_init_147 : decode cX9_init 147 = .ok (.idiv, 1) := by decide +kernel
theorem dX9_init_148 : decode cX9_init 148 = .ok (.iload_n 1, 1) := by decide +kernel
theorem dX9_init_149 : decode cX9_init 149 = .ok (.bipush 6, 2) := by decide +kernel
theorem dX9_init_151 : decode cX9_init 151 = .ok (.irem, 1) := by decide +kernel
theorem dX9_init_152 : decode cX9_init 152 = .ok (.iconst 2, 1) := by decide +kernel
theorem dX9_init_153 : decode cX9_init 153 = .ok (.idiv, 1) := by decide +kernel
theorem dX9_init_154 : decode cX9_init 154 = .ok (.invokestatic 54, 3) := by decide +kernel
theorem dX9_init_157 : decode cX9_init 157 = .ok (.istore_n 2, 1) := by decide +kernel
theorem dX9_init_158 : decode cX9_init 158 = .ok (.aload_n 0, 1) := by decide +kernel
theorem dX9_init_159 : decode cX9_init 159 = .ok (.getfield 23, 3) := by decide +kernel
theorem dX9_init_162 : decode cX9_init 162 = .ok (.iload_n 1, 1) := by decide +kernel
theorem dX9_init_163 : decode cX9_init 163 = .ok (.iload_n 1, 1) := by decide +kernel
theorem dX9_init_164 : decode cX9_init 164 = .ok (.iconst 2, 1) := by decide +kernel
theorem dX9_init_165 : decode cX9_init 165 = .ok (.irem, 1) := by decide +kernel
theorem dX9_init_166 : decode cX9_init 166 = .ok (.ifCond .ne 7, 3) := by decide +kernel
theorem dX9_init_169 : decode cX9_init 169 = .ok (.iload_n 2, 1) := by decide +kernel
theorem dX9_init_170 : decode cX9_init 170 = .ok (.goto 6, 3) := by decide +kernel
theorem dX9_init_173 : decode cX9_init 173 = .ok (.iconst 0, 1) := by decide +kernel
theorem dX9_init_174 : decode cX9_init 174 = .ok (.iload_n 2, 1) := by decide +kernel
theorem dX9_init_175 : decode cX9_init 175 = .ok (.isub, 1) := by decide +kernel
theorem dX9_init_176 : decode cX9_init 176 = .ok (.iastore, 1) := by decide +kernel
theorem dX9_init_177 : decode cX9_init 177 = .ok (.iinc 1 1, 3) := by decide +kernel
theorem dX9_init_180 : decode cX9_init 180 = .ok (.goto (-43), 3) := by decide +kernel
theorem dX9_init_183 : decode cX9_init 183 = .ok (.return_, 1) := by decide +kernel
theorem dX9_in_0 : decode cX9_in 0 = .ok (.lload_n 0, 1) := by decide +kernel
theorem dX9_in_1 : decode cX9_in 1 = .ok (.lload_n 2, 1) := by decide +kernel
theorem dX9_in_2 : decode cX9_in 2 = .ok (.lcmp, 1) := by decide +kernel
theorem dX9_in_3 : decode cX9_in 3 = .ok (.ifCond .lt 14, 3) := by decide +kernel
theorem dX9_in_6 : decode cX9_in 6 = .ok (.lload_n 0, 1) := by decide +kernel
theorem dX9_in_7 : decode cX9_in 7 = .ok (.lload 4, 2) := by decide +kernel
theorem dX9_in_9 : decode cX9_in 9 = .ok (.lcmp, 1) := by decide +kernel
theorem dX9_in_10 : decode cX9_in 10 = .ok (.ifCond .gt 7, 3) := by decide +kernel
theorem dX9_in_13 : decode cX9_in 13 = .ok (.iconst 1, 1) := by decide +kernel
theorem dX9_in_14 : decode cX9_in 14 = .ok (.goto 4, 3) := by decide +kernel
theorem dX9_in_17 : decode cX9_in 17 = .ok (.iconst 0, 1) := by decide +kernel
theorem dX9_in_18 : decode cX9_in 18 = .ok (.ireturn, 1) := by decide +kernel
theorem dX9_copy_0 : decode cX9_copy 0 = .ok (.iconst 0, 1) := by decide +kernel
theorem dX9_copy_1 : decode cX9_copy 1 = .ok (.istore_n 2, 1) := by decide +kernel
theorem dX9_copy_2 : decode cX9_copy 2 = .ok (.iload_n 2, 1) := by decide +kernel
theorem dX9_copy_3 : decode cX9_copy 3 = .ok (.aload_n 0, 1) := by decide +kernel
theorem dX9_copy_4 : decode cX9_copy 4 = .ok (.arraylength, 1) := by decide +kernel
theorem dX9_copy_5 : decode cX9_copy 5 = .ok (.if_icmp .ge 15, 3) := by decide +kernel
theorem dX9_copy_8 : decode cX9_copy 8 = .ok (.aload_n 1, 1) := by decide +kernel
theorem dX9_copy_9 : decode cX9_copy 9 = .ok (.iload_n 2, 1) := by decide +kernel
theorem dX9_copy_10 : decode cX9_copy 10 = .ok (.aload_n 0, 1) := by decide +kernel
theorem dX9_copy_11 : decode cX9_copy 11 = .ok (.iload_n 2, 1) := by decide +kernel
theorem dX9_copy_12 : decode cX9_copy 12 = .ok (.iaload, 1) := by decide +kernel
theorem dX9_copy_13 : decode cX9_copy 13 = .ok (.iastore, 1) := by decide +kernel
theorem dX9_copy_14 : decode cX9_copy 14 = .ok (.iinc 2 1, 3) := by decide +kernel
theorem dX9_copy_17 : decode cX9_copy 17 = .ok (.goto (-15), 3) := by decide +kernel
theorem dX9_copy_20 : decode cX9_copy 20 = .ok (.return_, 1) := by decide +kernel
theorem dX9_letter_0 : decode cX9_letter 0 = .ok (.iload_n 1, 1) := by decide +kernel
theorem dX9_letter_1 : decode cX9_letter 1 = .ok (.i2l, 1) := by decide +kernel
theorem dX9_letter_2 : decode cX9_letter 2 = .ok (.lconst 1, 1) := by decide +kernel
theorem dX9_letter_3 : decode cX9_letter 3 = .ok (.ldc2_w 58, 3) := by decide +kernel
theorem dX9_letter_6 : decode cX9_letter 6 = .ok (.invokestatic 60, 3) := by decide +kernel
theorem dX9_letter_9 : decode cX9_letter 9 = .ok (.ifCond .ne 6, 3) := by decide +kernel
theorem dX9_letter_12 : decode cX9_letter 12 = .ok (.bipush (-102), 2) := by decide +kernel
theorem dX9_letter_14 : decode cX9_letter 14 = .ok (.ireturn, 1) := by decide +kernel
theorem dX9_letter_15 : decode cX9_letter 15 = .ok (.aload_n 0, 1) := by decide +kernel
theorem dX9_letter_16 : decode cX9_letter 16 = .ok (.getfield 64, 3) := by decide +kernel
theorem dX9_letter_19 : decode cX9_letter 19 = .ok (.bipush 36, 2) := by decide +kernel
theorem dX9_letter_21 : decode cX9_letter 21 = .ok (.if_icmp .ne 6, 3) := by decide +kernel
theorem dX9_letter_24 : decode cX9_letter 24 = .ok (.bipush (-104), 2) := by decide +kernel
theorem dX9_letter_26 : decode cX9_letter 26 = .ok (.ireturn, 1) := by decide +kernel
theorem dX9_letter_27 : decode cX9_letter 27 = .ok (.aload_n 0, 1) := by decide +kernel
theorem dX9_letter_28 : decode cX9_letter 28 = .ok (.getfield 7, 3) := by decide +kernel
theorem dX9_letter_31 : decode cX9_letter 31 = .ok (.aload_n 0, 1) := by decide +kernel
theorem dX9_letter_32 : decode cX9_letter 32 = .ok (.getfield 64, 3) := by decide +kernel
theorem dX9_letter_35 : decode cX9_letter 35 = .ok (.iload_n 1, 1) := by decide +kernel
theorem dX9_letter_36 : decode cX9_letter 36 = .ok (.iastore, 1) := by decide +kernel
theorem dX9_letter_37 : decode cX9_letter 37 = .ok (.aload_n 0, 1) := by decide +kernel
theorem dX9_letter_38 : decode cX9_letter 38 = .ok (.dup, 1) := by decide +kernel
theorem dX9_letter_39 : decode cX9_letter 39 = .ok (.getfield 64, 3) := by decide +kernel
theorem dX9_letter_42 : decode cX9_letter 42 = .ok (.iconst 1, 1) := by decide +kernel
theorem dX9_letter_43 : decode cX9_letter 43 = .ok (.iadd, 1) := by decide +kernel
theorem dX9_letter_44 : decode cX9_letter 44 = .ok (.putfield 64, 3) := by decide +kernel
theorem dX9_letter_47 : decode cX9_letter 47 = .ok (.aload_n 0, 1) := by decide +kernel
theorem dX9_letter_48 : decode cX9_letter 48 = .ok (.getfield 64, 3) := by decide +kernel
theorem dX9_letter_51 : decode cX9_letter 51 = .ok (.ireturn, 1) := by decide +kernel
theorem dX9_blank_0 : decode cX9_blank 0 = .ok (.aload_n 0, 1) := by decide +kernel
theorem dX9_blank_1 : decode cX9_blank 1 = .ok (.getfield 64, 3) := by decide +kernel
theorem dX9_blank_4 : decode cX9_blank 4 = .ok (.istore_n 1, 1) := by decide +kernel
theorem dX9_blank_5 : decode cX9_blank 5 = .ok (.aload_n 0, 1) := by decide +kernel
theorem dX9_blank_6 : decode cX9_blank 6 = .ok (.iconst 0, 1) := by decide +kernel
theorem dX9_blank_7 : decode cX9_blank 7 = .ok (.putfield 64, 3) := by decide +kernel
theorem dX9_blank_10 : decode cX9_blank 10 = .ok (.iload_n 1, 1) := by decide +kernel
theorem dX9_blank_11 : decode cX9_blank 11 = .ok (.ireturn, 1) := by decide +kernel
theorem dX9_kindBy_0 : decode cX9_kindBy 0 = .ok (.iload_n 0, 1) := by decide +kernel
theorem dX9_kindBy_1 : decode cX9_kindBy 1 = .ok (.lookupswitch 61 #[(97, 57), (102, 55), (115, 53), (116, 51), (119, 59)], 51) := by decide +kernel
theorem dX9_kindBy_52 : decode cX9_kindBy 52 = .ok (.iconst 0, 1) := by decide +kernel
theorem dX9_kindBy_53 : decode cX9_kindBy 53 = .ok (.ireturn, 1) := by decide +kernel
theorem dX9_kindBy_54 : decode cX9_kindBy 54 = .ok (.iconst 1, 1) := by decide +kernel
theorem dX9_kindBy_55 : decode cX9_kindBy 55 = .ok (.ireturn, 1) := by decide +kernel
theorem dX9_kindBy_56 : decode cX9_kindBy 56 = .ok (.iconst 2, 1) := by decide +kernel
theorem dX9_kindBy_57 : decode cX9_kindBy 57 = .ok (.ireturn, 1) := by decide +kernel
theorem dX9_kindBy_58 : decode cX9_kindBy 58 = .ok (.iconst 3, 1) := by decide +kernel
theorem dX9_kindBy_59 : decode cX9_kindBy 59 = .ok (.ireturn, 1) := by decide +kernel
theorem dX9_kindBy_60 : decode cX9_kindBy 60 = .ok (.iconst 4, 1) := by decide +kernel
theorem dX9_kindBy_61 : decode cX9_kindBy 61 = .ok (.ireturn, 1) := by decide +kernel
theorem dX9_kindBy_62 : decode cX9_kindBy 62 = .ok (.iconst (-1), 1) := by decide +kernel
theorem dX9_kindBy_63 : decode cX9_kindBy 63 = .ok (.ireturn, 1) := by decide +kernel
theorem dX9_longOf_0 : decode cX9_longOf 0 = .ok (.iload_n 0, 1) := by decide +kernel
theorem dX9_longOf_1 : decode cX9_longOf 1 = .ok (.ifCond .eq 8, 3) := by decide +kernel
theorem dX9_longOf_4 : decode cX9_longOf 4 = .ok (.iload_n 0, 1) := by decide +kernel
theorem dX9_longOf_5 : decode cX9_longOf 5 = .ok (.iconst 1, 1) := by decide +kernel
theorem dX9_longOf_6 : decode cX9_longOf 6 = .ok (.if_icmp .ne 7, 3) := by decide +kernel
theorem dX9_longOf_9 : decode cX9_longOf 9 = .ok (.iconst 5, 1) := by decide +kernel
theorem dX9_longOf_10 : decode cX9_longOf 10 = .ok (.goto 13, 3) := by decide +kernel
theorem dX9_longOf_13 : decode cX9_longOf 13 = .ok (.iload_n 0, 1) := by decide +kernel
theorem dX9_longOf_14 : decode cX9_longOf 14 = .ok (.iconst 3, 1) := by decide +kernel
theorem dX9_longOf_15 : decode cX9_longOf 15 = .ok (.if_icmp .ne 7, 3) := by decide +kernel
theorem dX9_longOf_18 : decode cX9_longOf 18 = .ok (.iconst 4, 1) := by decide +kernel
theorem dX9_longOf_19 : decode cX9_longOf 19 = .ok (.goto 4, 3) := by decide +kernel
theorem dX9_longOf_22 : decode cX9_longOf 22 = .ok (.iconst 2, 1) := by decide +kernel
theorem dX9_longOf_23 : decode cX9_longOf 23 = .ok (.ireturn, 1) := by decide +kernel
theorem dX9_isBegun_0 : decode cX9_isBegun 0 = .ok (.aload_n 0, 1) := by decide +kernel
theorem dX9_isBegun_1 : decode cX9_isBegun 1 = .ok (.iload_n 1, 1) := by decide +kernel
theorem dX9_isBegun_2 : decode cX9_isBegun 2 = .ok (.invokestatic 67, 3) := by decide +kernel
theorem dX9_isBegun_5 : decode cX9_isBegun 5 = .ok (.putfield 71, 3) := by decide +kernel
theorem dX9_isBegun_8 : decode cX9_isBegun 8 = .ok (.aload_n 0, 1) := by decide +kernel
theorem dX9_isBegun_9 : decode cX9_isBegun 9 = .ok (.iconst 1, 1) := by decide +kernel
theorem dX9_isBegun_10 : decode cX9_isBegun 10 = .ok (.putfield 74, 3) := by decide +kernel
theorem dX9_isBegun_13 : decode cX9_isBegun 13 = .ok (.iconst 4, 1) := by decide +kernel
theorem dX9_isBegun_14 : decode cX9_isBegun 14 = .ok (.aload_n 0, 1) := by decide +kernel
theorem dX9_isBegun_15 : decode cX9_isBegun 15 = .ok (.getfield 77, 3) := by decide +kernel
theorem dX9_isBegun_18 : decode cX9_isBegun 18 = .ok (.imul, 1) := by decide +kernel
theorem dX9_isBegun_19 : decode cX9_isBegun 19 = .ok (.istore_n 2, 1) := by decide +kernel
theorem dX9_isBegun_20 : decode cX9_isBegun 20 = .ok (.aload_n 0, 1) := by decide +kernel
theorem dX9_isBegun_21 : decode cX9_isBegun 21 = .ok (.getfield 13, 3) := by decide +kernel
theorem dX9_isBegun_24 : decode cX9_isBegun 24 = .ok (.iload_n 2, 1) := by decide +kernel
theorem dX9_isBegun_25 : decode cX9_isBegun 25 = .ok (.aload_n 0, 1) := by decide +kernel
theorem dX9_isBegun_26 : decode cX9_isBegun 26 = .ok (.getfield 71, 3) := by decide +kernel
theorem dX9_isBegun_29 : decode cX9_isBegun 29 = .ok (.iastore, 1) := by decide +kernel
theorem dX9_isBegun_30 : decode cX9_isBegun 30 = .ok (.aload_n 0, 1) := by decide +kernel
theorem dX9_isBegun_31 : decode cX9_isBegun 31 = .ok (.getfield 13, 3) := by decide +kernel
theorem dX9_isBegun_34 : decode cX9_isBegun 34 = .ok (.iload_n 2, 1) := by decide +kernel
theorem dX9_isBegun_35 : decode cX9_isBegun 35 = .ok (.iconst 1, 1) := by decide +kernel
theorem dX9_isBegun_36 : decode cX9_isBegun 36 = .ok (.iadd, 1) := by decide +kernel
theorem dX9_isBegun_37 : decode cX9_isBegun 37 = .ok (.iconst (-1), 1) := by decide +kernel
theorem dX9_isBegun_38 : decode cX9_isBegun 38 = .ok (.iastore, 1) := by decide +kernel
theorem dX9_isBegun_39 : decode cX9_isBegun 39 = .ok (.aload_n 0, 1) := by decide +kernel
theorem dX9_isBegun_40 : decode cX9_isBegun 40 = .ok (.getfield 13, 3) := by decide +kernel
theorem dX9_isBegun_43 : decode cX9_isBegun 43 = .ok (.iload_n 2, 1) := by decide +kernel
theorem dX9_isBegun_44 : decode cX9_isBegun 44 = .ok (.iconst 2, 1) := by decide +kernel
theorem dX9_isBegun_45 : decode cX9_isBegun 45 = .ok (.iadd, 1) := by decide +kernel
theorem dX9_isBegun_46 : decode cX9_isBegun 46 = .ok (.iconst (-1), 1) := by decide +kernel
theorem dX9_isBegun_47 : decode cX9_isBegun 47 = .ok (.iastore, 1) := by decide +kernel
theorem dX9_isBegun_48 : decode cX9_isBegun 48 = .ok (.aload_n 0, 1) := by decide +kernel
theorem dX9_isBegun_49 : decode cX9_isBegun 49 = .ok (.getfield 13, 3) := by decide +kernel
theorem dX9_isBegun_52 : decode cX9_isBegun 52 = .ok (.iload_n 2, 1) := by decide +kernel
theorem dX9_isBegun_53 : decode cX9_isBegun 53 = .ok (.iconst 3, 1) := by decide +kernel
theorem dX9_isBegun_54 : decode cX9_isBegun 54 = .ok (.iadd, 1) := by decide +kernel
theorem dX9_isBegun_55 : decode cX9_isBegun 55 = .ok (.iconst (-1), 1) := by decide +kernel
theorem dX9_isBegun_56 : decode cX9_isBegun 56 = .ok (.iastore, 1) := by decide +kernel
theorem dX9_isBegun_57 : decode cX9_isBegun 57 = .ok (.aload_n 0, 1) := by decide +kernel
theorem dX9_isBegun_58 : decode cX9_isBegun 58 = .ok (.getfield 71, 3) := by decide +kernel
theorem dX9_isBegun_61 : decode cX9_isBegun 61 = .ok (.iconst (-1), 1) := by decide +kernel
theorem dX9_isBegun_62 : decode cX9_isBegun 62 = .ok (.if_icmp .eq 26, 3) := by decide +kernel
theorem dX9_isBegun_65 : decode cX9_isBegun 65 = .ok (.aload_n 0, 1) := by decide +kernel
theorem dX9_isBegun_66 : decode cX9_isBegun 66 = .ok (.getfield 71, 3) := by decide +kernel
theorem dX9_isBegun_69 : decode cX9_isBegun 69 = .ok (.iconst 4, 1) := by decide +kernel
theorem dX9_isBegun_70 : decode cX9_isBegun 70 = .ok (.if_icmp .ne 14, 3) := by decide +kernel
theorem dX9_isBegun_73 : decode cX9_isBegun 73 = .ok (.aload_n 0, 1) := by decide +kernel
theorem dX9_isBegun_74 : decode cX9_isBegun 74 = .ok (.getfield 80, 3) := by decide +kernel
theorem dX9_isBegun_77 : decode cX9_isBegun 77 = .ok (.aload_n 0, 1) := by decide +kernel
theorem dX9_isBegun_78 : decode cX9_isBegun 78 = .ok (.getfield 77, 3) := by decide +kernel
theorem dX9_isBegun_81 : decode cX9_isBegun 81 = .ok (.if_icmp .ge 7, 3) := by decide +kernel
theorem dX9_isBegun_84 : decode cX9_isBegun 84 = .ok (.iconst 1, 1) := by decide +kernel
theorem dX9_isBegun_85 : decode cX9_isBegun 85 = .ok (.goto 4, 3) := by decide +kernel
theorem dX9_isBegun_88 : decode cX9_isBegun 88 = .ok (.iconst 0, 1) := by decide +kernel
theorem dX9_isBegun_89 : decode cX9_isBegun 89 = .ok (.ireturn, 1) := by decide +kernel
theorem dX9_endStep_0 : decode cX9_endStep 0 = .ok (.aload_n 0, 1) := by decide +kernel
theorem dX9_endStep_1 : decode cX9_endStep 1 = .ok (.getfield 74, 3) := by decide +kernel
theorem dX9_endStep_4 : decode cX9_endStep 4 = .ok (.aload_n 0, 1) := by decide +kernel
theorem dX9_endStep_5 : decode cX9_endStep 5 = .ok (.getfield 71, 3) := by decide +kernel
theorem dX9_endStep_8 : decode cX9_endStep 8 = .ok (.invokestatic 83, 3) := by decide +kernel
theorem dX9_endStep_11 : decode cX9_endStep 11 = .ok (.if_icmp .ne 38, 3) := by decide +kernel
theorem dX9_endStep_14 : decode cX9_endStep 14 = .ok (.aload_n 0, 1) := by decide +kernel
theorem dX9_endStep_15 : decode cX9_endStep 15 = .ok (.aload_n 0, 1) := by decide +kernel
theorem dX9_endStep_16 : decode cX9_endStep 16 = .ok (.getfield 71, 3) := by decide +kernel
theorem dX9_endStep_19 : decode cX9_endStep 19 = .ok (.iconst 4, 1) := by decide +kernel
theorem dX9_endStep_20 : decode cX9_endStep 20 = .ok (.if_icmp .ne 12, 3) := by decide +kernel
theorem dX9_endStep_23 : decode cX9_endStep 23 = .ok (.aload_n 0, 1) := by decide +kernel
theorem dX9_endStep_24 : decode cX9_endStep 24 = .ok (.getfield 77, 3) := by decide +kernel
theorem dX9_endStep_27 : decode cX9_endStep 27 = .ok (.iconst 1, 1) := by decide +kernel
theorem dX9_endStep_28 : decode cX9_endStep 28 = .ok (.iadd, 1) := by decide +kernel
theorem dX9_endStep_29 : decode cX9_endStep 29 = .ok (.goto 7, 3) := by decide +kernel
theorem dX9_endStep_32 : decode cX9_endStep 32 = .ok (.aload_n 0, 1) := by decide +kernel
theorem dX9_endStep_33 : decode cX9_endStep 33 = .ok (.getfield 80, 3) := by decide +kernel
theorem dX9_endStep_36 : decode cX9_endStep 36 = .ok (.putfield 80, 3) := by decide +kernel
theorem dX9_endStep_39 : decode cX9_endStep 39 = .ok (.aload_n 0, 1) := by decide +kernel
theorem dX9_endStep_40 : decode cX9_endStep 40 = .ok (.dup, 1) := by decide +kernel
theorem dX9_endStep_41 : decode cX9_endStep 41 = .ok (.getfield 77, 3) := by decide +kernel
theorem dX9_endStep_44 : decode cX9_endStep 44 = .ok (.iconst 1, 1) := by decide +kernel
theorem dX9_endStep_45 : decode cX9_endStep 45 = .ok (.iadd, 1) := by decide +kernel
theorem dX9_endStep_46 : decode cX9_endStep 46 = .ok (.putfield 77, 3) := by decide +kernel
theorem dX9_endStep_49 : decode cX9_endStep 49 = .ok (.return_, 1) := by decide +kernel
theorem dX9_isFirstDigit_0 : decode cX9_isFirstDigit 0 = .ok (.aload_n 0, 1) := by decide +kernel
theorem dX9_isFirstDigit_1 : decode cX9_isFirstDigit 1 = .ok (.getfield 13, 3) := by decide +kernel
theorem dX9_isFirstDigit_4 : decode cX9_isFirstDigit 4 = .ok (.iconst 4, 1) := by decide +kernel
theorem dX9_isFirstDigit_5 : decode cX9_isFirstDigit 5 = .ok (.aload_n 0, 1) := by decide +kernel
theorem dX9_isFirstDigit_6 : decode cX9_isFirstDigit 6 = .ok (.getfield 77, 3) := by decide +kernel
theorem dX9_isFirstDigit_9 : decode cX9_isFirstDigit 9 = .ok (.imul, 1) := by decide +kernel
theorem dX9_isFirstDigit_10 : decode cX9_isFirstDigit 10 = .ok (.iconst 1, 1) := by decide +kernel
theorem dX9_isFirstDigit_11 : decode cX9_isFirstDigit 11 = .ok (.iadd, 1) := by decide +kernel
theorem dX9_isFirstDigit_12 : decode cX9_isFirstDigit 12 = .ok (.iload_n 1, 1) := by decide +kernel
theorem dX9_isFirstDigit_13 : decode cX9_isFirstDigit 13 = .ok (.bipush 48, 2) := by decide +kernel
theorem dX9_isFirstDigit_15 : decode cX9_isFirstDigit 15 = .ok (.isub, 1) := by decide +kernel
theorem dX9_isFirstDigit_16 : decode cX9_isFirstDigit 16 = .ok (.iastore, 1) := by decide +kernel
theorem dX9_isFirstDigit_17 : decode cX9_isFirstDigit 17 = .ok (.aload_n 0, 1) := by decide +kernel
theorem dX9_isFirstDigit_18 : decode cX9_isFirstDigit 18 = .ok (.getfield 71, 3) := by decide +kernel
theorem dX9_isFirstDigit_21 : decode cX9_isFirstDigit 21 = .ok (.iconst 4, 1) := by decide +kernel
theorem dX9_isFirstDigit_22 : decode cX9_isFirstDigit 22 = .ok (.if_icmp .ne 29, 3) := by decide +kernel
theorem dX9_isFirstDigit_25 : decode cX9_isFirstDigit 25 = .ok (.iload_n 1, 1) := by decide +kernel
theorem dX9_isFirstDigit_26 : decode cX9_isFirstDigit 26 = .ok (.i2l, 1) := by decide +kernel
theorem dX9_isFirstDigit_27 : decode cX9_isFirstDigit 27 = .ok (.bipush 48, 2) := by decide +kernel
theorem dX9_isFirstDigit_29 : decode cX9_isFirstDigit 29 = .ok (.aload_n 0, 1) := by decide +kernel
theorem dX9_isFirstDigit_30 : decode cX9_isFirstDigit 30 = .ok (.getfield 80, 3) := by decide +kernel
theorem dX9_isFirstDigit_33 : decode cX9_isFirstDigit 33 = .ok (.iadd, 1) := by decide +kernel
theorem dX9_isFirstDigit_34 : decode cX9_isFirstDigit 34 = .ok (.i2l, 1) := by decide +kernel
theorem dX9_isFirstDigit_35 : decode cX9_isFirstDigit 35 = .ok (.bipush 48, 2) := by decide +kernel
theorem dX9_isFirstDigit_37 : decode cX9_isFirstDigit 37 = .ok (.aload_n 0, 1) := by decide +kernel
theorem dX9_isFirstDigit_38 : decode cX9_isFirstDigit 38 = .ok (.getfield 77, 3) := by decide +kernel
theorem dX9_isFirstDigit_41 : decode cX9_isFirstDigit 41 = .ok (.iadd, 1) := by decide +kernel
theorem dX9_isFirstDigit_42 : decode cX9_isFirstDigit 42 = .ok (.iconst 1, 1) := by decide +kernel
theorem dX9_isFirstDigit_43 : decode cX9_isFirstDigit 43 = .ok (.isub, 1) := by decide +kernel
theorem dX9_isFirstDigit_44 : decode cX9_isFirstDigit 44 = .ok (.i2l, 1) := by decide +kernel
theorem dX9_isFirstDigit_45 : decode cX9_isFirstDigit 45 = .ok (.invokestatic 60, 3) := by decide +kernel
theorem dX9_isFirstDigit_48 : decode cX9_isFirstDigit 48 = .ok (.goto 27, 3) := by decide +kernel
theorem dX9_isFirstDigit_51 : decode cX9_isFirstDigit 51 = .ok (.iload_n 1, 1) := by decide +kernel
theorem dX9_isFirstDigit_52 : decode cX9_isFirstDigit 52 = .ok (.i2l, 1) := by decide +kernel
theorem dX9_isFirstDigit_53 : decode cX9_isFirstDigit 53 = .ok (.ldc2_w 86, 3) := by decide +kernel
theorem dX9_isFirstDigit_56 : decode cX9_isFirstDigit 56 = .ok (.aload_n 0, 1) := by decide +kernel
theorem dX9_isFirstDigit_57 : decode cX9_isFirstDigit 57 = .ok (.getfield 71, 3) := by decide +kernel
theorem dX9_isFirstDigit_60 : decode cX9_isFirstDigit 60 = .ok (.ifCond .ne 9, 3) := by decide +kernel
theorem dX9_isFirstDigit_63 : decode cX9_isFirstDigit 63 = .ok (.ldc2_w 88, 3) := by decide +kernel
theorem dX9_isFirstDigit_66 : decode cX9_isFirstDigit 66 = .ok (.goto 6, 3) := by decide +kernel
theorem dX9_isFirstDigit_69 : decode cX9_isFirstDigit 69 = .ok (.ldc2_w 90, 3) := by decide +kernel
theorem dX9_isFirstDigit_72 : decode cX9_isFirstDigit 72 = .ok (.invokestatic 60, 3) := by decide +kernel
theorem dX9_isFirstDigit_75 : decode cX9_isFirstDigit 75 = .ok (.ireturn, 1) := by decide +kernel
theorem dX9_isSecondDigit_0 : decode cX9_isSecondDigit 0 = .ok (.aload_n 0, 1) := by decide +kernel
theorem dX9_isSecondDigit_1 : decode cX9_isSecondDigit 1 = .ok (.getfield 13, 3) := by decide +kernel
theorem dX9_isSecondDigit_4 : decode cX9_isSecondDigit 4 = .ok (.iconst 4, 1) := by decide +kernel
theorem dX9_isSecondDigit_5 : decode cX9_isSecondDigit 5 = .ok (.aload_n 0, 1) := by decide +kernel
theorem dX9_isSecondDigit_6 : decode cX9_isSecondDigit 6 = .ok (.getfield 77, 3) := by decide +kernel
theorem dX9_isSecondDigit_9 : decode cX9_isSecondDigit 9 = .ok (.imul, 1) := by decide +kernel
theorem dX9_isSecondDigit_10 : decode cX9_isSecondDigit 10 = .ok (.iconst 2, 1) := by decide +kernel
theorem dX9_isSecondDigit_11 : decode cX9_isSecondDigit 11 = .ok (.iadd, 1) := by decide +kernel
theorem dX9_isSecondDigit_12 : decode cX9_isSecondDigit 12 = .ok (.iload_n 1, 1) := by decide +kernel
theorem dX9_isSecondDigit_13 : decode cX9_isSecondDigit 13 = .ok (.bipush 48, 2) := by decide +kernel
theorem dX9_isSecondDigit_15 : decode cX9_isSecondDigit 15 = .ok (.isub, 1) := by decide +kernel
theorem dX9_isSecondDigit_16 : decode cX9_isSecondDigit 16 = .ok (.iastore, 1) := by decide +kernel
theorem dX9_isSecondDigit_17 : decode cX9_isSecondDigit 17 = .ok (.iload_n 1, 1) := by decide +kernel
theorem dX9_isSecondDigit_18 : decode cX9_isSecondDigit 18 = .ok (.i2l, 1) := by decide +kernel
theorem dX9_isSecondDigit_19 : decode cX9_isSecondDigit 19 = .ok (.ldc2_w 86, 3) := by decide +kernel
theorem dX9_isSecondDigit_22 : decode cX9_isSecondDigit 22 = .ok (.ldc2_w 88, 3) := by decide +kernel
theorem dX9_isSecondDigit_25 : decode cX9_isSecondDigit 25 = .ok (.invokestatic 60, 3) := by decide +kernel
theorem dX9_isSecondDigit_28 : decode cX9_isSecondDigit 28 = .ok (.ireturn, 1) := by decide +kernel
theorem dX9_isSign_0 : decode cX9_isSign 0 = .ok (.aload_n 0, 1) := by decide +kernel
theorem dX9_isSign_1 : decode cX9_isSign 1 = .ok (.iload_n 1, 1) := by decide +kernel
theorem dX9_isSign_2 : decode cX9_isSign 2 = .ok (.bipush 45, 2) := by decide +kernel
theorem dX9_isSign_4 : decode cX9_isSign 4 = .ok (.if_icmp .ne 7, 3) := by decide +kernel
theorem dX9_isSign_7 : decode cX9_isSign 7 = .ok (.iconst (-1), 1) := by decide +kernel
theorem dX9_isSign_8 : decode cX9_isSign 8 = .ok (.goto 4, 3) := by decide +kernel
theorem dX9_isSign_11 : decode cX9_isSign 11 = .ok (.iconst 1, 1) := by decide +kernel
theorem dX9_isSign_12 : decode cX9_isSign 12 = .ok (.putfield 92, 3) := by decide +kernel
theorem dX9_isSign_15 : decode cX9_isSign 15 = .ok (.iload_n 1, 1) := by decide +kernel
theorem dX9_isSign_16 : decode cX9_isSign 16 = .ok (.bipush 43, 2) := by decide +kernel
theorem dX9_isSign_18 : decode cX9_isSign 18 = .ok (.if_icmp .eq 9, 3) := by decide +kernel
theorem dX9_isSign_21 : decode cX9_isSign 21 = .ok (.iload_n 1, 1) := by decide +kernel
theorem dX9_isSign_22 : decode cX9_isSign 22 = .ok (.bipush 45, 2) := by decide +kernel
theorem dX9_isSign_24 : decode cX9_isSign 24 = .ok (.if_icmp .ne 7, 3) := by decide +kernel
theorem dX9_isSign_27 : decode cX9_isSign 27 = .ok (.iconst 1, 1) := by decide +kernel
theorem dX9_isSign_28 : decode cX9_isSign 28 = .ok (.goto 4, 3) := by decide +kernel
theorem dX9_isSign_31 : decode cX9_isSign 31 = .ok (.iconst 0, 1) := by decide +kernel
theorem dX9_isSign_32 : decode cX9_isSign 32 = .ok (.ireturn, 1) := by decide +kernel
theorem dX9_isLastDigit_0 : decode cX9_isLastDigit 0 = .ok (.aload_n 0, 1) := by decide +kernel
theorem dX9_isLastDigit_1 : decode cX9_isLastDigit 1 = .ok (.getfield 13, 3) := by decide +kernel
theorem dX9_isLastDigit_4 : decode cX9_isLastDigit 4 = .ok (.iconst 4, 1) := by decide +kernel
theorem dX9_isLastDigit_5 : decode cX9_isLastDigit 5 = .ok (.aload_n 0, 1) := by decide +kernel
theorem dX9_isLastDigit_6 : decode cX9_isLastDigit 6 = .ok (.getfield 77, 3) := by decide +kernel
theorem dX9_isLastDigit_9 : decode cX9_isLastDigit 9 = .ok (.imul, 1) := by decide +kernel
theorem dX9_isLastDigit_10 : decode cX9_isLastDigit 10 = .ok (.iconst 3, 1) := by decide +kernel
theorem dX9_isLastDigit_11 : decode cX9_isLastDigit 11 = .ok (.iadd, 1) := by decide +kernel
theorem dX9_isLastDigit_12 : decode cX9_isLastDigit 12 = .ok (.aload_n 0, 1) := by decide +kernel
theorem dX9_isLastDigit_13 : decode cX9_isLastDigit 13 = .ok (.getfield 92, 3) := by decide +kernel
theorem dX9_isLastDigit_16 : decode cX9_isLastDigit 16 = .ok (.iload_n 1, 1) := by decide +kernel
theorem dX9_isLastDigit_17 : decode cX9_isLastDigit 17 = .ok (.bipush 48, 2) := by decide +kernel
theorem dX9_isLastDigit_19 : decode cX9_isLastDigit 19 = .ok (.isub, 1) := by decide +kernel
theorem dX9_isLastDigit_20 : decode cX9_isLastDigit 20 = .ok (.imul, 1) := by decide +kernel
theorem dX9_isLastDigit_21 : decode cX9_isLastDigit 21 = .ok (.bipush 100, 2) := by decide +kernel
theorem dX9_isLastDigit_23 : decode cX9_isLastDigit 23 = .ok (.iadd, 1) := by decide +kernel
theorem dX9_isLastDigit_24 : decode cX9_isLastDigit 24 = .ok (.iastore, 1) := by decide +kernel
theorem dX9_isLastDigit_25 : decode cX9_isLastDigit 25 = .ok (.iload_n 1, 1) := by decide +kernel
theorem dX9_isLastDigit_26 : decode cX9_isLastDigit 26 = .ok (.i2l, 1) := by decide +kernel
theorem dX9_isLastDigit_27 : decode cX9_isLastDigit 27 = .ok (.ldc2_w 86, 3) := by decide +kernel
theorem dX9_isLastDigit_30 : decode cX9_isLastDigit 30 = .ok (.ldc2_w 95, 3) := by decide +kernel
theorem dX9_isLastDigit_33 : decode cX9_isLastDigit 33 = .ok (.invokestatic 60, 3) := by decide +kernel
theorem dX9_isLastDigit_36 : decode cX9_isLastDigit 36 = .ok (.ireturn, 1) := by decide +kernel
theorem dX9_isInside_0 : decode cX9_isInside 0 = .ok (.aload_n 0, 1) := by decide +kernel
theorem dX9_isInside_1 : decode cX9_isInside 1 = .ok (.getfield 74, 3) := by decide +kernel
theorem dX9_isInside_4 : decode cX9_isInside 4 = .ok (.aload_n 0, 1) := by decide +kernel
theorem dX9_isInside_5 : decode cX9_isInside 5 = .ok (.getfield 71, 3) := by decide +kernel
theorem dX9_isInside_8 : decode cX9_isInside 8 = .ok (.iconst 3, 1) := by decide +kernel
theorem dX9_isInside_9 : decode cX9_isInside 9 = .ok (.if_icmp .ne 15, 3) := by decide +kernel
theorem dX9_isInside_12 : decode cX9_isInside 12 = .ok (.aload_n 0, 1) := by decide +kernel
theorem dX9_isInside_13 : decode cX9_isInside 13 = .ok (.getfield 74, 3) := by decide +kernel
theorem dX9_isInside_16 : decode cX9_isInside 16 = .ok (.iconst 1, 1) := by decide +kernel
theorem dX9_isInside_17 : decode cX9_isInside 17 = .ok (.if_icmp .le 7, 3) := by decide +kernel
theorem dX9_isInside_20 : decode cX9_isInside 20 = .ok (.iconst 1, 1) := by decide +kernel
theorem dX9_isInside_21 : decode cX9_isInside 21 = .ok (.goto 4, 3) := by decide +kernel
theorem dX9_isInside_24 : decode cX9_isInside 24 = .ok (.iconst 0, 1) := by decide +kernel
theorem dX9_isInside_25 : decode cX9_isInside 25 = .ok (.iadd, 1) := by decide +kernel
theorem dX9_isInside_26 : decode cX9_isInside 26 = .ok (.istore_n 2, 1) := by decide +kernel
theorem dX9_isInside_27 : decode cX9_isInside 27 = .ok (.iload_n 2, 1) := by decide +kernel
theorem dX9_isInside_28 : decode cX9_isInside 28 = .ok (.iconst 1, 1) := by decide +kernel
theorem dX9_isInside_29 : decode cX9_isInside 29 = .ok (.if_icmp .ne 11, 3) := by decide +kernel
theorem dX9_isInside_32 : decode cX9_isInside 32 = .ok (.aload_n 0, 1) := by decide +kernel
theorem dX9_isInside_33 : decode cX9_isInside 33 = .ok (.iload_n 1, 1) := by decide +kernel
theorem dX9_isInside_34 : decode cX9_isInside 34 = .ok (.invokevirtual 97, 3) := by decide +kernel
theorem dX9_isInside_37 : decode cX9_isInside 37 = .ok (.goto 34, 3) := by decide +kernel
theorem dX9_isInside_40 : decode cX9_isInside 40 = .ok (.iload_n 2, 1) := by decide +kernel
theorem dX9_isInside_41 : decode cX9_isInside 41 = .ok (.iconst 2, 1) := by decide +kernel
theorem dX9_isInside_42 : decode cX9_isInside 42 = .ok (.if_icmp .ne 11, 3) := by decide +kernel
theorem dX9_isInside_45 : decode cX9_isInside 45 = .ok (.aload_n 0, 1) := by decide +kernel
theorem dX9_isInside_46 : decode cX9_isInside 46 = .ok (.iload_n 1, 1) := by decide +kernel
theorem dX9_isInside_47 : decode cX9_isInside 47 = .ok (.invokevirtual 101, 3) := by decide +kernel
theorem dX9_isInside_50 : decode cX9_isInside 50 = .ok (.goto 21, 3) := by decide +kernel
theorem dX9_isInside_53 : decode cX9_isInside 53 = .ok (.iload_n 2, 1) := by decide +kernel
theorem dX9_isInside_54 : decode cX9_isInside 54 = .ok (.iconst 3, 1) := by decide +kernel
theorem dX9_isInside_55 : decode cX9_isInside 55 = .ok (.if_icmp .ne 11, 3) := by decide +kernel
theorem dX9_isInside_58 : decode cX9_isInside 58 = .ok (.aload_n 0, 1) := by decide +kernel
theorem dX9_isInside_59 : decode cX9_isInside 59 = .ok (.iload_n 1, 1) := by decide +kernel
theorem dX9_isInside_60 : decode cX9_isInside 60 = .ok (.invokevirtual 104, 3) := by decide +kernel
theorem dX9_isInside_63 : decode cX9_isInside 63 = .ok (.goto 8, 3) := by decide +kernel
theorem dX9_isInside_66 : decode cX9_isInside 66 = .ok (.aload_n 0, 1) := by decide +kernel
theorem dX9_isInside_67 : decode cX9_isInside 67 = .ok (.iload_n 1, 1) := by decide +kernel
theorem dX9_isInside_68 : decode cX9_isInside 68 = .ok (.invokevirtual 107, 3) := by decide +kernel
theorem dX9_isInside_71 : decode cX9_isInside 71 = .ok (.istore_n 3, 1) := by decide +kernel
theorem dX9_isInside_72 : decode cX9_isInside 72 = .ok (.aload_n 0, 1) := by decide +kernel
theorem dX9_isInside_73 : decode cX9_isInside 73 = .ok (.dup, 1) := by decide +kernel
theorem dX9_isInside_74 : decode cX9_isInside 74 = .ok (.getfield 74, 3) := by decide +kernel
theorem dX9_isInside_77 : decode cX9_isInside 77 = .ok (.iconst 1, 1) := by decide +kernel
theorem dX9_isInside_78 : decode cX9_isInside 78 = .ok (.iadd, 1) := by decide +kernel
theorem dX9_isInside_79 : decode cX9_isInside 79 = .ok (.putfield 74, 3) := by decide +kernel
theorem dX9_isInside_82 : decode cX9_isInside 82 = .ok (.iload_n 3, 1) := by decide +kernel
theorem dX9_isInside_83 : decode cX9_isInside 83 = .ok (.ifCond .eq 7, 3) := by decide +kernel
theorem dX9_isInside_86 : decode cX9_isInside 86 = .ok (.aload_n 0, 1) := by decide +kernel
theorem dX9_isInside_87 : decode cX9_isInside 87 = .ok (.invokevirtual 110, 3) := by decide +kernel
theorem dX9_isInside_90 : decode cX9_isInside 90 = .ok (.iload_n 3, 1) := by decide +kernel
theorem dX9_isInside_91 : decode cX9_isInside 91 = .ok (.ireturn, 1) := by decide +kernel
theorem dX9_isGood_0 : decode cX9_isGood 0 = .ok (.aload_n 0, 1) := by decide +kernel
theorem dX9_isGood_1 : decode cX9_isGood 1 = .ok (.getfield 74, 3) := by decide +kernel
theorem dX9_isGood_4 : decode cX9_isGood 4 = .ok (.ifCond .ne 9, 3) := by decide +kernel
theorem dX9_isGood_7 : decode cX9_isGood 7 = .ok (.aload_n 0, 1) := by decide +kernel
theorem dX9_isGood_8 : decode cX9_isGood 8 = .ok (.iload_n 1, 1) := by decide +kernel
theorem dX9_isGood_9 : decode cX9_isGood 9 = .ok (.invokevirtual 113, 3) := by decide +kernel
theorem dX9_isGood_12 : decode cX9_isGood 12 = .ok (.ireturn, 1) := by decide +kernel
theorem dX9_isGood_13 : decode cX9_isGood 13 = .ok (.aload_n 0, 1) := by decide +kernel
theorem dX9_isGood_14 : decode cX9_isGood 14 = .ok (.getfield 74, 3) := by decide +kernel
theorem dX9_isGood_17 : decode cX9_isGood 17 = .ok (.aload_n 0, 1) := by decide +kernel
theorem dX9_isGood_18 : decode cX9_isGood 18 = .ok (.getfield 71, 3) := by decide +kernel
theorem dX9_isGood_21 : decode cX9_isGood 21 = .ok (.invokestatic 83, 3) := by decide +kernel
theorem dX9_isGood_24 : decode cX9_isGood 24 = .ok (.if_icmp .ge 9, 3) := by decide +kernel
theorem dX9_isGood_27 : decode cX9_isGood 27 = .ok (.aload_n 0, 1) := by decide +kernel
theorem dX9_isGood_28 : decode cX9_isGood 28 = .ok (.iload_n 1, 1) := by decide +kernel
theorem dX9_isGood_29 : decode cX9_isGood 29 = .ok (.invokevirtual 116, 3) := by decide +kernel
theorem dX9_isGood_32 : decode cX9_isGood 32 = .ok (.ireturn, 1) := by decide +kernel
theorem dX9_isGood_33 : decode cX9_isGood 33 = .ok (.aload_n 0, 1) := by decide +kernel
theorem dX9_isGood_34 : decode cX9_isGood 34 = .ok (.iconst 0, 1) := by decide +kernel
theorem dX9_isGood_35 : decode cX9_isGood 35 = .ok (.putfield 74, 3) := by decide +kernel
theorem dX9_isGood_38 : decode cX9_isGood 38 = .ok (.iload_n 1, 1) := by decide +kernel
theorem dX9_isGood_39 : decode cX9_isGood 39 = .ok (.bipush 44, 2) := by decide +kernel
theorem dX9_isGood_41 : decode cX9_isGood 41 = .ok (.if_icmp .ne 16, 3) := by decide +kernel
theorem dX9_isGood_44 : decode cX9_isGood 44 = .ok (.aload_n 0, 1) := by decide +kernel
theorem dX9_isGood_45 : decode cX9_isGood 45 = .ok (.getfield 77, 3) := by decide +kernel
theorem dX9_isGood_48 : decode cX9_isGood 48 = .ok (.bipush 6, 2) := by decide +kernel
theorem dX9_isGood_50 : decode cX9_isGood 50 = .ok (.if_icmp .ge 7, 3) := by decide +kernel
theorem dX9_isGood_53 : decode cX9_isGood 53 = .ok (.iconst 1, 1) := by decide +kernel
theorem dX9_isGood_54 : decode cX9_isGood 54 = .ok (.goto 4, 3) := by decide +kernel
theorem dX9_isGood_57 : decode cX9_isGood 57 = .ok (.iconst 0, 1) := by decide +kernel
theorem dX9_isGood_58 : decode cX9_isGood 58 = .ok (.ireturn, 1) := by decide +kernel
theorem dX9_faultOf_0 : decode cX9_faultOf 0 = .ok (.aload_n 0, 1) := by decide +kernel
theorem dX9_faultOf_1 : decode cX9_faultOf 1 = .ok (.iconst 0, 1) := by decide +kernel
theorem dX9_faultOf_2 : decode cX9_faultOf 2 = .ok (.putfield 77, 3) := by decide +kernel
theorem dX9_faultOf_5 : decode cX9_faultOf 5 = .ok (.aload_n 0, 1) := by decide +kernel
theorem dX9_faultOf_6 : decode cX9_faultOf 6 = .ok (.iconst 0, 1) := by decide +kernel
theorem dX9_faultOf_7 : decode cX9_faultOf 7 = .ok (.putfield 74, 3) := by decide +kernel
theorem dX9_faultOf_10 : decode cX9_faultOf 10 = .ok (.aload_n 0, 1) := by decide +kernel
theorem dX9_faultOf_11 : decode cX9_faultOf 11 = .ok (.iconst (-1), 1) := by decide +kernel
theorem dX9_faultOf_12 : decode cX9_faultOf 12 = .ok (.putfield 71, 3) := by decide +kernel
theorem dX9_faultOf_15 : decode cX9_faultOf 15 = .ok (.aload_n 0, 1) := by decide +kernel
theorem dX9_faultOf_16 : decode cX9_faultOf 16 = .ok (.iconst 0, 1) := by decide +kernel
theorem dX9_faultOf_17 : decode cX9_faultOf 17 = .ok (.putfield 80, 3) := by decide +kernel
theorem dX9_faultOf_20 : decode cX9_faultOf 20 = .ok (.iconst 0, 1) := by decide +kernel
theorem dX9_faultOf_21 : decode cX9_faultOf 21 = .ok (.istore_n 1, 1) := by decide +kernel
theorem dX9_faultOf_22 : decode cX9_faultOf 22 = .ok (.iload_n 1, 1) := by decide +kernel
theorem dX9_faultOf_23 : decode cX9_faultOf 23 = .ok (.aload_n 0, 1) := by decide +kernel
theorem dX9_faultOf_24 : decode cX9_faultOf 24 = .ok (.getfield 64, 3) := by decide +kernel
theorem dX9_faultOf_27 : decode cX9_faultOf 27 = .ok (.if_icmp .ge 22, 3) := by decide +kernel
theorem dX9_faultOf_30 : decode cX9_faultOf 30 = .ok (.aload_n 0, 1) := by decide +kernel
theorem dX9_faultOf_31 : decode cX9_faultOf 31 = .ok (.aload_n 0, 1) := by decide +kernel
theorem dX9_faultOf_32 : decode cX9_faultOf 32 = .ok (.getfield 7, 3) := by decide +kernel
theorem dX9_faultOf_35 : decode cX9_faultOf 35 = .ok (.iload_n 1, 1) := by decide +kernel
theorem dX9_faultOf_36 : decode cX9_faultOf 36 = .ok (.iaload, 1) := by decide +kernel
theorem dX9_faultOf_37 : decode cX9_faultOf 37 = .ok (.invokevirtual 119, 3) := by decide +kernel
theorem dX9_faultOf_40 : decode cX9_faultOf 40 = .ok (.ifCond .eq 9, 3) := by decide +kernel
theorem dX9_faultOf_43 : decode cX9_faultOf 43 = .ok (.iinc 1 1, 3) := by decide +kernel
theorem dX9_faultOf_46 : decode cX9_faultOf 46 = .ok (.goto (-24), 3) := by decide +kernel
theorem dX9_faultOf_49 : decode cX9_faultOf 49 = .ok (.iload_n 1, 1) := by decide +kernel
theorem dX9_faultOf_50 : decode cX9_faultOf 50 = .ok (.ireturn, 1) := by decide +kernel
theorem dX9_fault_0 : decode cX9_fault 0 = .ok (.aload_n 0, 1) := by decide +kernel
theorem dX9_fault_1 : decode cX9_fault 1 = .ok (.invokevirtual 122, 3) := by decide +kernel
theorem dX9_fault_4 : decode cX9_fault 4 = .ok (.ireturn, 1) := by decide +kernel
theorem dX9_program_0 : decode cX9_program 0 = .ok (.aload_n 0, 1) := by decide +kernel
theorem dX9_program_1 : decode cX9_program 1 = .ok (.invokevirtual 122, 3) := by decide +kernel
theorem dX9_program_4 : decode cX9_program 4 = .ok (.aload_n 0, 1) := by decide +kernel
theorem dX9_program_5 : decode cX9_program 5 = .ok (.getfield 64, 3) := by decide +kernel
theorem dX9_program_8 : decode cX9_program 8 = .ok (.if_icmp .lt 24, 3) := by decide +kernel
theorem dX9_program_11 : decode cX9_program 11 = .ok (.aload_n 0, 1) := by decide +kernel
theorem dX9_program_12 : decode cX9_program 12 = .ok (.getfield 74, 3) := by decide +kernel
theorem dX9_program_15 : decode cX9_program 15 = .ok (.ifCond .eq 17, 3) := by decide +kernel
theorem dX9_program_18 : decode cX9_program 18 = .ok (.aload_n 0, 1) := by decide +kernel
theorem dX9_program_19 : decode cX9_program 19 = .ok (.getfield 74, 3) := by decide +kernel
theorem dX9_program_22 : decode cX9_program 22 = .ok (.aload_n 0, 1) := by decide +kernel
theorem dX9_program_23 : decode cX9_program 23 = .ok (.getfield 71, 3) := by decide +kernel
theorem dX9_program_26 : decode cX9_program 26 = .ok (.invokestatic 83, 3) := by decide +kernel
theorem dX9_program_29 : decode cX9_program 29 = .ok (.if_icmp .eq 6, 3) := by decide +kernel
theorem dX9_program_32 : decode cX9_program 32 = .ok (.bipush (-103), 2) := by decide +kernel
theorem dX9_program_34 : decode cX9_program 34 = .ok (.ireturn, 1) := by decide +kernel
theorem dX9_program_35 : decode cX9_program 35 = .ok (.aload_n 0, 1) := by decide +kernel
theorem dX9_program_36 : decode cX9_program 36 = .ok (.aload_n 0, 1) := by decide +kernel
theorem dX9_program_37 : decode cX9_program 37 = .ok (.getfield 77, 3) := by decide +kernel
theorem dX9_program_40 : decode cX9_program 40 = .ok (.putfield 126, 3) := by decide +kernel
theorem dX9_program_43 : decode cX9_program 43 = .ok (.aload_n 0, 1) := by decide +kernel
theorem dX9_program_44 : decode cX9_program 44 = .ok (.getfield 13, 3) := by decide +kernel
theorem dX9_program_47 : decode cX9_program 47 = .ok (.aload_n 0, 1) := by decide +kernel
theorem dX9_program_48 : decode cX9_program 48 = .ok (.getfield 16, 3) := by decide +kernel
theorem dX9_program_51 : decode cX9_program 51 = .ok (.invokestatic 129, 3) := by decide +kernel
theorem dX9_program_54 : decode cX9_program 54 = .ok (.aload_n 0, 1) := by decide +kernel
theorem dX9_program_55 : decode cX9_program 55 = .ok (.iconst 0, 1) := by decide +kernel
theorem dX9_program_56 : decode cX9_program 56 = .ok (.putfield 133, 3) := by decide +kernel
theorem dX9_program_59 : decode cX9_program 59 = .ok (.aload_n 0, 1) := by decide +kernel
theorem dX9_program_60 : decode cX9_program 60 = .ok (.dup, 1) := by decide +kernel
theorem dX9_program_61 : decode cX9_program 61 = .ok (.getfield 136, 3) := by decide +kernel
theorem dX9_program_64 : decode cX9_program 64 = .ok (.iconst 1, 1) := by decide +kernel
theorem dX9_program_65 : decode cX9_program 65 = .ok (.iadd, 1) := by decide +kernel
theorem dX9_program_66 : decode cX9_program 66 = .ok (.putfield 136, 3) := by decide +kernel
theorem dX9_program_69 : decode cX9_program 69 = .ok (.aload_n 0, 1) := by decide +kernel
theorem dX9_program_70 : decode cX9_program 70 = .ok (.iconst 0, 1) := by decide +kernel
theorem dX9_program_71 : decode cX9_program 71 = .ok (.putfield 64, 3) := by decide +kernel
theorem dX9_program_74 : decode cX9_program 74 = .ok (.aload_n 0, 1) := by decide +kernel
theorem dX9_program_75 : decode cX9_program 75 = .ok (.invokevirtual 139, 3) := by decide +kernel
theorem dX9_program_78 : decode cX9_program 78 = .ok (.aload_n 0, 1) := by decide +kernel
theorem dX9_program_79 : decode cX9_program 79 = .ok (.getfield 126, 3) := by decide +kernel
theorem dX9_program_82 : decode cX9_program 82 = .ok (.ireturn, 1) := by decide +kernel
