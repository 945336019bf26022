theorem dX9_changed_0 : decode cX9_changed 0 = .ok (.aload_n 0, 1) := by decide +kernel
theorem dX9_changed_1 : decode cX9_changed 1 = .ok (.iconst 1, 1) := by decide +kernel
theorem dX9_changed_2 : decode cX9_changed 2 = .ok (.putfield 142, 3) := by decide +kernel
theorem dX9_changed_5 : decode cX9_changed 5 = .ok (.iconst 0, 1) := by decide +kernel
theorem dX9_changed_6 : decode cX9_changed 6 = .ok (.istore_n 1, 1) := by decide +kernel
theorem dX9_changed_7 : decode cX9_changed 7 = .ok (.iload_n 1, 1) := by decide +kernel
theorem dX9_changed_8 : decode cX9_changed 8 = .ok (.bipush 15, 2) := by decide +kernel
theorem dX9_changed_10 : decode cX9_changed 10 = .ok (.if_icmp .ge 16, 3) := by decide +kernel
theorem dX9_changed_13 : decode cX9_changed 13 = .ok (.aload_n 0, 1) := by decide +kernel
theorem dX9_changed_14 : decode cX9_changed 14 = .ok (.getfield 38, 3) := by decide +kernel
theorem dX9_changed_17 : decode cX9_changed 17 = .ok (.iload_n 1, 1) := by decide +kernel
theorem dX9_changed_18 : decode cX9_changed 18 = .ok (.iconst (-1), 1) := by decide +kernel
theorem dX9_changed_19 : decode cX9_changed 19 = .ok (.iastore, 1) := by decide +kernel
theorem dX9_changed_20 : decode cX9_changed 20 = .ok (.iinc 1 1, 3) := by decide +kernel
theorem dX9_changed_23 : decode cX9_changed 23 = .ok (.goto (-16), 3) := by decide +kernel
theorem dX9_changed_26 : decode cX9_changed 26 = .ok (.return_, 1) := by decide +kernel
theorem dX9_lacks_0 : decode cX9_lacks 0 = .ok (.aload_n 0, 1) := by decide +kernel
theorem dX9_lacks_1 : decode cX9_lacks 1 = .ok (.getfield 126, 3) := by decide +kernel
theorem dX9_lacks_4 : decode cX9_lacks 4 = .ok (.ifCond .ne 7, 3) := by decide +kernel
theorem dX9_lacks_7 : decode cX9_lacks 7 = .ok (.iconst 1, 1) := by decide +kernel
theorem dX9_lacks_8 : decode cX9_lacks 8 = .ok (.goto 4, 3) := by decide +kernel
theorem dX9_lacks_11 : decode cX9_lacks 11 = .ok (.iconst 0, 1) := by decide +kernel
theorem dX9_lacks_12 : decode cX9_lacks 12 = .ok (.ireturn, 1) := by decide +kernel
theorem dX9_isStep_0 : decode cX9_isStep 0 = .ok (.iload_n 1, 1) := by decide +kernel
theorem dX9_isStep_1 : decode cX9_isStep 1 = .ok (.i2l, 1) := by decide +kernel
theorem dX9_isStep_2 : decode cX9_isStep 2 = .ok (.lconst 0, 1) := by decide +kernel
theorem dX9_isStep_3 : decode cX9_isStep 3 = .ok (.aload_n 0, 1) := by decide +kernel
theorem dX9_isStep_4 : decode cX9_isStep 4 = .ok (.getfield 126, 3) := by decide +kernel
theorem dX9_isStep_7 : decode cX9_isStep 7 = .ok (.iconst 1, 1) := by decide +kernel
theorem dX9_isStep_8 : decode cX9_isStep 8 = .ok (.isub, 1) := by decide +kernel
theorem dX9_isStep_9 : decode cX9_isStep 9 = .ok (.i2l, 1) := by decide +kernel
theorem dX9_isStep_10 : decode cX9_isStep 10 = .ok (.invokestatic 60, 3) := by decide +kernel
theorem dX9_isStep_13 : decode cX9_isStep 13 = .ok (.ireturn, 1) := by decide +kernel
theorem dX9_kind_0 : decode cX9_kind 0 = .ok (.aload_n 0, 1) := by decide +kernel
theorem dX9_kind_1 : decode cX9_kind 1 = .ok (.getfield 16, 3) := by decide +kernel
theorem dX9_kind_4 : decode cX9_kind 4 = .ok (.iconst 4, 1) := by decide +kernel
theorem dX9_kind_5 : decode cX9_kind 5 = .ok (.iload_n 1, 1) := by decide +kernel
theorem dX9_kind_6 : decode cX9_kind 6 = .ok (.imul, 1) := by decide +kernel
theorem dX9_kind_7 : decode cX9_kind 7 = .ok (.iaload, 1) := by decide +kernel
theorem dX9_kind_8 : decode cX9_kind 8 = .ok (.ireturn, 1) := by decide +kernel
theorem dX9_one_0 : decode cX9_one 0 = .ok (.aload_n 0, 1) := by decide +kernel
theorem dX9_one_1 : decode cX9_one 1 = .ok (.getfield 16, 3) := by decide +kernel
theorem dX9_one_4 : decode cX9_one 4 = .ok (.iconst 4, 1) := by decide +kernel
theorem dX9_one_5 : decode cX9_one 5 = .ok (.iload_n 1, 1) := by decide +kernel
theorem dX9_one_6 : decode cX9_one 6 = .ok (.imul, 1) := by decide +kernel
theorem dX9_one_7 : decode cX9_one 7 = .ok (.iconst 1, 1) := by decide +kernel
theorem dX9_one_8 : decode cX9_one 8 = .ok (.iadd, 1) := by decide +kernel
theorem dX9_one_9 : decode cX9_one 9 = .ok (.iaload, 1) := by decide +kernel
theorem dX9_one_10 : decode cX9_one 10 = .ok (.ireturn, 1) := by decide +kernel
theorem dX9_other_0 : decode cX9_other 0 = .ok (.aload_n 0, 1) := by decide +kernel
theorem dX9_other_1 : decode cX9_other 1 = .ok (.getfield 16, 3) := by decide +kernel
theorem dX9_other_4 : decode cX9_other 4 = .ok (.iconst 4, 1) := by decide +kernel
theorem dX9_other_5 : decode cX9_other 5 = .ok (.iload_n 1, 1) := by decide +kernel
theorem dX9_other_6 : decode cX9_other 6 = .ok (.imul, 1) := by decide +kernel
theorem dX9_other_7 : decode cX9_other 7 = .ok (.iconst 2, 1) := by decide +kernel
theorem dX9_other_8 : decode cX9_other 8 = .ok (.iadd, 1) := by decide +kernel
theorem dX9_other_9 : decode cX9_other 9 = .ok (.iaload, 1) := by decide +kernel
theorem dX9_other_10 : decode cX9_other 10 = .ok (.ireturn, 1) := by decide +kernel
theorem dX9_number_0 : decode cX9_number 0 = .ok (.aload_n 0, 1) := by decide +kernel
theorem dX9_number_1 : decode cX9_number 1 = .ok (.getfield 16, 3) := by decide +kernel
theorem dX9_number_4 : decode cX9_number 4 = .ok (.iconst 4, 1) := by decide +kernel
theorem dX9_number_5 : decode cX9_number 5 = .ok (.iload_n 1, 1) := by decide +kernel
theorem dX9_number_6 : decode cX9_number 6 = .ok (.imul, 1) := by decide +kernel
theorem dX9_number_7 : decode cX9_number 7 = .ok (.iconst 3, 1) := by decide +kernel
theorem dX9_number_8 : decode cX9_number 8 = .ok (.iadd, 1) := by decide +kernel
theorem dX9_number_9 : decode cX9_number 9 = .ok (.iaload, 1) := by decide +kernel
theorem dX9_number_10 : decode cX9_number 10 = .ok (.bipush 100, 2) := by decide +kernel
theorem dX9_number_12 : decode cX9_number 12 = .ok (.isub, 1) := by decide +kernel
theorem dX9_number_13 : decode cX9_number 13 = .ok (.ireturn, 1) := by decide +kernel
theorem dX9_value_0 : decode cX9_value 0 = .ok (.iload_n 1, 1) := by decide +kernel
theorem dX9_value_1 : decode cX9_value 1 = .ok (.ifCond .ne 11, 3) := by decide +kernel
theorem dX9_value_4 : decode cX9_value 4 = .ok (.iload_n 0, 1) := by decide +kernel
theorem dX9_value_5 : decode cX9_value 5 = .ok (.sipush 289, 3) := by decide +kernel
theorem dX9_value_8 : decode cX9_value 8 = .ok (.idiv, 1) := by decide +kernel
theorem dX9_value_9 : decode cX9_value 9 = .ok (.goto 22, 3) := by decide +kernel
theorem dX9_value_12 : decode cX9_value 12 = .ok (.iload_n 1, 1) := by decide +kernel
theorem dX9_value_13 : decode cX9_value 13 = .ok (.iconst 1, 1) := by decide +kernel
theorem dX9_value_14 : decode cX9_value 14 = .ok (.if_icmp .ne 13, 3) := by decide +kernel
theorem dX9_value_17 : decode cX9_value 17 = .ok (.iload_n 0, 1) := by decide +kernel
theorem dX9_value_18 : decode cX9_value 18 = .ok (.bipush 17, 2) := by decide +kernel
theorem dX9_value_20 : decode cX9_value 20 = .ok (.idiv, 1) := by decide +kernel
theorem dX9_value_21 : decode cX9_value 21 = .ok (.bipush 17, 2) := by decide +kernel
theorem dX9_value_23 : decode cX9_value 23 = .ok (.irem, 1) := by decide +kernel
theorem dX9_value_24 : decode cX9_value 24 = .ok (.goto 7, 3) := by decide +kernel
theorem dX9_value_27 : decode cX9_value 27 = .ok (.iload_n 0, 1) := by decide +kernel
theorem dX9_value_28 : decode cX9_value 28 = .ok (.bipush 17, 2) := by decide +kernel
theorem dX9_value_30 : decode cX9_value 30 = .ok (.irem, 1) := by decide +kernel
theorem dX9_value_31 : decode cX9_value 31 = .ok (.bipush 8, 2) := by decide +kernel
theorem dX9_value_33 : decode cX9_value 33 = .ok (.isub, 1) := by decide +kernel
theorem dX9_value_34 : decode cX9_value 34 = .ok (.ireturn, 1) := by decide +kernel
theorem dX9_signed_0 : decode cX9_signed 0 = .ok (.aload_n 0, 1) := by decide +kernel
theorem dX9_signed_1 : decode cX9_signed 1 = .ok (.getfield 23, 3) := by decide +kernel
theorem dX9_signed_4 : decode cX9_signed 4 = .ok (.bipush 6, 2) := by decide +kernel
theorem dX9_signed_6 : decode cX9_signed 6 = .ok (.iload_n 1, 1) := by decide +kernel
theorem dX9_signed_7 : decode cX9_signed 7 = .ok (.imul, 1) := by decide +kernel
theorem dX9_signed_8 : decode cX9_signed 8 = .ok (.iload_n 2, 1) := by decide +kernel
theorem dX9_signed_9 : decode cX9_signed 9 = .ok (.iadd, 1) := by decide +kernel
theorem dX9_signed_10 : decode cX9_signed 10 = .ok (.iaload, 1) := by decide +kernel
theorem dX9_signed_11 : decode cX9_signed 11 = .ok (.ireturn, 1) := by decide +kernel
theorem dX9_pointOf_0 : decode cX9_pointOf 0 = .ok (.iload_n 0, 1) := by decide +kernel
theorem dX9_pointOf_1 : decode cX9_pointOf 1 = .ok (.bipush 8, 2) := by decide +kernel
theorem dX9_pointOf_3 : decode cX9_pointOf 3 = .ok (.iadd, 1) := by decide +kernel
theorem dX9_pointOf_4 : decode cX9_pointOf 4 = .ok (.sipush 289, 3) := by decide +kernel
theorem dX9_pointOf_7 : decode cX9_pointOf 7 = .ok (.imul, 1) := by decide +kernel
theorem dX9_pointOf_8 : decode cX9_pointOf 8 = .ok (.iload_n 1, 1) := by decide +kernel
theorem dX9_pointOf_9 : decode cX9_pointOf 9 = .ok (.bipush 8, 2) := by decide +kernel
theorem dX9_pointOf_11 : decode cX9_pointOf 11 = .ok (.iadd, 1) := by decide +kernel
theorem dX9_pointOf_12 : decode cX9_pointOf 12 = .ok (.bipush 17, 2) := by decide +kernel
theorem dX9_pointOf_14 : decode cX9_pointOf 14 = .ok (.imul, 1) := by decide +kernel
theorem dX9_pointOf_15 : decode cX9_pointOf 15 = .ok (.iadd, 1) := by decide +kernel
theorem dX9_pointOf_16 : decode cX9_pointOf 16 = .ok (.iload_n 2, 1) := by decide +kernel
theorem dX9_pointOf_17 : decode cX9_pointOf 17 = .ok (.iadd, 1) := by decide +kernel
theorem dX9_pointOf_18 : decode cX9_pointOf 18 = .ok (.bipush 8, 2) := by decide +kernel
theorem dX9_pointOf_20 : decode cX9_pointOf 20 = .ok (.iadd, 1) := by decide +kernel
theorem dX9_pointOf_21 : decode cX9_pointOf 21 = .ok (.ireturn, 1) := by decide +kernel
theorem dX9_withValue_0 : decode cX9_withValue 0 = .ok (.iload_n 1, 1) := by decide +kernel
theorem dX9_withValue_1 : decode cX9_withValue 1 = .ok (.ifCond .ne 9, 3) := by decide +kernel
theorem dX9_withValue_4 : decode cX9_withValue 4 = .ok (.sipush 289, 3) := by decide +kernel
theorem dX9_withValue_7 : decode cX9_withValue 7 = .ok (.goto 14, 3) := by decide +kernel
theorem dX9_withValue_10 : decode cX9_withValue 10 = .ok (.iload_n 1, 1) := by decide +kernel
theorem dX9_withValue_11 : decode cX9_withValue 11 = .ok (.iconst 1, 1) := by decide +kernel
theorem dX9_withValue_12 : decode cX9_withValue 12 = .ok (.if_icmp .ne 8, 3) := by decide +kernel
theorem dX9_withValue_15 : decode cX9_withValue 15 = .ok (.bipush 17, 2) := by decide +kernel
theorem dX9_withValue_17 : decode cX9_withValue 17 = .ok (.goto 4, 3) := by decide +kernel
theorem dX9_withValue_20 : decode cX9_withValue 20 = .ok (.iconst 1, 1) := by decide +kernel
theorem dX9_withValue_21 : decode cX9_withValue 21 = .ok (.istore_n 3, 1) := by decide +kernel
theorem dX9_withValue_22 : decode cX9_withValue 22 = .ok (.iload_n 0, 1) := by decide +kernel
theorem dX9_withValue_23 : decode cX9_withValue 23 = .ok (.iload_n 2, 1) := by decide +kernel
theorem dX9_withValue_24 : decode cX9_withValue 24 = .ok (.iload_n 0, 1) := by decide +kernel
theorem dX9_withValue_25 : decode cX9_withValue 25 = .ok (.iload_n 1, 1) := by decide +kernel
theorem dX9_withValue_26 : decode cX9_withValue 26 = .ok (.invokestatic 54, 3) := by decide +kernel
theorem dX9_withValue_29 : decode cX9_withValue 29 = .ok (.isub, 1) := by decide +kernel
theorem dX9_withValue_30 : decode cX9_withValue 30 = .ok (.iload_n 3, 1) := by decide +kernel
theorem dX9_withValue_31 : decode cX9_withValue 31 = .ok (.imul, 1) := by decide +kernel
theorem dX9_withValue_32 : decode cX9_withValue 32 = .ok (.iadd, 1) := by decide +kernel
theorem dX9_withValue_33 : decode cX9_withValue 33 = .ok (.ireturn, 1) := by decide +kernel
theorem dX9_pointsIn_0 : decode cX9_pointsIn 0 = .ok (.iconst 0, 1) := by decide +kernel
theorem dX9_pointsIn_1 : decode cX9_pointsIn 1 = .ok (.istore_n 2, 1) := by decide +kernel
theorem dX9_pointsIn_2 : decode cX9_pointsIn 2 = .ok (.iconst 0, 1) := by decide +kernel
theorem dX9_pointsIn_3 : decode cX9_pointsIn 3 = .ok (.istore_n 3, 1) := by decide +kernel
theorem dX9_pointsIn_4 : decode cX9_pointsIn 4 = .ok (.iload_n 3, 1) := by decide +kernel
theorem dX9_pointsIn_5 : decode cX9_pointsIn 5 = .ok (.sipush 4913, 3) := by decide +kernel
theorem dX9_pointsIn_8 : decode cX9_pointsIn 8 = .ok (.if_icmp .ge 24, 3) := by decide +kernel
theorem dX9_pointsIn_11 : decode cX9_pointsIn 11 = .ok (.iload_n 2, 1) := by decide +kernel
theorem dX9_pointsIn_12 : decode cX9_pointsIn 12 = .ok (.aload_n 0, 1) := by decide +kernel
theorem dX9_pointsIn_13 : decode cX9_pointsIn 13 = .ok (.getfield 20, 3) := by decide +kernel
theorem dX9_pointsIn_16 : decode cX9_pointsIn 16 = .ok (.sipush 4913, 3) := by decide +kernel
theorem dX9_pointsIn_19 : decode cX9_pointsIn 19 = .ok (.iload_n 1, 1) := by decide +kernel
theorem dX9_pointsIn_20 : decode cX9_pointsIn 20 = .ok (.imul, 1) := by decide +kernel
theorem dX9_pointsIn_21 : decode cX9_pointsIn 21 = .ok (.iload_n 3, 1) := by decide +kernel
theorem dX9_pointsIn_22 : decode cX9_pointsIn 22 = .ok (.iadd, 1) := by decide +kernel
theorem dX9_pointsIn_23 : decode cX9_pointsIn 23 = .ok (.iaload, 1) := by decide +kernel
theorem dX9_pointsIn_24 : decode cX9_pointsIn 24 = .ok (.iadd, 1) := by decide +kernel
theorem dX9_pointsIn_25 : decode cX9_pointsIn 25 = .ok (.istore_n 2, 1) := by decide +kernel
theorem dX9_pointsIn_26 : decode cX9_pointsIn 26 = .ok (.iinc 3 1, 3) := by decide +kernel
theorem dX9_pointsIn_29 : decode cX9_pointsIn 29 = .ok (.goto (-25), 3) := by decide +kernel
theorem dX9_pointsIn_32 : decode cX9_pointsIn 32 = .ok (.iload_n 2, 1) := by decide +kernel
theorem dX9_pointsIn_33 : decode cX9_pointsIn 33 = .ok (.ireturn, 1) := by decide +kernel
theorem dX9_lay_0 : decode cX9_lay 0 = .ok (.aload_n 0, 1) := by decide +kernel
theorem dX9_lay_1 : decode cX9_lay 1 = .ok (.getfield 20, 3) := by decide +kernel
theorem dX9_lay_4 : decode cX9_lay 4 = .ok (.sipush 4913, 3) := by decide +kernel
theorem dX9_lay_7 : decode cX9_lay 7 = .ok (.iload_n 1, 1) := by decide +kernel
theorem dX9_lay_8 : decode cX9_lay 8 = .ok (.imul, 1) := by decide +kernel
theorem dX9_lay_9 : decode cX9_lay 9 = .ok (.iload_n 2, 1) := by decide +kernel
theorem dX9_lay_10 : decode cX9_lay 10 = .ok (.iadd, 1) := by decide +kernel
theorem dX9_lay_11 : decode cX9_lay 11 = .ok (.iconst 1, 1) := by decide +kernel
theorem dX9_lay_12 : decode cX9_lay 12 = .ok (.iastore, 1) := by decide +kernel
theorem dX9_lay_13 : decode cX9_lay 13 = .ok (.return_, 1) := by decide +kernel
theorem dX9_doPoint_0 : decode cX9_doPoint 0 = .ok (.aload_n 0, 1) := by decide +kernel
theorem dX9_doPoint_1 : decode cX9_doPoint 1 = .ok (.iload_n 1, 1) := by decide +kernel
theorem dX9_doPoint_2 : decode cX9_doPoint 2 = .ok (.invokevirtual 146, 3) := by decide +kernel
theorem dX9_doPoint_5 : decode cX9_doPoint 5 = .ok (.lookupswitch 101 #[(0, 27), (2, 65)], 27) := by decide +kernel
theorem dX9_doPoint_32 : decode cX9_doPoint 32 = .ok (.aload_n 0, 1) := by decide +kernel
theorem dX9_doPoint_33 : decode cX9_doPoint 33 = .ok (.iload_n 2, 1) := by decide +kernel
theorem dX9_doPoint_34 : decode cX9_doPoint 34 = .ok (.aload_n 0, 1) := by decide +kernel
theorem dX9_doPoint_35 : decode cX9_doPoint 35 = .ok (.iload_n 1, 1) := by decide +kernel
theorem dX9_doPoint_36 : decode cX9_doPoint 36 = .ok (.invokevirtual 149, 3) := by decide +kernel
theorem dX9_doPoint_39 : decode cX9_doPoint 39 = .ok (.invokevirtual 152, 3) := by decide +kernel
theorem dX9_doPoint_42 : decode cX9_doPoint 42 = .ok (.aload_n 0, 1) := by decide +kernel
theorem dX9_doPoint_43 : decode cX9_doPoint 43 = .ok (.iload_n 2, 1) := by decide +kernel
theorem dX9_doPoint_44 : decode cX9_doPoint 44 = .ok (.aload_n 0, 1) := by decide +kernel
theorem dX9_doPoint_45 : decode cX9_doPoint 45 = .ok (.iload_n 1, 1) := by decide +kernel
theorem dX9_doPoint_46 : decode cX9_doPoint 46 = .ok (.invokevirtual 155, 3) := by decide +kernel
theorem dX9_doPoint_49 : decode cX9_doPoint 49 = .ok (.invokevirtual 152, 3) := by decide +kernel
theorem dX9_doPoint_52 : decode cX9_doPoint 52 = .ok (.iadd, 1) := by decide +kernel
theorem dX9_doPoint_53 : decode cX9_doPoint 53 = .ok (.aload_n 0, 1) := by decide +kernel
theorem dX9_doPoint_54 : decode cX9_doPoint 54 = .ok (.iload_n 1, 1) := by decide +kernel
theorem dX9_doPoint_55 : decode cX9_doPoint 55 = .ok (.invokevirtual 158, 3) := by decide +kernel
theorem dX9_doPoint_58 : decode cX9_doPoint 58 = .ok (.if_icmp .gt 118, 3) := by decide +kernel
theorem dX9_doPoint_61 : decode cX9_doPoint 61 = .ok (.aload_n 0, 1) := by decide +kernel
theorem dX9_doPoint_62 : decode cX9_doPoint 62 = .ok (.iload_n 3, 1) := by decide +kernel
theorem dX9_doPoint_63 : decode cX9_doPoint 63 = .ok (.iload_n 2, 1) := by decide +kernel
theorem dX9_doPoint_64 : decode cX9_doPoint 64 = .ok (.invokevirtual 161, 3) := by decide +kernel
theorem dX9_doPoint_67 : decode cX9_doPoint 67 = .ok (.goto 109, 3) := by decide +kernel
theorem dX9_doPoint_70 : decode cX9_doPoint 70 = .ok (.bipush (-8), 2) := by decide +kernel
theorem dX9_doPoint_72 : decode cX9_doPoint 72 = .ok (.istore 4, 2) := by decide +kernel
theorem dX9_doPoint_74 : decode cX9_doPoint 74 = .ok (.iload 4, 2) := by decide +kernel
theorem dX9_doPoint_76 : decode cX9_doPoint 76 = .ok (.bipush 9, 2) := by decide +kernel
theorem dX9_doPoint_78 : decode cX9_doPoint 78 = .ok (.if_icmp .ge 25, 3) := by decide +kernel
theorem dX9_doPoint_81 : decode cX9_doPoint 81 = .ok (.aload_n 0, 1) := by decide +kernel
theorem dX9_doPoint_82 : decode cX9_doPoint 82 = .ok (.iload_n 3, 1) := by decide +kernel
theorem dX9_doPoint_83 : decode cX9_doPoint 83 = .ok (.iload_n 2, 1) := by decide +kernel
theorem dX9_doPoint_84 : decode cX9_doPoint 84 = .ok (.aload_n 0, 1) := by decide +kernel
theorem dX9_doPoint_85 : decode cX9_doPoint 85 = .ok (.iload_n 1, 1) := by decide +kernel
theorem dX9_doPoint_86 : decode cX9_doPoint 86 = .ok (.invokevirtual 149, 3) := by decide +kernel
theorem dX9_doPoint_89 : decode cX9_doPoint 89 = .ok (.iload 4, 2) := by decide +kernel
theorem dX9_doPoint_91 : decode cX9_doPoint 91 = .ok (.invokestatic 165, 3) := by decide +kernel
theorem dX9_doPoint_94 : decode cX9_doPoint 94 = .ok (.invokevirtual 161, 3) := by decide +kernel
theorem dX9_doPoint_97 : decode cX9_doPoint 97 = .ok (.iinc 4 1, 3) := by decide +kernel
theorem dX9_doPoint_100 : decode cX9_doPoint 100 = .ok (.goto (-26), 3) := by decide +kernel
theorem dX9_doPoint_103 : decode cX9_doPoint 103 = .ok (.goto 73, 3) := by decide +kernel
theorem dX9_doPoint_106 : decode cX9_doPoint 106 = .ok (.aload_n 0, 1) := by decide +kernel
theorem dX9_doPoint_107 : decode cX9_doPoint 107 = .ok (.iload_n 1, 1) := by decide +kernel
theorem dX9_doPoint_108 : decode cX9_doPoint 108 = .ok (.invokevirtual 146, 3) := by decide +kernel
theorem dX9_doPoint_111 : decode cX9_doPoint 111 = .ok (.iconst 1, 1) := by decide +kernel
theorem dX9_doPoint_112 : decode cX9_doPoint 112 = .ok (.if_icmp .ne 16, 3) := by decide +kernel
theorem dX9_doPoint_115 : decode cX9_doPoint 115 = .ok (.aload_n 0, 1) := by decide +kernel
theorem dX9_doPoint_116 : decode cX9_doPoint 116 = .ok (.iload_n 2, 1) := by decide +kernel
theorem dX9_doPoint_117 : decode cX9_doPoint 117 = .ok (.aload_n 0, 1) := by decide +kernel
theorem dX9_doPoint_118 : decode cX9_doPoint 118 = .ok (.iload_n 1, 1) := by decide +kernel
theorem dX9_doPoint_119 : decode cX9_doPoint 119 = .ok (.invokevirtual 155, 3) := by decide +kernel
theorem dX9_doPoint_122 : decode cX9_doPoint 122 = .ok (.invokevirtual 152, 3) := by decide +kernel
theorem dX9_doPoint_125 : decode cX9_doPoint 125 = .ok (.goto 12, 3) := by decide +kernel
theorem dX9_doPoint_128 : decode cX9_doPoint 128 = .ok (.iload_n 2, 1) := by decide +kernel
theorem dX9_doPoint_129 : decode cX9_doPoint 129 = .ok (.aload_n 0, 1) := by decide +kernel
theorem dX9_doPoint_130 : decode cX9_doPoint 130 = .ok (.iload_n 1, 1) := by decide +kernel
theorem dX9_doPoint_131 : decode cX9_doPoint 131 = .ok (.invokevirtual 149, 3) := by decide +kernel
theorem dX9_doPoint_134 : decode cX9_doPoint 134 = .ok (.invokestatic 54, 3) := by decide +kernel
theorem dX9_doPoint_137 : decode cX9_doPoint 137 = .ok (.aload_n 0, 1) := by decide +kernel
theorem dX9_doPoint_138 : decode cX9_doPoint 138 = .ok (.iload_n 1, 1) := by decide +kernel
theorem dX9_doPoint_139 : decode cX9_doPoint 139 = .ok (.invokevirtual 158, 3) := by decide +kernel
theorem dX9_doPoint_142 : decode cX9_doPoint 142 = .ok (.iadd, 1) := by decide +kernel
theorem dX9_doPoint_143 : decode cX9_doPoint 143 = .ok (.istore 4, 2) := by decide +kernel
theorem dX9_doPoint_145 : decode cX9_doPoint 145 = .ok (.iload 4, 2) := by decide +kernel
theorem dX9_doPoint_147 : decode cX9_doPoint 147 = .ok (.i2l, 1) := by decide +kernel
theorem dX9_doPoint_148 : decode cX9_doPoint 148 = .ok (.ldc2_w 169, 3) := by decide +kernel
theorem dX9_doPoint_151 : decode cX9_doPoint 151 = .ok (.ldc2_w 171, 3) := by decide +kernel
theorem dX9_doPoint_154 : decode cX9_doPoint 154 = .ok (.invokestatic 60, 3) := by decide +kernel
theorem dX9_doPoint_157 : decode cX9_doPoint 157 = .ok (.ifCond .eq 19, 3) := by decide +kernel
theorem dX9_doPoint_160 : decode cX9_doPoint 160 = .ok (.aload_n 0, 1) := by decide +kernel
theorem dX9_doPoint_161 : decode cX9_doPoint 161 = .ok (.iload_n 3, 1) := by decide +kernel
theorem dX9_doPoint_162 : decode cX9_doPoint 162 = .ok (.iload_n 2, 1) := by decide +kernel
theorem dX9_doPoint_163 : decode cX9_doPoint 163 = .ok (.aload_n 0, 1) := by decide +kernel
theorem dX9_doPoint_164 : decode cX9_doPoint 164 = .ok (.iload_n 1, 1) := by decide +kernel
theorem dX9_doPoint_165 : decode cX9_doPoint 165 = .ok (.invokevirtual 149, 3) := by decide +kernel
theorem dX9_doPoint_168 : decode cX9_doPoint 168 = .ok (.iload 4, 2) := by decide +kernel
theorem dX9_doPoint_170 : decode cX9_doPoint 170 = .ok (.invokestatic 165, 3) := by decide +kernel
theorem dX9_doPoint_173 : decode cX9_doPoint 173 = .ok (.invokevirtual 161, 3) := by decide +kernel
theorem dX9_doPoint_176 : decode cX9_doPoint 176 = .ok (.return_, 1) := by decide +kernel
theorem dX9_doStep_0 : decode cX9_doStep 0 = .ok (.iconst 0, 1) := by decide +kernel
theorem dX9_doStep_1 : decode cX9_doStep 1 = .ok (.istore_n 2, 1) := by decide +kernel
theorem dX9_doStep_2 : decode cX9_doStep 2 = .ok (.iload_n 2, 1) := by decide +kernel
theorem dX9_doStep_3 : decode cX9_doStep 3 = .ok (.sipush 4913, 3) := by decide +kernel
theorem dX9_doStep_6 : decode cX9_doStep 6 = .ok (.if_icmp .ge 24, 3) := by decide +kernel
theorem dX9_doStep_9 : decode cX9_doStep 9 = .ok (.aload_n 0, 1) := by decide +kernel
theorem dX9_doStep_10 : decode cX9_doStep 10 = .ok (.getfield 20, 3) := by decide +kernel
theorem dX9_doStep_13 : decode cX9_doStep 13 = .ok (.sipush 4913, 3) := by decide +kernel
theorem dX9_doStep_16 : decode cX9_doStep 16 = .ok (.iload_n 1, 1) := by decide +kernel
theorem dX9_doStep_17 : decode cX9_doStep 17 = .ok (.iconst 1, 1) := by decide +kernel
theorem dX9_doStep_18 : decode cX9_doStep 18 = .ok (.iadd, 1) := by decide +kernel
theorem dX9_doStep_19 : decode cX9_doStep 19 = .ok (.imul, 1) := by decide +kernel
theorem dX9_doStep_20 : decode cX9_doStep 20 = .ok (.iload_n 2, 1) := by decide +kernel
theorem dX9_doStep_21 : decode cX9_doStep 21 = .ok (.iadd, 1) := by decide +kernel
theorem dX9_doStep_22 : decode cX9_doStep 22 = .ok (.iconst 0, 1) := by decide +kernel
theorem dX9_doStep_23 : decode cX9_doStep 23 = .ok (.iastore, 1) := by decide +kernel
theorem dX9_doStep_24 : decode cX9_doStep 24 = .ok (.iinc 2 1, 3) := by decide +kernel
theorem dX9_doStep_27 : decode cX9_doStep 27 = .ok (.goto (-25), 3) := by decide +kernel
theorem dX9_doStep_30 : decode cX9_doStep 30 = .ok (.iconst 0, 1) := by decide +kernel
theorem dX9_doStep_31 : decode cX9_doStep 31 = .ok (.istore_n 2, 1) := by decide +kernel
theorem dX9_doStep_32 : decode cX9_doStep 32 = .ok (.iload_n 2, 1) := by decide +kernel
theorem dX9_doStep_33 : decode cX9_doStep 33 = .ok (.sipush 4913, 3) := by decide +kernel
theorem dX9_doStep_36 : decode cX9_doStep 36 = .ok (.if_icmp .ge 34, 3) := by decide +kernel
theorem dX9_doStep_39 : decode cX9_doStep 39 = .ok (.aload_n 0, 1) := by decide +kernel
theorem dX9_doStep_40 : decode cX9_doStep 40 = .ok (.getfield 20, 3) := by decide +kernel
theorem dX9_doStep_43 : decode cX9_doStep 43 = .ok (.sipush 4913, 3) := by decide +kernel
theorem dX9_doStep_46 : decode cX9_doStep 46 = .ok (.iload_n 1, 1) := by decide +kernel
theorem dX9_doStep_47 : decode cX9_doStep 47 = .ok (.imul, 1) := by decide +kernel
theorem dX9_doStep_48 : decode cX9_doStep 48 = .ok (.iload_n 2, 1) := by decide +kernel
theorem dX9_doStep_49 : decode cX9_doStep 49 = .ok (.iadd, 1) := by decide +kernel
theorem dX9_doStep_50 : decode cX9_doStep 50 = .ok (.iaload, 1) := by decide +kernel
theorem dX9_doStep_51 : decode cX9_doStep 51 = .ok (.iconst 1, 1) := by decide +kernel
theorem dX9_doStep_52 : decode cX9_doStep 52 = .ok (.if_icmp .ne 12, 3) := by decide +kernel
theorem dX9_doStep_55 : decode cX9_doStep 55 = .ok (.aload_n 0, 1) := by decide +kernel
theorem dX9_doStep_56 : decode cX9_doStep 56 = .ok (.iload_n 1, 1) := by decide +kernel
theorem dX9_doStep_57 : decode cX9_doStep 57 = .ok (.iload_n 2, 1) := by decide +kernel
theorem dX9_doStep_58 : decode cX9_doStep 58 = .ok (.iload_n 1, 1) := by decide +kernel
theorem dX9_doStep_59 : decode cX9_doStep 59 = .ok (.iconst 1, 1) := by decide +kernel
theorem dX9_doStep_60 : decode cX9_doStep 60 = .ok (.iadd, 1) := by decide +kernel
theorem dX9_doStep_61 : decode cX9_doStep 61 = .ok (.invokevirtual 173, 3) := by decide +kernel
theorem dX9_doStep_64 : decode cX9_doStep 64 = .ok (.iinc 2 1, 3) := by decide +kernel
theorem dX9_doStep_67 : decode cX9_doStep 67 = .ok (.goto (-35), 3) := by decide +kernel
theorem dX9_doStep_70 : decode cX9_doStep 70 = .ok (.return_, 1) := by decide +kernel
theorem dX9_boundIn_0 : decode cX9_boundIn 0 = .ok (.bipush (-99), 2) := by decide +kernel
theorem dX9_boundIn_2 : decode cX9_boundIn 2 = .ok (.istore 4, 2) := by decide +kernel
theorem dX9_boundIn_4 : decode cX9_boundIn 4 = .ok (.iconst 0, 1) := by decide +kernel
theorem dX9_boundIn_5 : decode cX9_boundIn 5 = .ok (.istore 5, 2) := by decide +kernel
theorem dX9_boundIn_7 : decode cX9_boundIn 7 = .ok (.iload 5, 2) := by decide +kernel
theorem dX9_boundIn_9 : decode cX9_boundIn 9 = .ok (.sipush 4913, 3) := by decide +kernel
theorem dX9_boundIn_12 : decode cX9_boundIn 12 = .ok (.if_icmp .ge 64, 3) := by decide +kernel
theorem dX9_boundIn_15 : decode cX9_boundIn 15 = .ok (.aload_n 0, 1) := by decide +kernel
theorem dX9_boundIn_16 : decode cX9_boundIn 16 = .ok (.getfield 20, 3) := by decide +kernel
theorem dX9_boundIn_19 : decode cX9_boundIn 19 = .ok (.sipush 4913, 3) := by decide +kernel
theorem dX9_boundIn_22 : decode cX9_boundIn 22 = .ok (.iload_n 1, 1) := by decide +kernel
theorem dX9_boundIn_23 : decode cX9_boundIn 23 = .ok (.imul, 1) := by decide +kernel
theorem dX9_boundIn_24 : decode cX9_boundIn 24 = .ok (.iload 5, 2) := by decide +kernel
theorem dX9_boundIn_26 : decode cX9_boundIn 26 = .ok (.iadd, 1) := by decide +kernel
theorem dX9_boundIn_27 : decode cX9_boundIn 27 = .ok (.iaload, 1) := by decide +kernel
theorem dX9_boundIn_28 : decode cX9_boundIn 28 = .ok (.iconst 1, 1) := by decide +kernel
theorem dX9_boundIn_29 : decode cX9_boundIn 29 = .ok (.if_icmp .ne 21, 3) := by decide +kernel
theorem dX9_boundIn_32 : decode cX9_boundIn 32 = .ok (.aload_n 0, 1) := by decide +kernel
theorem dX9_boundIn_33 : decode cX9_boundIn 33 = .ok (.iload 5, 2) := by decide +kernel
theorem dX9_boundIn_35 : decode cX9_boundIn 35 = .ok (.iload_n 2, 1) := by decide +kernel
theorem dX9_boundIn_36 : decode cX9_boundIn 36 = .ok (.invokevirtual 152, 3) := by decide +kernel
theorem dX9_boundIn_39 : decode cX9_boundIn 39 = .ok (.aload_n 0, 1) := by decide +kernel
theorem dX9_boundIn_40 : decode cX9_boundIn 40 = .ok (.iload 5, 2) := by decide +kernel
theorem dX9_boundIn_42 : decode cX9_boundIn 42 = .ok (.iload_n 3, 1) := by decide +kernel
theorem dX9_boundIn_43 : decode cX9_boundIn 43 = .ok (.invokevirtual 152, 3) := by decide +kernel
theorem dX9_boundIn_46 : decode cX9_boundIn 46 = .ok (.iadd, 1) := by decide +kernel
theorem dX9_boundIn_47 : decode cX9_boundIn 47 = .ok (.goto 5, 3) := by decide +kernel
theorem dX9_boundIn_50 : decode cX9_boundIn 50 = .ok (.bipush (-99), 2) := by decide +kernel
theorem dX9_boundIn_52 : decode cX9_boundIn 52 = .ok (.istore 6, 2) := by decide +kernel
theorem dX9_boundIn_54 : decode cX9_boundIn 54 = .ok (.iload 6, 2) := by decide +kernel
theorem dX9_boundIn_56 : decode cX9_boundIn 56 = .ok (.iload 4, 2) := by decide +kernel
theorem dX9_boundIn_58 : decode cX9_boundIn 58 = .ok (.if_icmp .le 8, 3) := by decide +kernel
theorem dX9_boundIn_61 : decode cX9_boundIn 61 = .ok (.iload 6, 2) := by decide +kernel
theorem dX9_boundIn_63 : decode cX9_boundIn 63 = .ok (.goto 5, 3) := by decide +kernel
theorem dX9_boundIn_66 : decode cX9_boundIn 66 = .ok (.iload 4, 2) := by decide +kernel
theorem dX9_boundIn_68 : decode cX9_boundIn 68 = .ok (.istore 4, 2) := by decide +kernel
theorem dX9_boundIn_70 : decode cX9_boundIn 70 = .ok (.iinc 5 1, 3) := by decide +kernel
theorem dX9_boundIn_73 : decode cX9_boundIn 73 = .ok (.goto (-66), 3) := by decide +kernel
theorem dX9_boundIn_76 : decode cX9_boundIn 76 = .ok (.iload 4, 2) := by decide +kernel
theorem dX9_boundIn_78 : decode cX9_boundIn 78 = .ok (.ireturn, 1) := by decide +kernel
theorem dX9_raise_0 : decode cX9_raise 0 = .ok (.iconst 0, 1) := by decide +kernel
theorem dX9_raise_1 : decode cX9_raise 1 = .ok (.istore_n 3, 1) := by decide +kernel
theorem dX9_raise_2 : decode cX9_raise 2 = .ok (.iload_n 3, 1) := by decide +kernel
theorem dX9_raise_3 : decode cX9_raise 3 = .ok (.bipush 6, 2) := by decide +kernel
theorem dX9_raise_5 : decode cX9_raise 5 = .ok (.if_icmp .ge 88, 3) := by decide +kernel
theorem dX9_raise_8 : decode cX9_raise 8 = .ok (.iload_n 3, 1) := by decide +kernel
theorem dX9_raise_9 : decode cX9_raise 9 = .ok (.istore 4, 2) := by decide +kernel
theorem dX9_raise_11 : decode cX9_raise 11 = .ok (.iload 4, 2) := by decide +kernel
theorem dX9_raise_13 : decode cX9_raise 13 = .ok (.bipush 6, 2) := by decide +kernel
theorem dX9_raise_15 : decode cX9_raise 15 = .ok (.if_icmp .ge 72, 3) := by decide +kernel
theorem dX9_raise_18 : decode cX9_raise 18 = .ok (.aload_n 0, 1) := by decide +kernel
theorem dX9_raise_19 : decode cX9_raise 19 = .ok (.getfield 23, 3) := by decide +kernel
theorem dX9_raise_22 : decode cX9_raise 22 = .ok (.bipush 6, 2) := by decide +kernel
theorem dX9_raise_24 : decode cX9_raise 24 = .ok (.iload_n 1, 1) := by decide +kernel
theorem dX9_raise_25 : decode cX9_raise 25 = .ok (.imul, 1) := by decide +kernel
theorem dX9_raise_26 : decode cX9_raise 26 = .ok (.iload_n 3, 1) := by decide +kernel
theorem dX9_raise_27 : decode cX9_raise 27 = .ok (.iadd, 1) := by decide +kernel
theorem dX9_raise_28 : decode cX9_raise 28 = .ok (.iaload, 1) := by decide +kernel
theorem dX9_raise_29 : decode cX9_raise 29 = .ok (.aload_n 0, 1) := by decide +kernel
theorem dX9_raise_30 : decode cX9_raise 30 = .ok (.getfield 23, 3) := by decide +kernel
theorem dX9_raise_33 : decode cX9_raise 33 = .ok (.bipush 6, 2) := by decide +kernel
theorem dX9_raise_35 : decode cX9_raise 35 = .ok (.iload_n 1, 1) := by decide +kernel
theorem dX9_raise_36 : decode cX9_raise 36 = .ok (.imul, 1) := by decide +kernel
theorem dX9_raise_37 : decode cX9_raise 37 = .ok (.iload 4, 2) := by decide +kernel
theorem dX9_raise_39 : decode cX9_raise 39 = .ok (.iadd, 1) := by decide +kernel
theorem dX9_raise_40 : decode cX9_raise 40 = .ok (.iaload, 1) := by decide +kernel
theorem dX9_raise_41 : decode cX9_raise 41 = .ok (.iadd, 1) := by decide +kernel
theorem dX9_raise_42 : decode cX9_raise 42 = .ok (.istore 5, 2) := by decide +kernel
theorem dX9_raise_44 : decode cX9_raise 44 = .ok (.aload_n 2, 1) := by decide +kernel
theorem dX9_raise_45 : decode cX9_raise 45 = .ok (.bipush 6, 2) := by decide +kernel
theorem dX9_raise_47 : decode cX9_raise 47 = .ok (.iload_n 3, 1) := by decide +kernel
theorem dX9_raise_48 : decode cX9_raise 48 = .ok (.imul, 1) := by decide +kernel
theorem dX9_raise_49 : decode cX9_raise 49 = .ok (.iload 4, 2) := by decide +kernel
theorem dX9_raise_51 : decode cX9_raise 51 = .ok (.iadd, 1) := by decide +kernel
theorem dX9_raise_52 : decode cX9_raise 52 = .ok (.iload 5, 2) := by decide +kernel
theorem dX9_raise_54 : decode cX9_raise 54 = .ok (.aload_n 2, 1) := by decide +kernel
theorem dX9_raise_55 : decode cX9_raise 55 = .ok (.bipush 6, 2) := by decide +kernel
theorem dX9_raise_57 : decode cX9_raise 57 = .ok (.iload_n 3, 1) := by decide +kernel
theorem dX9_raise_58 : decode cX9_raise 58 = .ok (.imul, 1) := by decide +kernel
theorem dX9_raise_59 : decode cX9_raise 59 = .ok (.iload 4, 2) := by decide +kernel
theorem dX9_raise_61 : decode cX9_raise 61 = .ok (.iadd, 1) := by decide +kernel
theorem dX9_raise_62 : decode cX9_raise 62 = .ok (.iaload, 1) := by decide +kernel
theorem dX9_raise_63 : decode cX9_raise 63 = .ok (.if_icmp .le 8, 3) := by decide +kernel
theorem dX9_raise_66 : decode cX9_raise 66 = .ok (.iload 5, 2) := by decide +kernel
theorem dX9_raise_68 : decode cX9_raise 68 = .ok (.goto 12, 3) := by decide +kernel
theorem dX9_raise_71 : decode cX9_raise 71 = .ok (.aload_n 2, 1) := by decide +kernel
theorem dX9_raise_72 : decode cX9_raise 72 = .ok (.bipush 6, 2) := by decide +kernel
theorem dX9_raise_74 : decode cX9_raise 74 = .ok (.iload_n 3, 1) := by decide +kernel
theorem dX9_raise_75 : decode cX9_raise 75 = .ok (.imul, 1) := by decide +kernel
theorem dX9_raise_76 : decode cX9_raise 76 = .ok (.iload 4, 2) := by decide +kernel
theorem dX9_raise_78 : decode cX9_raise 78 = .ok (.iadd, 1) := by decide +kernel
theorem dX9_raise_79 : decode cX9_raise 79 = .ok (.iaload, 1) := by decide +kernel
theorem dX9_raise_80 : decode cX9_raise 80 = .ok (.iastore, 1) := by decide +kernel
theorem dX9_raise_81 : decode cX9_raise 81 = .ok (.iinc 4 1, 3) := by decide +kernel
theorem dX9_raise_84 : decode cX9_raise 84 = .ok (.goto (-73), 3) := by decide +kernel
theorem dX9_raise_87 : decode cX9_raise 87 = .ok (.iinc 3 1, 3) := by decide +kernel
theorem dX9_raise_90 : decode cX9_raise 90 = .ok (.goto (-88), 3) := by decide +kernel
theorem dX9_raise_93 : decode cX9_raise 93 = .ok (.return_, 1) := by decide +kernel
theorem dX9_layBounds_0 : decode cX9_layBounds 0 = .ok (.iconst 0, 1) := by decide +kernel
theorem dX9_layBounds_1 : decode cX9_layBounds 1 = .ok (.istore_n 3, 1) := by decide +kernel
theorem dX9_layBounds_2 : decode cX9_layBounds 2 = .ok (.iload_n 3, 1) := by decide +kernel
theorem dX9_layBounds_3 : decode cX9_layBounds 3 = .ok (.bipush 36, 2) := by decide +kernel
theorem dX9_layBounds_5 : decode cX9_layBounds 5 = .ok (.if_icmp .ge 14, 3) := by decide +kernel
theorem dX9_layBounds_8 : decode cX9_layBounds 8 = .ok (.aload_n 2, 1) := by decide +kernel
theorem dX9_layBounds_9 : decode cX9_layBounds 9 = .ok (.iload_n 3, 1) := by decide +kernel
theorem dX9_layBounds_10 : decode cX9_layBounds 10 = .ok (.bipush (-99), 2) := by decide +kernel
theorem dX9_layBounds_12 : decode cX9_layBounds 12 = .ok (.iastore, 1) := by decide +kernel
theorem dX9_layBounds_13 : decode cX9_layBounds 13 = .ok (.iinc 3 1, 3) := by decide +kernel
theorem dX9_layBounds_16 : decode cX9_layBounds 16 = .ok (.goto (-14), 3) := by decide +kernel
theorem dX9_layBounds_19 : decode cX9_layBounds 19 = .ok (.iconst 0, 1) := by decide +kernel
theorem dX9_layBounds_20 : decode cX9_layBounds 20 = .ok (.istore_n 3, 1) := by decide +kernel
theorem dX9_layBounds_21 : decode cX9_layBounds 21 = .ok (.iload_n 3, 1) := by decide +kernel
theorem dX9_layBounds_22 : decode cX9_layBounds 22 = .ok (.sipush 4913, 3) := by decide +kernel
theorem dX9_layBounds_25 : decode cX9_layBounds 25 = .ok (.if_icmp .ge 31, 3) := by decide +kernel
theorem dX9_layBounds_28 : decode cX9_layBounds 28 = .ok (.aload_n 0, 1) := by decide +kernel
theorem dX9_layBounds_29 : decode cX9_layBounds 29 = .ok (.getfield 20, 3) := by decide +kernel
theorem dX9_layBounds_32 : decode cX9_layBounds 32 = .ok (.sipush 4913, 3) := by decide +kernel
theorem dX9_layBounds_35 : decode cX9_layBounds 35 = .ok (.iload_n 1, 1) := by decide +kernel
theorem dX9_layBounds_36 : decode cX9_layBounds 36 = .ok (.imul, 1) := by decide +kernel
theorem dX9_layBounds_37 : decode cX9_layBounds 37 = .ok (.iload_n 3, 1) := by decide +kernel
theorem dX9_layBounds_38 : decode cX9_layBounds 38 = .ok (.iadd, 1) := by decide +kernel
theorem dX9_layBounds_39 : decode cX9_layBounds 39 = .ok (.iaload, 1) := by decide +kernel
theorem dX9_layBounds_40 : decode cX9_layBounds 40 = .ok (.iconst 1, 1) := by decide +kernel
theorem dX9_layBounds_41 : decode cX9_layBounds 41 = .ok (.if_icmp .ne 9, 3) := by decide +kernel
theorem dX9_layBounds_44 : decode cX9_layBounds 44 = .ok (.aload_n 0, 1) := by decide +kernel
theorem dX9_layBounds_45 : decode cX9_layBounds 45 = .ok (.iload_n 3, 1) := by decide +kernel
theorem dX9_layBounds_46 : decode cX9_layBounds 46 = .ok (.aload_n 2, 1) := by decide +kernel
theorem dX9_layBounds_47 : decode cX9_layBounds 47 = .ok (.invokevirtual 177, 3) := by decide +kernel
theorem dX9_layBounds_50 : decode cX9_layBounds 50 = .ok (.iinc 3 1, 3) := by decide +kernel
theorem dX9_layBounds_53 : decode cX9_layBounds 53 = .ok (.goto (-32), 3) := by decide +kernel
theorem dX9_layBounds_56 : decode cX9_layBounds 56 = .ok (.iconst 0, 1) := by decide +kernel
theorem dX9_layBounds_57 : decode cX9_layBounds 57 = .ok (.istore_n 3, 1) := by decide +kernel
theorem dX9_layBounds_58 : decode cX9_layBounds 58 = .ok (.iload_n 3, 1) := by decide +kernel
theorem dX9_layBounds_59 : decode cX9_layBounds 59 = .ok (.bipush 36, 2) := by decide +kernel
theorem dX9_layBounds_61 : decode cX9_layBounds 61 = .ok (.if_icmp .ge 41, 3) := by decide +kernel
theorem dX9_layBounds_64 : decode cX9_layBounds 64 = .ok (.aload_n 2, 1) := by decide +kernel
theorem dX9_layBounds_65 : decode cX9_layBounds 65 = .ok (.iload_n 3, 1) := by decide +kernel
theorem dX9_layBounds_66 : decode cX9_layBounds 66 = .ok (.aload_n 2, 1) := by decide +kernel
theorem dX9_layBounds_67 : decode cX9_layBounds 67 = .ok (.iload_n 3, 1) := by decide +kernel
theorem dX9_layBounds_68 : decode cX9_layBounds 68 = .ok (.bipush 6, 2) := by decide +kernel
theorem dX9_layBounds_70 : decode cX9_layBounds 70 = .ok (.idiv, 1) := by decide +kernel
theorem dX9_layBounds_71 : decode cX9_layBounds 71 = .ok (.iload_n 3, 1) := by decide +kernel
theorem dX9_layBounds_72 : decode cX9_layBounds 72 = .ok (.bipush 6, 2) := by decide +kernel
theorem dX9_layBounds_74 : decode cX9_layBounds 74 = .ok (.irem, 1) := by decide +kernel
theorem dX9_layBounds_75 : decode cX9_layBounds 75 = .ok (.if_icmp .ge 7, 3) := by decide +kernel
theorem dX9_layBounds_78 : decode cX9_layBounds 78 = .ok (.iload_n 3, 1) := by decide +kernel
theorem dX9_layBounds_79 : decode cX9_layBounds 79 = .ok (.goto 15, 3) := by decide +kernel
theorem dX9_layBounds_82 : decode cX9_layBounds 82 = .ok (.iload_n 3, 1) := by decide +kernel
theorem dX9_layBounds_83 : decode cX9_layBounds 83 = .ok (.bipush 6, 2) := by decide +kernel
theorem dX9_layBounds_85 : decode cX9_layBounds 85 = .ok (.irem, 1) := by decide +kernel
theorem dX9_layBounds_86 : decode cX9_layBounds 86 = .ok (.bipush 6, 2) := by decide +kernel
theorem dX9_layBounds_88 : decode cX9_layBounds 88 = .ok (.imul, 1) := by decide +kernel
theorem dX9_layBounds_89 : decode cX9_layBounds 89 = .ok (.iload_n 3, 1) := by decide +kernel
theorem dX9_layBounds_90 : decode cX9_layBounds 90 = .ok (.bipush 6, 2) := by decide +kernel
theorem dX9_layBounds_92 : decode cX9_layBounds 92 = .ok (.idiv, 1) := by decide +kernel
theorem dX9_layBounds_93 : decode cX9_layBounds 93 = .ok (.iadd, 1) := by decide +kernel
theorem dX9_layBounds_94 : decode cX9_layBounds 94 = .ok (.iaload, 1) := by decide +kernel
theorem dX9_layBounds_95 : decode cX9_layBounds 95 = .ok (.iastore, 1) := by decide +kernel
theorem dX9_layBounds_96 : decode cX9_layBounds 96 = .ok (.iinc 3 1, 3) := by decide +kernel
theorem dX9_layBounds_99 : decode cX9_layBounds 99 = .ok (.goto (-41), 3) := by decide +kernel
theorem dX9_layBounds_102 : decode cX9_layBounds 102 = .ok (.return_, 1) := by decide +kernel
theorem dX9_isBy_0 : decode cX9_isBy 0 = .ok (.iconst 0, 1) := by decide +kernel
theorem dX9_isBy_1 : decode cX9_isBy 1 = .ok (.istore_n 3, 1) := by decide +kernel
theorem dX9_isBy_2 : decode cX9_isBy 2 = .ok (.iload_n 3, 1) := by decide +kernel
theorem dX9_isBy_3 : decode cX9_isBy 3 = .ok (.bipush 6, 2) := by decide +kernel
theorem dX9_isBy_5 : decode cX9_isBy 5 = .ok (.if_icmp .ge 63, 3) := by decide +kernel
theorem dX9_isBy_8 : decode cX9_isBy 8 = .ok (.iload_n 3, 1) := by decide +kernel
theorem dX9_isBy_9 : decode cX9_isBy 9 = .ok (.istore 4, 2) := by decide +kernel
theorem dX9_isBy_11 : decode cX9_isBy 11 = .ok (.iload 4, 2) := by decide +kernel
theorem dX9_isBy_13 : decode cX9_isBy 13 = .ok (.bipush 6, 2) := by decide +kernel
theorem dX9_isBy_15 : decode cX9_isBy 15 = .ok (.if_icmp .ge 47, 3) := by decide +kernel
theorem dX9_isBy_18 : decode cX9_isBy 18 = .ok (.aload_n 0, 1) := by decide +kernel
theorem dX9_isBy_19 : decode cX9_isBy 19 = .ok (.getfield 23, 3) := by decide +kernel
theorem dX9_isBy_22 : decode cX9_isBy 22 = .ok (.bipush 6, 2) := by decide +kernel
theorem dX9_isBy_24 : decode cX9_isBy 24 = .ok (.iload_n 2, 1) := by decide +kernel
theorem dX9_isBy_25 : decode cX9_isBy 25 = .ok (.imul, 1) := by decide +kernel
theorem dX9_isBy_26 : decode cX9_isBy 26 = .ok (.iload_n 3, 1) := by decide +kernel
theorem dX9_isBy_27 : decode cX9_isBy 27 = .ok (.iadd, 1) := by decide +kernel
theorem dX9_isBy_28 : decode cX9_isBy 28 = .ok (.iaload, 1) := by decide +kernel
theorem dX9_isBy_29 : decode cX9_isBy 29 = .ok (.aload_n 0, 1) := by decide +kernel
theorem dX9_isBy_30 : decode cX9_isBy 30 = .ok (.getfield 23, 3) := by decide +kernel
theorem dX9_isBy_33 : decode cX9_isBy 33 = .ok (.bipush 6, 2) := by decide +kernel
theorem dX9_isBy_35 : decode cX9_isBy 35 = .ok (.iload_n 2, 1) := by decide +kernel
theorem dX9_isBy_36 : decode cX9_isBy 36 = .ok (.imul, 1) := by decide +kernel
theorem dX9_isBy_37 : decode cX9_isBy 37 = .ok (.iload 4, 2) := by decide +kernel
theorem dX9_isBy_39 : decode cX9_isBy 39 = .ok (.iadd, 1) := by decide +kernel
theorem dX9_isBy_40 : decode cX9_isBy 40 = .ok (.iaload, 1) := by decide +kernel
theorem dX9_isBy_41 : decode cX9_isBy 41 = .ok (.iadd, 1) := by decide +kernel
theorem dX9_isBy_42 : decode cX9_isBy 42 = .ok (.aload_n 1, 1) := by decide +kernel
theorem dX9_isBy_43 : decode cX9_isBy 43 = .ok (.bipush 6, 2) := by decide +kernel
theorem dX9_isBy_45 : decode cX9_isBy 45 = .ok (.iload_n 3, 1) := by decide +kernel
theorem dX9_isBy_46 : decode cX9_isBy 46 = .ok (.imul, 1) := by decide +kernel
theorem dX9_isBy_47 : decode cX9_isBy 47 = .ok (.iload 4, 2) := by decide +kernel
theorem dX9_isBy_49 : decode cX9_isBy 49 = .ok (.iadd, 1) := by decide +kernel
theorem dX9_isBy_50 : decode cX9_isBy 50 = .ok (.iaload, 1) := by decide +kernel
theorem dX9_isBy_51 : decode cX9_isBy 51 = .ok (.if_icmp .le 5, 3) := by decide +kernel
theorem dX9_isBy_54 : decode cX9_isBy 54 = .ok (.iconst 0, 1) := by decide +kernel
theorem dX9_isBy_55 : decode cX9_isBy 55 = .ok (.ireturn, 1) := by decide +kernel
theorem dX9_isBy_56 : decode cX9_isBy 56 = .ok (.iinc 4 1, 3) := by decide +kernel
theorem dX9_isBy_59 : decode cX9_isBy 59 = .ok (.goto (-48), 3) := by decide +kernel
theorem dX9_isBy_62 : decode cX9_isBy 62 = .ok (.iinc 3 1, 3) := by decide +kernel
theorem dX9_isBy_65 : decode cX9_isBy 65 = .ok (.goto (-63), 3) := by decide +kernel
theorem dX9_isBy_68 : decode cX9_isBy 68 = .ok (.iconst 1, 1) := by decide +kernel
theorem dX9_isBy_69 : decode cX9_isBy 69 = .ok (.ireturn, 1) := by decide +kernel
theorem dX9_layBy_0 : decode cX9_layBy 0 = .ok (.iconst 0, 1) := by decide +kernel
theorem dX9_layBy_1 : decode cX9_layBy 1 = .ok (.istore_n 3, 1) := by decide +kernel
theorem dX9_layBy_2 : decode cX9_layBy 2 = .ok (.iload_n 3, 1) := by decide +kernel
theorem dX9_layBy_3 : decode cX9_layBy 3 = .ok (.sipush 4913, 3) := by decide +kernel
theorem dX9_layBy_6 : decode cX9_layBy 6 = .ok (.if_icmp .ge 35, 3) := by decide +kernel
theorem dX9_layBy_9 : decode cX9_layBy 9 = .ok (.aload_n 0, 1) := by decide +kernel
theorem dX9_layBy_10 : decode cX9_layBy 10 = .ok (.getfield 20, 3) := by decide +kernel
theorem dX9_layBy_13 : decode cX9_layBy 13 = .ok (.sipush 4913, 3) := by decide +kernel
theorem dX9_layBy_16 : decode cX9_layBy 16 = .ok (.iload_n 2, 1) := by decide +kernel
theorem dX9_layBy_17 : decode cX9_layBy 17 = .ok (.imul, 1) := by decide +kernel
theorem dX9_layBy_18 : decode cX9_layBy 18 = .ok (.iload_n 3, 1) := by decide +kernel
theorem dX9_layBy_19 : decode cX9_layBy 19 = .ok (.iadd, 1) := by decide +kernel
theorem dX9_layBy_20 : decode cX9_layBy 20 = .ok (.aload_n 0, 1) := by decide +kernel
theorem dX9_layBy_21 : decode cX9_layBy 21 = .ok (.aload_n 1, 1) := by decide +kernel
theorem dX9_layBy_22 : decode cX9_layBy 22 = .ok (.iload_n 3, 1) := by decide +kernel
theorem dX9_layBy_23 : decode cX9_layBy 23 = .ok (.invokevirtual 181, 3) := by decide +kernel
theorem dX9_layBy_26 : decode cX9_layBy 26 = .ok (.ifCond .eq 7, 3) := by decide +kernel
theorem dX9_layBy_29 : decode cX9_layBy 29 = .ok (.iconst 1, 1) := by decide +kernel
theorem dX9_layBy_30 : decode cX9_layBy 30 = .ok (.goto 4, 3) := by decide +kernel
theorem dX9_layBy_33 : decode cX9_layBy 33 = .ok (.iconst 0, 1) := by decide +kernel
theorem dX9_layBy_34 : decode cX9_layBy 34 = .ok (.iastore, 1) := by decide +kernel
theorem dX9_layBy_35 : decode cX9_layBy 35 = .ok (.iinc 3 1, 3) := by decide +kernel
theorem dX9_layBy_38 : decode cX9_layBy 38 = .ok (.goto (-36), 3) := by decide +kernel
theorem dX9_layBy_41 : decode cX9_layBy 41 = .ok (.return_, 1) := by decide +kernel
theorem dX9_copyShape_0 : decode cX9_copyShape 0 = .ok (.iconst 0, 1) := by decide +kernel
theorem dX9_copyShape_1 : decode cX9_copyShape 1 = .ok (.istore_n 3, 1) := by decide +kernel
theorem dX9_copyShape_2 : decode cX9_copyShape 2 = .ok (.iload_n 3, 1) := by decide +kernel
theorem dX9_copyShape_3 : decode cX9_copyShape 3 = .ok (.sipush 4913, 3) := by decide +kernel
theorem dX9_copyShape_6 : decode cX9_copyShape 6 = .ok (.if_icmp .ge 33, 3) := by decide +kernel
theorem dX9_copyShape_9 : decode cX9_copyShape 9 = .ok (.aload_n 0, 1) := by decide +kernel
theorem dX9_copyShape_10 : decode cX9_copyShape 10 = .ok (.getfield 20, 3) := by decide +kernel
theorem dX9_copyShape_13 : decode cX9_copyShape 13 = .ok (.sipush 4913, 3) := by decide +kernel
theorem dX9_copyShape_16 : decode cX9_copyShape 16 = .ok (.iload_n 2, 1) := by decide +kernel
theorem dX9_copyShape_17 : decode cX9_copyShape 17 = .ok (.imul, 1) := by decide +kernel
theorem dX9_copyShape_18 : decode cX9_copyShape 18 = .ok (.iload_n 3, 1) := by decide +kernel
theorem dX9_copyShape_19 : decode cX9_copyShape 19 = .ok (.iadd, 1) := by decide +kernel
theorem dX9_copyShape_20 : decode cX9_copyShape 20 = .ok (.aload_n 0, 1) := by decide +kernel
theorem dX9_copyShape_21 : decode cX9_copyShape 21 = .ok (.getfield 20, 3) := by decide +kernel
theorem dX9_copyShape_24 : decode cX9_copyShape 24 = .ok (.sipush 4913, 3) := by decide +kernel
theorem dX9_copyShape_27 : decode cX9_copyShape 27 = .ok (.iload_n 1, 1) := by decide +kernel
theorem dX9_copyShape_28 : decode cX9_copyShape 28 = .ok (.imul, 1) := by decide +kernel
theorem dX9_copyShape_29 : decode cX9_copyShape 29 = .ok (.iload_n 3, 1) := by decide +kernel
theorem dX9_copyShape_30 : decode cX9_copyShape 30 = .ok (.iadd, 1) := by decide +kernel
theorem dX9_copyShape_31 : decode cX9_copyShape 31 = .ok (.iaload, 1) := by decide +kernel
theorem dX9_copyShape_32 : decode cX9_copyShape 32 = .ok (.iastore, 1) := by decide +kernel
theorem dX9_copyShape_33 : decode cX9_copyShape 33 = .ok (.iinc 3 1, 3) := by decide +kernel
theorem dX9_copyShape_36 : decode cX9_copyShape 36 = .ok (.goto (-34), 3) := by decide +kernel
theorem dX9_copyShape_39 : decode cX9_copyShape 39 = .ok (.return_, 1) := by decide +kernel
theorem dX9_join_0 : decode cX9_join 0 = .ok (.aload_n 0, 1) := by decide +kernel
theorem dX9_join_1 : decode cX9_join 1 = .ok (.iload_n 1, 1) := by decide +kernel
theorem dX9_join_2 : decode cX9_join 2 = .ok (.invokevirtual 185, 3) := by decide +kernel
theorem dX9_join_5 : decode cX9_join 5 = .ok (.ifCond .eq 11, 3) := by decide +kernel
theorem dX9_join_8 : decode cX9_join 8 = .ok (.aload_n 0, 1) := by decide +kernel
theorem dX9_join_9 : decode cX9_join 9 = .ok (.iload_n 2, 1) := by decide +kernel
theorem dX9_join_10 : decode cX9_join 10 = .ok (.invokevirtual 185, 3) := by decide +kernel
theorem dX9_join_13 : decode cX9_join 13 = .ok (.ifCond .ne 22, 3) := by decide +kernel
theorem dX9_join_16 : decode cX9_join 16 = .ok (.aload_n 0, 1) := by decide +kernel
theorem dX9_join_17 : decode cX9_join 17 = .ok (.aload_n 0, 1) := by decide +kernel
theorem dX9_join_18 : decode cX9_join 18 = .ok (.iload_n 1, 1) := by decide +kernel
theorem dX9_join_19 : decode cX9_join 19 = .ok (.invokevirtual 185, 3) := by decide +kernel
theorem dX9_join_22 : decode cX9_join 22 = .ok (.ifCond .ne 7, 3) := by decide +kernel
theorem dX9_join_25 : decode cX9_join 25 = .ok (.iload_n 2, 1) := by decide +kernel
theorem dX9_join_26 : decode cX9_join 26 = .ok (.goto 4, 3) := by decide +kernel
theorem dX9_join_29 : decode cX9_join 29 = .ok (.iload_n 1, 1) := by decide +kernel
theorem dX9_join_30 : decode cX9_join 30 = .ok (.iload_n 3, 1) := by decide +kernel
theorem dX9_join_31 : decode cX9_join 31 = .ok (.invokevirtual 188, 3) := by decide +kernel
theorem dX9_join_34 : decode cX9_join 34 = .ok (.return_, 1) := by decide +kernel
theorem dX9_join_35 : decode cX9_join 35 = .ok (.aload_n 0, 1) := by decide +kernel
theorem dX9_join_36 : decode cX9_join 36 = .ok (.iload_n 1, 1) := by decide +kernel
theorem dX9_join_37 : decode cX9_join 37 = .ok (.aload_n 0, 1) := by decide +kernel
theorem dX9_join_38 : decode cX9_join 38 = .ok (.getfield 26, 3) := by decide +kernel
theorem dX9_join_41 : decode cX9_join 41 = .ok (.invokevirtual 191, 3) := by decide +kernel
theorem dX9_join_44 : decode cX9_join 44 = .ok (.aload_n 0, 1) := by decide +kernel
theorem dX9_join_45 : decode cX9_join 45 = .ok (.iload_n 2, 1) := by decide +kernel
theorem dX9_join_46 : decode cX9_join 46 = .ok (.aload_n 0, 1) := by decide +kernel
theorem dX9_join_47 : decode cX9_join 47 = .ok (.getfield 29, 3) := by decide +kernel
theorem dX9_join_50 : decode cX9_join 50 = .ok (.invokevirtual 191, 3) := by decide +kernel
theorem dX9_join_53 : decode cX9_join 53 = .ok (.iconst 0, 1) := by decide +kernel
theorem dX9_join_54 : decode cX9_join 54 = .ok (.istore 4, 2) := by decide +kernel
theorem dX9_join_56 : decode cX9_join 56 = .ok (.iload 4, 2) := by decide +kernel
theorem dX9_join_58 : decode cX9_join 58 = .ok (.bipush 36, 2) := by decide +kernel
theorem dX9_join_60 : decode cX9_join 60 = .ok (.if_icmp .ge 50, 3) := by decide +kernel
theorem dX9_join_63 : decode cX9_join 63 = .ok (.aload_n 0, 1) := by decide +kernel
theorem dX9_join_64 : decode cX9_join 64 = .ok (.getfield 26, 3) := by decide +kernel
theorem dX9_join_67 : decode cX9_join 67 = .ok (.iload 4, 2) := by decide +kernel
theorem dX9_join_69 : decode cX9_join 69 = .ok (.aload_n 0, 1) := by decide +kernel
theorem dX9_join_70 : decode cX9_join 70 = .ok (.getfield 29, 3) := by decide +kernel
theorem dX9_join_73 : decode cX9_join 73 = .ok (.iload 4, 2) := by decide +kernel
theorem dX9_join_75 : decode cX9_join 75 = .ok (.iaload, 1) := by decide +kernel
theorem dX9_join_76 : decode cX9_join 76 = .ok (.aload_n 0, 1) := by decide +kernel
theorem dX9_join_77 : decode cX9_join 77 = .ok (.getfield 26, 3) := by decide +kernel
theorem dX9_join_80 : decode cX9_join 80 = .ok (.iload 4, 2) := by decide +kernel
theorem dX9_join_82 : decode cX9_join 82 = .ok (.iaload, 1) := by decide +kernel
theorem dX9_join_83 : decode cX9_join 83 = .ok (.if_icmp .le 13, 3) := by decide +kernel
theorem dX9_join_86 : decode cX9_join 86 = .ok (.aload_n 0, 1) := by decide +kernel
theorem dX9_join_87 : decode cX9_join 87 = .ok (.getfield 29, 3) := by decide +kernel
theorem dX9_join_90 : decode cX9_join 90 = .ok (.iload 4, 2) := by decide +kernel
theorem dX9_join_92 : decode cX9_join 92 = .ok (.iaload, 1) := by decide +kernel
theorem dX9_join_93 : decode cX9_join 93 = .ok (.goto 10, 3) := by decide +kernel
theorem dX9_join_96 : decode cX9_join 96 = .ok (.aload_n 0, 1) := by decide +kernel
theorem dX9_join_97 : decode cX9_join 97 = .ok (.getfield 26, 3) := by decide +kernel
theorem dX9_join_100 : decode cX9_join 100 = .ok (.iload 4, 2) := by decide +kernel
theorem dX9_join_102 : decode cX9_join 102 = .ok (.iaload, 1) := by decide +kernel
theorem dX9_join_103 : decode cX9_join 103 = .ok (.iastore, 1) := by decide +kernel
theorem dX9_join_104 : decode cX9_join 104 = .ok (.iinc 4 1, 3) := by decide +kernel
theorem dX9_join_107 : decode cX9_join 107 = .ok (.goto (-51), 3) := by decide +kernel
theorem dX9_join_110 : decode cX9_join 110 = .ok (.aload_n 0, 1) := by decide +kernel
theorem dX9_join_111 : decode cX9_join 111 = .ok (.aload_n 0, 1) := by decide +kernel
theorem dX9_join_112 : decode cX9_join 112 = .ok (.getfield 26, 3) := by decide +kernel
theorem dX9_join_115 : decode cX9_join 115 = .ok (.iload_n 3, 1) := by decide +kernel
theorem dX9_join_116 : decode cX9_join 116 = .ok (.invokevirtual 194, 3) := by decide +kernel
theorem dX9_join_119 : decode cX9_join 119 = .ok (.return_, 1) := by decide +kernel
theorem dX9_isLike_0 : decode cX9_isLike 0 = .ok (.iconst 0, 1) := by decide +kernel
theorem dX9_isLike_1 : decode cX9_isLike 1 = .ok (.istore_n 3, 1) := by decide +kernel
theorem dX9_isLike_2 : decode cX9_isLike 2 = .ok (.iload_n 3, 1) := by decide +kernel
theorem dX9_isLike_3 : decode cX9_isLike 3 = .ok (.sipush 4913, 3) := by decide +kernel
theorem dX9_isLike_6 : decode cX9_isLike 6 = .ok (.if_icmp .ge 38, 3) := by decide +kernel
theorem dX9_isLike_9 : decode cX9_isLike 9 = .ok (.aload_n 0, 1) := by decide +kernel
theorem dX9_isLike_10 : decode cX9_isLike 10 = .ok (.getfield 20, 3) := by decide +kernel
theorem dX9_isLike_13 : decode cX9_isLike 13 = .ok (.sipush 4913, 3) := by decide +kernel
theorem dX9_isLike_16 : decode cX9_isLike 16 = .ok (.iload_n 1, 1) := by decide +kernel
theorem dX9_isLike_17 : decode cX9_isLike 17 = .ok (.imul, 1) := by decide +kernel
theorem dX9_isLike_18 : decode cX9_isLike 18 = .ok (.iload_n 3, 1) := by decide +kernel
theorem dX9_isLike_19 : decode cX9_isLike 19 = .ok (.iadd, 1) := by decide +kernel
theorem dX9_isLike_20 : decode cX9_isLike 20 = .ok (.iaload, 1) := by decide +kernel
theorem dX9_isLike_21 : decode cX9_isLike 21 = .ok (.aload_n 0, 1) := by decide +kernel
theorem dX9_isLike_22 : decode cX9_isLike 22 = .ok (.getfield 20, 3) := by decide +kernel
theorem dX9_isLike_25 : decode cX9_isLike 25 = .ok (.sipush 4913, 3) := by decide +kernel
theorem dX9_isLike_28 : decode cX9_isLike 28 = .ok (.iload_n 2, 1) := by decide +kernel
theorem dX9_isLike_29 : decode cX9_isLike 29 = .ok (.imul, 1) := by decide +kernel
theorem dX9_isLike_30 : decode cX9_isLike 30 = .ok (.iload_n 3, 1) := by decide +kernel
theorem dX9_isLike_31 : decode cX9_isLike 31 = .ok (.iadd, 1) := by decide +kernel
theorem dX9_isLike_32 : decode cX9_isLike 32 = .ok (.iaload, 1) := by decide +kernel
theorem dX9_isLike_33 : decode cX9_isLike 33 = .ok (.if_icmp .eq 5, 3) := by decide +kernel
theorem dX9_isLike_36 : decode cX9_isLike 36 = .ok (.iconst 0, 1) := by decide +kernel
theorem dX9_isLike_37 : decode cX9_isLike 37 = .ok (.ireturn, 1) := by decide +kernel
theorem dX9_isLike_38 : decode cX9_isLike 38 = .ok (.iinc 3 1, 3) := by decide +kernel
theorem dX9_isLike_41 : decode cX9_isLike 41 = .ok (.goto (-39), 3) := by decide +kernel
theorem dX9_isLike_44 : decode cX9_isLike 44 = .ok (.iconst 1, 1) := by decide +kernel
theorem dX9_isLike_45 : decode cX9_isLike 45 = .ok (.ireturn, 1) := by decide +kernel
theorem dX9_doAll_0 : decode cX9_doAll 0 = .ok (.iload_n 1, 1) := by decide +kernel
theorem dX9_doAll_1 : decode cX9_doAll 1 = .ok (.istore_n 3, 1) := by decide +kernel
theorem dX9_doAll_2 : decode cX9_doAll 2 = .ok (.iload_n 3, 1) := by decide +kernel
theorem dX9_doAll_3 : decode cX9_doAll 3 = .ok (.iload_n 2, 1) := by decide +kernel
theorem dX9_doAll_4 : decode cX9_doAll 4 = .ok (.if_icmp .ge 14, 3) := by decide +kernel
theorem dX9_doAll_7 : decode cX9_doAll 7 = .ok (.aload_n 0, 1) := by decide +kernel
theorem dX9_doAll_8 : decode cX9_doAll 8 = .ok (.iload_n 3, 1) := by decide +kernel
theorem dX9_doAll_9 : decode cX9_doAll 9 = .ok (.invokevirtual 198, 3) := by decide +kernel
theorem dX9_doAll_12 : decode cX9_doAll 12 = .ok (.iinc 3 1, 3) := by decide +kernel
theorem dX9_doAll_15 : decode cX9_doAll 15 = .ok (.goto (-13), 3) := by decide +kernel
theorem dX9_doAll_18 : decode cX9_doAll 18 = .ok (.return_, 1) := by decide +kernel
theorem dX9_widen_0 : decode cX9_widen 0 = .ok (.aload_n 0, 1) := by decide +kernel
theorem dX9_widen_1 : decode cX9_widen 1 = .ok (.bipush 8, 2) := by decide +kernel
theorem dX9_widen_3 : decode cX9_widen 3 = .ok (.aload_n 0, 1) := by decide +kernel
theorem dX9_widen_4 : decode cX9_widen 4 = .ok (.getfield 26, 3) := by decide +kernel
theorem dX9_widen_7 : decode cX9_widen 7 = .ok (.invokevirtual 191, 3) := by decide +kernel
theorem dX9_widen_10 : decode cX9_widen 10 = .ok (.iconst 0, 1) := by decide +kernel
theorem dX9_widen_11 : decode cX9_widen 11 = .ok (.istore_n 2, 1) := by decide +kernel
theorem dX9_widen_12 : decode cX9_widen 12 = .ok (.iload_n 2, 1) := by decide +kernel
theorem dX9_widen_13 : decode cX9_widen 13 = .ok (.bipush 36, 2) := by decide +kernel
theorem dX9_widen_15 : decode cX9_widen 15 = .ok (.if_icmp .ge 54, 3) := by decide +kernel
theorem dX9_widen_18 : decode cX9_widen 18 = .ok (.aload_n 0, 1) := by decide +kernel
theorem dX9_widen_19 : decode cX9_widen 19 = .ok (.getfield 32, 3) := by decide +kernel
theorem dX9_widen_22 : decode cX9_widen 22 = .ok (.iload_n 2, 1) := by decide +kernel
theorem dX9_widen_23 : decode cX9_widen 23 = .ok (.iload_n 1, 1) := by decide +kernel
theorem dX9_widen_24 : decode cX9_widen 24 = .ok (.ifCond .eq 12, 3) := by decide +kernel
theorem dX9_widen_27 : decode cX9_widen 27 = .ok (.aload_n 0, 1) := by decide +kernel
theorem dX9_widen_28 : decode cX9_widen 28 = .ok (.getfield 26, 3) := by decide +kernel
theorem dX9_widen_31 : decode cX9_widen 31 = .ok (.iload_n 2, 1) := by decide +kernel
theorem dX9_widen_32 : decode cX9_widen 32 = .ok (.iaload, 1) := by decide +kernel
theorem dX9_widen_33 : decode cX9_widen 33 = .ok (.goto 29, 3) := by decide +kernel
theorem dX9_widen_36 : decode cX9_widen 36 = .ok (.aload_n 0, 1) := by decide +kernel
theorem dX9_widen_37 : decode cX9_widen 37 = .ok (.getfield 32, 3) := by decide +kernel
theorem dX9_widen_40 : decode cX9_widen 40 = .ok (.iload_n 2, 1) := by decide +kernel
theorem dX9_widen_41 : decode cX9_widen 41 = .ok (.iaload, 1) := by decide +kernel
theorem dX9_widen_42 : decode cX9_widen 42 = .ok (.aload_n 0, 1) := by decide +kernel
theorem dX9_widen_43 : decode cX9_widen 43 = .ok (.getfield 26, 3) := by decide +kernel
theorem dX9_widen_46 : decode cX9_widen 46 = .ok (.iload_n 2, 1) := by decide +kernel
theorem dX9_widen_47 : decode cX9_widen 47 = .ok (.iaload, 1) := by decide +kernel
theorem dX9_widen_48 : decode cX9_widen 48 = .ok (.if_icmp .ge 8, 3) := by decide +kernel
theorem dX9_widen_51 : decode cX9_widen 51 = .ok (.bipush 16, 2) := by decide +kernel
theorem dX9_widen_53 : decode cX9_widen 53 = .ok (.goto 9, 3) := by decide +kernel
theorem dX9_widen_56 : decode cX9_widen 56 = .ok (.aload_n 0, 1) := by decide +kernel
theorem dX9_widen_57 : decode cX9_widen 57 = .ok (.getfield 32, 3) := by decide +kernel
theorem dX9_widen_60 : decode cX9_widen 60 = .ok (.iload_n 2, 1) := by decide +kernel
theorem dX9_widen_61 : decode cX9_widen 61 = .ok (.iaload, 1) := by decide +kernel
theorem dX9_widen_62 : decode cX9_widen 62 = .ok (.iastore, 1) := by decide +kernel
theorem dX9_widen_63 : decode cX9_widen 63 = .ok (.iinc 2 1, 3) := by decide +kernel
theorem dX9_widen_66 : decode cX9_widen 66 = .ok (.goto (-54), 3) := by decide +kernel
theorem dX9_widen_69 : decode cX9_widen 69 = .ok (.return_, 1) := by decide +kernel
theorem dX9_doLoop_0 : decode cX9_doLoop 0 = .ok (.aload_n 0, 1) := by decide +kernel
theorem dX9_doLoop_1 : decode cX9_doLoop 1 = .ok (.iload_n 1, 1) := by decide +kernel
theorem dX9_doLoop_2 : decode cX9_doLoop 2 = .ok (.invokevirtual 149, 3) := by decide +kernel
theorem dX9_doLoop_5 : decode cX9_doLoop 5 = .ok (.istore_n 2, 1) := by decide +kernel
theorem dX9_doLoop_6 : decode cX9_doLoop 6 = .ok (.aload_n 0, 1) := by decide +kernel
theorem dX9_doLoop_7 : decode cX9_doLoop 7 = .ok (.iload_n 2, 1) := by decide +kernel
theorem dX9_doLoop_8 : decode cX9_doLoop 8 = .ok (.bipush 7, 2) := by decide +kernel
theorem dX9_doLoop_10 : decode cX9_doLoop 10 = .ok (.invokevirtual 188, 3) := by decide +kernel
theorem dX9_doLoop_13 : decode cX9_doLoop 13 = .ok (.aload_n 0, 1) := by decide +kernel
theorem dX9_doLoop_14 : decode cX9_doLoop 14 = .ok (.bipush 7, 2) := by decide +kernel
theorem dX9_doLoop_16 : decode cX9_doLoop 16 = .ok (.invokevirtual 185, 3) := by decide +kernel
theorem dX9_doLoop_19 : decode cX9_doLoop 19 = .ok (.ifCond .ne 7, 3) := by decide +kernel
theorem dX9_doLoop_22 : decode cX9_doLoop 22 = .ok (.iconst 1, 1) := by decide +kernel
theorem dX9_doLoop_23 : decode cX9_doLoop 23 = .ok (.goto 4, 3) := by decide +kernel
theorem dX9_doLoop_26 : decode cX9_doLoop 26 = .ok (.iconst 0, 1) := by decide +kernel
theorem dX9_doLoop_27 : decode cX9_doLoop 27 = .ok (.istore_n 3, 1) := by decide +kernel
theorem dX9_doLoop_28 : decode cX9_doLoop 28 = .ok (.aload_n 0, 1) := by decide +kernel
theorem dX9_doLoop_29 : decode cX9_doLoop 29 = .ok (.bipush 7, 2) := by decide +kernel
theorem dX9_doLoop_31 : decode cX9_doLoop 31 = .ok (.aload_n 0, 1) := by decide +kernel
theorem dX9_doLoop_32 : decode cX9_doLoop 32 = .ok (.getfield 32, 3) := by decide +kernel
theorem dX9_doLoop_35 : decode cX9_doLoop 35 = .ok (.invokevirtual 191, 3) := by decide +kernel
theorem dX9_doLoop_38 : decode cX9_doLoop 38 = .ok (.aload_n 0, 1) := by decide +kernel
theorem dX9_doLoop_39 : decode cX9_doLoop 39 = .ok (.iload_n 2, 1) := by decide +kernel
theorem dX9_doLoop_40 : decode cX9_doLoop 40 = .ok (.iload_n 1, 1) := by decide +kernel
theorem dX9_doLoop_41 : decode cX9_doLoop 41 = .ok (.invokevirtual 202, 3) := by decide +kernel
theorem dX9_doLoop_44 : decode cX9_doLoop 44 = .ok (.aload_n 0, 1) := by decide +kernel
theorem dX9_doLoop_45 : decode cX9_doLoop 45 = .ok (.iload_n 2, 1) := by decide +kernel
theorem dX9_doLoop_46 : decode cX9_doLoop 46 = .ok (.iload_n 1, 1) := by decide +kernel
theorem dX9_doLoop_47 : decode cX9_doLoop 47 = .ok (.bipush 8, 2) := by decide +kernel
theorem dX9_doLoop_49 : decode cX9_doLoop 49 = .ok (.invokevirtual 205, 3) := by decide +kernel
theorem dX9_doLoop_52 : decode cX9_doLoop 52 = .ok (.aload_n 0, 1) := by decide +kernel
theorem dX9_doLoop_53 : decode cX9_doLoop 53 = .ok (.bipush 8, 2) := by decide +kernel
theorem dX9_doLoop_55 : decode cX9_doLoop 55 = .ok (.iload_n 2, 1) := by decide +kernel
theorem dX9_doLoop_56 : decode cX9_doLoop 56 = .ok (.invokevirtual 208, 3) := by decide +kernel
theorem dX9_doLoop_59 : decode cX9_doLoop 59 = .ok (.ifCond .ne 46, 3) := by decide +kernel
theorem dX9_doLoop_62 : decode cX9_doLoop 62 = .ok (.aload_n 0, 1) := by decide +kernel
theorem dX9_doLoop_63 : decode cX9_doLoop 63 = .ok (.dup, 1) := by decide +kernel
theorem dX9_doLoop_64 : decode cX9_doLoop 64 = .ok (.getfield 212, 3) := by decide +kernel
theorem dX9_doLoop_67 : decode cX9_doLoop 67 = .ok (.iconst 1, 1) := by decide +kernel
theorem dX9_doLoop_68 : decode cX9_doLoop 68 = .ok (.iadd, 1) := by decide +kernel
theorem dX9_doLoop_69 : decode cX9_doLoop 69 = .ok (.putfield 212, 3) := by decide +kernel
theorem dX9_doLoop_72 : decode cX9_doLoop 72 = .ok (.aload_n 0, 1) := by decide +kernel
theorem dX9_doLoop_73 : decode cX9_doLoop 73 = .ok (.iload_n 3, 1) := by decide +kernel
theorem dX9_doLoop_74 : decode cX9_doLoop 74 = .ok (.invokevirtual 215, 3) := by decide +kernel
theorem dX9_doLoop_77 : decode cX9_doLoop 77 = .ok (.iconst 0, 1) := by decide +kernel
theorem dX9_doLoop_78 : decode cX9_doLoop 78 = .ok (.istore_n 3, 1) := by decide +kernel
theorem dX9_doLoop_79 : decode cX9_doLoop 79 = .ok (.aload_n 0, 1) := by decide +kernel
theorem dX9_doLoop_80 : decode cX9_doLoop 80 = .ok (.aload_n 0, 1) := by decide +kernel
theorem dX9_doLoop_81 : decode cX9_doLoop 81 = .ok (.getfield 32, 3) := by decide +kernel
theorem dX9_doLoop_84 : decode cX9_doLoop 84 = .ok (.iload_n 2, 1) := by decide +kernel
theorem dX9_doLoop_85 : decode cX9_doLoop 85 = .ok (.invokevirtual 194, 3) := by decide +kernel
theorem dX9_doLoop_88 : decode cX9_doLoop 88 = .ok (.aload_n 0, 1) := by decide +kernel
theorem dX9_doLoop_89 : decode cX9_doLoop 89 = .ok (.iload_n 2, 1) := by decide +kernel
theorem dX9_doLoop_90 : decode cX9_doLoop 90 = .ok (.iload_n 1, 1) := by decide +kernel
theorem dX9_doLoop_91 : decode cX9_doLoop 91 = .ok (.invokevirtual 202, 3) := by decide +kernel
theorem dX9_doLoop_94 : decode cX9_doLoop 94 = .ok (.aload_n 0, 1) := by decide +kernel
theorem dX9_doLoop_95 : decode cX9_doLoop 95 = .ok (.iload_n 2, 1) := by decide +kernel
theorem dX9_doLoop_96 : decode cX9_doLoop 96 = .ok (.iload_n 1, 1) := by decide +kernel
theorem dX9_doLoop_97 : decode cX9_doLoop 97 = .ok (.bipush 8, 2) := by decide +kernel
theorem dX9_doLoop_99 : decode cX9_doLoop 99 = .ok (.invokevirtual 205, 3) := by decide +kernel
theorem dX9_doLoop_102 : decode cX9_doLoop 102 = .ok (.goto (-50), 3) := by decide +kernel
theorem dX9_doLoop_105 : decode cX9_doLoop 105 = .ok (.aload_n 0, 1) := by decide +kernel
theorem dX9_doLoop_106 : decode cX9_doLoop 106 = .ok (.bipush 7, 2) := by decide +kernel
theorem dX9_doLoop_108 : decode cX9_doLoop 108 = .ok (.iload_n 1, 1) := by decide +kernel
theorem dX9_doLoop_109 : decode cX9_doLoop 109 = .ok (.bipush 8, 2) := by decide +kernel
theorem dX9_doLoop_111 : decode cX9_doLoop 111 = .ok (.invokevirtual 205, 3) := by decide +kernel
theorem dX9_doLoop_114 : decode cX9_doLoop 114 = .ok (.aload_n 0, 1) := by decide +kernel
theorem dX9_doLoop_115 : decode cX9_doLoop 115 = .ok (.bipush 8, 2) := by decide +kernel
theorem dX9_doLoop_117 : decode cX9_doLoop 117 = .ok (.iload_n 2, 1) := by decide +kernel
theorem dX9_doLoop_118 : decode cX9_doLoop 118 = .ok (.invokevirtual 188, 3) := by decide +kernel
theorem dX9_doLoop_121 : decode cX9_doLoop 121 = .ok (.aload_n 0, 1) := by decide +kernel
theorem dX9_doLoop_122 : decode cX9_doLoop 122 = .ok (.iload_n 2, 1) := by decide +kernel
theorem dX9_doLoop_123 : decode cX9_doLoop 123 = .ok (.iload_n 1, 1) := by decide +kernel
theorem dX9_doLoop_124 : decode cX9_doLoop 124 = .ok (.invokevirtual 202, 3) := by decide +kernel
theorem dX9_doLoop_127 : decode cX9_doLoop 127 = .ok (.aload_n 0, 1) := by decide +kernel
theorem dX9_doLoop_128 : decode cX9_doLoop 128 = .ok (.iload_n 2, 1) := by decide +kernel
theorem dX9_doLoop_129 : decode cX9_doLoop 129 = .ok (.iload_n 1, 1) := by decide +kernel
theorem dX9_doLoop_130 : decode cX9_doLoop 130 = .ok (.iconst 1, 1) := by decide +kernel
theorem dX9_doLoop_131 : decode cX9_doLoop 131 = .ok (.iadd, 1) := by decide +kernel
theorem dX9_doLoop_132 : decode cX9_doLoop 132 = .ok (.invokevirtual 188, 3) := by decide +kernel
theorem dX9_doLoop_135 : decode cX9_doLoop 135 = .ok (.return_, 1) := by decide +kernel
