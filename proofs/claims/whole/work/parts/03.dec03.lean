theorem dX8_put_0 : decode cX8_put 0 = .ok (.iload_n 1, 1) := by decide +kernel
theorem dX8_put_1 : decode cX8_put 1 = .ok (.ifCond .lt 14, 3) := by decide +kernel
theorem dX8_put_4 : decode cX8_put 4 = .ok (.iload_n 1, 1) := by decide +kernel
theorem dX8_put_5 : decode cX8_put 5 = .ok (.aload_n 0, 1) := by decide +kernel
theorem dX8_put_6 : decode cX8_put 6 = .ok (.getfield 26, 3) := by decide +kernel
theorem dX8_put_9 : decode cX8_put 9 = .ok (.getfield 105, 3) := by decide +kernel
theorem dX8_put_12 : decode cX8_put 12 = .ok (.if_icmp .le 6, 3) := by decide +kernel
theorem dX8_put_15 : decode cX8_put 15 = .ok (.bipush (-101), 2) := by decide +kernel
theorem dX8_put_17 : decode cX8_put 17 = .ok (.ireturn, 1) := by decide +kernel
theorem dX8_put_18 : decode cX8_put 18 = .ok (.iload_n 2, 1) := by decide +kernel
theorem dX8_put_19 : decode cX8_put 19 = .ok (.iload_n 3, 1) := by decide +kernel
theorem dX8_put_20 : decode cX8_put 20 = .ok (.iload 4, 2) := by decide +kernel
theorem dX8_put_22 : decode cX8_put 22 = .ok (.iload 5, 2) := by decide +kernel
theorem dX8_put_24 : decode cX8_put 24 = .ok (.invokestatic 196, 3) := by decide +kernel
theorem dX8_put_27 : decode cX8_put 27 = .ok (.ifCond .ne 6, 3) := by decide +kernel
theorem dX8_put_30 : decode cX8_put 30 = .ok (.bipush (-102), 2) := by decide +kernel
theorem dX8_put_32 : decode cX8_put 32 = .ok (.ireturn, 1) := by decide +kernel
theorem dX8_put_33 : decode cX8_put 33 = .ok (.aload_n 0, 1) := by decide +kernel
theorem dX8_put_34 : decode cX8_put 34 = .ok (.getfield 26, 3) := by decide +kernel
theorem dX8_put_37 : decode cX8_put 37 = .ok (.getfield 105, 3) := by decide +kernel
theorem dX8_put_40 : decode cX8_put 40 = .ok (.ifCond .ne 6, 3) := by decide +kernel
theorem dX8_put_43 : decode cX8_put 43 = .ok (.bipush (-103), 2) := by decide +kernel
theorem dX8_put_45 : decode cX8_put 45 = .ok (.ireturn, 1) := by decide +kernel
theorem dX8_put_46 : decode cX8_put 46 = .ok (.aload_n 0, 1) := by decide +kernel
theorem dX8_put_47 : decode cX8_put 47 = .ok (.getfield 26, 3) := by decide +kernel
theorem dX8_put_50 : decode cX8_put 50 = .ok (.getfield 105, 3) := by decide +kernel
theorem dX8_put_53 : decode cX8_put 53 = .ok (.bipush 6, 2) := by decide +kernel
theorem dX8_put_55 : decode cX8_put 55 = .ok (.if_icmp .lt 6, 3) := by decide +kernel
theorem dX8_put_58 : decode cX8_put 58 = .ok (.bipush (-104), 2) := by decide +kernel
theorem dX8_put_60 : decode cX8_put 60 = .ok (.ireturn, 1) := by decide +kernel
theorem dX8_put_61 : decode cX8_put 61 = .ok (.iload_n 2, 1) := by decide +kernel
theorem dX8_put_62 : decode cX8_put 62 = .ok (.invokestatic 200, 3) := by decide +kernel
theorem dX8_put_65 : decode cX8_put 65 = .ok (.ifCond .eq 8, 3) := by decide +kernel
theorem dX8_put_68 : decode cX8_put 68 = .ok (.iload 4, 2) := by decide +kernel
theorem dX8_put_70 : decode cX8_put 70 = .ok (.goto 4, 3) := by decide +kernel
theorem dX8_put_73 : decode cX8_put 73 = .ok (.iconst (-1), 1) := by decide +kernel
theorem dX8_put_74 : decode cX8_put 74 = .ok (.istore 6, 2) := by decide +kernel
theorem dX8_put_76 : decode cX8_put 76 = .ok (.iload_n 2, 1) := by decide +kernel
theorem dX8_put_77 : decode cX8_put 77 = .ok (.invokestatic 120, 3) := by decide +kernel
theorem dX8_put_80 : decode cX8_put 80 = .ok (.ifCond .eq 8, 3) := by decide +kernel
theorem dX8_put_83 : decode cX8_put 83 = .ok (.iload 5, 2) := by decide +kernel
theorem dX8_put_85 : decode cX8_put 85 = .ok (.goto 4, 3) := by decide +kernel
theorem dX8_put_88 : decode cX8_put 88 = .ok (.iconst 0, 1) := by decide +kernel
theorem dX8_put_89 : decode cX8_put 89 = .ok (.istore 7, 2) := by decide +kernel
theorem dX8_put_91 : decode cX8_put 91 = .ok (.aload_n 0, 1) := by decide +kernel
theorem dX8_put_92 : decode cX8_put 92 = .ok (.getfield 26, 3) := by decide +kernel
theorem dX8_put_95 : decode cX8_put 95 = .ok (.iload_n 1, 1) := by decide +kernel
theorem dX8_put_96 : decode cX8_put 96 = .ok (.iload_n 2, 1) := by decide +kernel
theorem dX8_put_97 : decode cX8_put 97 = .ok (.iload_n 3, 1) := by decide +kernel
theorem dX8_put_98 : decode cX8_put 98 = .ok (.iload 6, 2) := by decide +kernel
theorem dX8_put_100 : decode cX8_put 100 = .ok (.iload 7, 2) := by decide +kernel
theorem dX8_put_102 : decode cX8_put 102 = .ok (.invokevirtual 203, 3) := by decide +kernel
theorem dX8_put_105 : decode cX8_put 105 = .ok (.aload_n 0, 1) := by decide +kernel
theorem dX8_put_106 : decode cX8_put 106 = .ok (.invokevirtual 102, 3) := by decide +kernel
theorem dX8_put_109 : decode cX8_put 109 = .ok (.aload_n 0, 1) := by decide +kernel
theorem dX8_put_110 : decode cX8_put 110 = .ok (.getfield 26, 3) := by decide +kernel
theorem dX8_put_113 : decode cX8_put 113 = .ok (.getfield 105, 3) := by decide +kernel
theorem dX8_put_116 : decode cX8_put 116 = .ok (.ireturn, 1) := by decide +kernel
theorem dX8_take_0 : decode cX8_take 0 = .ok (.aload_n 0, 1) := by decide +kernel
theorem dX8_take_1 : decode cX8_take 1 = .ok (.iload_n 1, 1) := by decide +kernel
theorem dX8_take_2 : decode cX8_take 2 = .ok (.invokevirtual 106, 3) := by decide +kernel
theorem dX8_take_5 : decode cX8_take 5 = .ok (.ifCond .ne 6, 3) := by decide +kernel
theorem dX8_take_8 : decode cX8_take 8 = .ok (.bipush (-101), 2) := by decide +kernel
theorem dX8_take_10 : decode cX8_take 10 = .ok (.ireturn, 1) := by decide +kernel
theorem dX8_take_11 : decode cX8_take 11 = .ok (.aload_n 0, 1) := by decide +kernel
theorem dX8_take_12 : decode cX8_take 12 = .ok (.getfield 26, 3) := by decide +kernel
theorem dX8_take_15 : decode cX8_take 15 = .ok (.getfield 105, 3) := by decide +kernel
theorem dX8_take_18 : decode cX8_take 18 = .ok (.iconst 1, 1) := by decide +kernel
theorem dX8_take_19 : decode cX8_take 19 = .ok (.if_icmp .eq 14, 3) := by decide +kernel
theorem dX8_take_22 : decode cX8_take 22 = .ok (.aload_n 0, 1) := by decide +kernel
theorem dX8_take_23 : decode cX8_take 23 = .ok (.getfield 26, 3) := by decide +kernel
theorem dX8_take_26 : decode cX8_take 26 = .ok (.iload_n 1, 1) := by decide +kernel
theorem dX8_take_27 : decode cX8_take 27 = .ok (.invokevirtual 207, 3) := by decide +kernel
theorem dX8_take_30 : decode cX8_take 30 = .ok (.ifCond .eq 6, 3) := by decide +kernel
theorem dX8_take_33 : decode cX8_take 33 = .ok (.bipush (-103), 2) := by decide +kernel
theorem dX8_take_35 : decode cX8_take 35 = .ok (.ireturn, 1) := by decide +kernel
theorem dX8_take_36 : decode cX8_take 36 = .ok (.aload_n 0, 1) := by decide +kernel
theorem dX8_take_37 : decode cX8_take 37 = .ok (.getfield 26, 3) := by decide +kernel
theorem dX8_take_40 : decode cX8_take 40 = .ok (.iload_n 1, 1) := by decide +kernel
theorem dX8_take_41 : decode cX8_take 41 = .ok (.invokevirtual 210, 3) := by decide +kernel
theorem dX8_take_44 : decode cX8_take 44 = .ok (.aload_n 0, 1) := by decide +kernel
theorem dX8_take_45 : decode cX8_take 45 = .ok (.invokevirtual 102, 3) := by decide +kernel
theorem dX8_take_48 : decode cX8_take 48 = .ok (.aload_n 0, 1) := by decide +kernel
theorem dX8_take_49 : decode cX8_take 49 = .ok (.getfield 26, 3) := by decide +kernel
theorem dX8_take_52 : decode cX8_take 52 = .ok (.getfield 105, 3) := by decide +kernel
theorem dX8_take_55 : decode cX8_take 55 = .ok (.ireturn, 1) := by decide +kernel
theorem dX8_by_0 : decode cX8_by 0 = .ok (.aload_n 0, 1) := by decide +kernel
theorem dX8_by_1 : decode cX8_by 1 = .ok (.iload_n 1, 1) := by decide +kernel
theorem dX8_by_2 : decode cX8_by 2 = .ok (.invokevirtual 106, 3) := by decide +kernel
theorem dX8_by_5 : decode cX8_by 5 = .ok (.ifCond .ne 6, 3) := by decide +kernel
theorem dX8_by_8 : decode cX8_by 8 = .ok (.bipush (-101), 2) := by decide +kernel
theorem dX8_by_10 : decode cX8_by 10 = .ok (.ireturn, 1) := by decide +kernel
theorem dX8_by_11 : decode cX8_by 11 = .ok (.iload_n 2, 1) := by decide +kernel
theorem dX8_by_12 : decode cX8_by 12 = .ok (.invokestatic 213, 3) := by decide +kernel
theorem dX8_by_15 : decode cX8_by 15 = .ok (.ifCond .ne 6, 3) := by decide +kernel
theorem dX8_by_18 : decode cX8_by 18 = .ok (.bipush (-102), 2) := by decide +kernel
theorem dX8_by_20 : decode cX8_by 20 = .ok (.ireturn, 1) := by decide +kernel
theorem dX8_by_21 : decode cX8_by 21 = .ok (.aload_n 0, 1) := by decide +kernel
theorem dX8_by_22 : decode cX8_by 22 = .ok (.getfield 26, 3) := by decide +kernel
theorem dX8_by_25 : decode cX8_by 25 = .ok (.getfield 110, 3) := by decide +kernel
theorem dX8_by_28 : decode cX8_by 28 = .ok (.iload_n 1, 1) := by decide +kernel
theorem dX8_by_29 : decode cX8_by 29 = .ok (.iaload, 1) := by decide +kernel
theorem dX8_by_30 : decode cX8_by 30 = .ok (.invokestatic 120, 3) := by decide +kernel
theorem dX8_by_33 : decode cX8_by 33 = .ok (.ifCond .ne 6, 3) := by decide +kernel
theorem dX8_by_36 : decode cX8_by 36 = .ok (.bipush (-103), 2) := by decide +kernel
theorem dX8_by_38 : decode cX8_by 38 = .ok (.ireturn, 1) := by decide +kernel
theorem dX8_by_39 : decode cX8_by 39 = .ok (.aload_n 0, 1) := by decide +kernel
theorem dX8_by_40 : decode cX8_by 40 = .ok (.getfield 26, 3) := by decide +kernel
theorem dX8_by_43 : decode cX8_by 43 = .ok (.getfield 123, 3) := by decide +kernel
theorem dX8_by_46 : decode cX8_by 46 = .ok (.iload_n 1, 1) := by decide +kernel
theorem dX8_by_47 : decode cX8_by 47 = .ok (.iload_n 2, 1) := by decide +kernel
theorem dX8_by_48 : decode cX8_by 48 = .ok (.iastore, 1) := by decide +kernel
theorem dX8_by_49 : decode cX8_by 49 = .ok (.aload_n 0, 1) := by decide +kernel
theorem dX8_by_50 : decode cX8_by 50 = .ok (.invokevirtual 102, 3) := by decide +kernel
theorem dX8_by_53 : decode cX8_by 53 = .ok (.aload_n 0, 1) := by decide +kernel
theorem dX8_by_54 : decode cX8_by 54 = .ok (.getfield 33, 3) := by decide +kernel
theorem dX8_by_57 : decode cX8_by 57 = .ok (.aload_n 0, 1) := by decide +kernel
theorem dX8_by_58 : decode cX8_by 58 = .ok (.getfield 26, 3) := by decide +kernel
theorem dX8_by_61 : decode cX8_by 61 = .ok (.getfield 105, 3) := by decide +kernel
theorem dX8_by_64 : decode cX8_by 64 = .ok (.invokevirtual 170, 3) := by decide +kernel
theorem dX8_by_67 : decode cX8_by 67 = .ok (.ireturn, 1) := by decide +kernel
theorem dX8_rack_0 : decode cX8_rack 0 = .ok (.aload_n 0, 1) := by decide +kernel
theorem dX8_rack_1 : decode cX8_rack 1 = .ok (.iload_n 1, 1) := by decide +kernel
theorem dX8_rack_2 : decode cX8_rack 2 = .ok (.invokevirtual 106, 3) := by decide +kernel
theorem dX8_rack_5 : decode cX8_rack 5 = .ok (.ifCond .ne 6, 3) := by decide +kernel
theorem dX8_rack_8 : decode cX8_rack 8 = .ok (.bipush (-101), 2) := by decide +kernel
theorem dX8_rack_10 : decode cX8_rack 10 = .ok (.ireturn, 1) := by decide +kernel
theorem dX8_rack_11 : decode cX8_rack 11 = .ok (.iload_n 2, 1) := by decide +kernel
theorem dX8_rack_12 : decode cX8_rack 12 = .ok (.invokestatic 146, 3) := by decide +kernel
theorem dX8_rack_15 : decode cX8_rack 15 = .ok (.ifCond .ne 6, 3) := by decide +kernel
theorem dX8_rack_18 : decode cX8_rack 18 = .ok (.bipush (-102), 2) := by decide +kernel
theorem dX8_rack_20 : decode cX8_rack 20 = .ok (.ireturn, 1) := by decide +kernel
theorem dX8_rack_21 : decode cX8_rack 21 = .ok (.aload_n 0, 1) := by decide +kernel
theorem dX8_rack_22 : decode cX8_rack 22 = .ok (.getfield 40, 3) := by decide +kernel
theorem dX8_rack_25 : decode cX8_rack 25 = .ok (.getfield 216, 3) := by decide +kernel
theorem dX8_rack_28 : decode cX8_rack 28 = .ok (.iload_n 2, 1) := by decide +kernel
theorem dX8_rack_29 : decode cX8_rack 29 = .ok (.iaload, 1) := by decide +kernel
theorem dX8_rack_30 : decode cX8_rack 30 = .ok (.iconst 3, 1) := by decide +kernel
theorem dX8_rack_31 : decode cX8_rack 31 = .ok (.if_icmp .lt 6, 3) := by decide +kernel
theorem dX8_rack_34 : decode cX8_rack 34 = .ok (.bipush (-104), 2) := by decide +kernel
theorem dX8_rack_36 : decode cX8_rack 36 = .ok (.ireturn, 1) := by decide +kernel
theorem dX8_rack_37 : decode cX8_rack 37 = .ok (.aload_n 0, 1) := by decide +kernel
theorem dX8_rack_38 : decode cX8_rack 38 = .ok (.getfield 26, 3) := by decide +kernel
theorem dX8_rack_41 : decode cX8_rack 41 = .ok (.getfield 110, 3) := by decide +kernel
theorem dX8_rack_44 : decode cX8_rack 44 = .ok (.iload_n 1, 1) := by decide +kernel
theorem dX8_rack_45 : decode cX8_rack 45 = .ok (.iaload, 1) := by decide +kernel
theorem dX8_rack_46 : decode cX8_rack 46 = .ok (.iload_n 2, 1) := by decide +kernel
theorem dX8_rack_47 : decode cX8_rack 47 = .ok (.invokestatic 149, 3) := by decide +kernel
theorem dX8_rack_50 : decode cX8_rack 50 = .ok (.ifCond .ne 5, 3) := by decide +kernel
theorem dX8_rack_53 : decode cX8_rack 53 = .ok (.iconst (-1), 1) := by decide +kernel
theorem dX8_rack_54 : decode cX8_rack 54 = .ok (.ireturn, 1) := by decide +kernel
theorem dX8_rack_55 : decode cX8_rack 55 = .ok (.aload_n 0, 1) := by decide +kernel
theorem dX8_rack_56 : decode cX8_rack 56 = .ok (.getfield 40, 3) := by decide +kernel
theorem dX8_rack_59 : decode cX8_rack 59 = .ok (.iload_n 2, 1) := by decide +kernel
theorem dX8_rack_60 : decode cX8_rack 60 = .ok (.iload_n 1, 1) := by decide +kernel
theorem dX8_rack_61 : decode cX8_rack 61 = .ok (.invokevirtual 219, 3) := by decide +kernel
theorem dX8_rack_64 : decode cX8_rack 64 = .ok (.ireturn, 1) := by decide +kernel
theorem dX8_racked_0 : decode cX8_racked 0 = .ok (.iload_n 1, 1) := by decide +kernel
theorem dX8_racked_1 : decode cX8_racked 1 = .ok (.invokestatic 146, 3) := by decide +kernel
theorem dX8_racked_4 : decode cX8_racked 4 = .ok (.ifCond .eq 12, 3) := by decide +kernel
theorem dX8_racked_7 : decode cX8_racked 7 = .ok (.iload_n 2, 1) := by decide +kernel
theorem dX8_racked_8 : decode cX8_racked 8 = .ok (.ifCond .lt 8, 3) := by decide +kernel
theorem dX8_racked_11 : decode cX8_racked 11 = .ok (.iload_n 2, 1) := by decide +kernel
theorem dX8_racked_12 : decode cX8_racked 12 = .ok (.iconst 3, 1) := by decide +kernel
theorem dX8_racked_13 : decode cX8_racked 13 = .ok (.if_icmp .lt 6, 3) := by decide +kernel
theorem dX8_racked_16 : decode cX8_racked 16 = .ok (.bipush (-102), 2) := by decide +kernel
theorem dX8_racked_18 : decode cX8_racked 18 = .ok (.ireturn, 1) := by decide +kernel
theorem dX8_racked_19 : decode cX8_racked 19 = .ok (.aload_n 0, 1) := by decide +kernel
theorem dX8_racked_20 : decode cX8_racked 20 = .ok (.getfield 40, 3) := by decide +kernel
theorem dX8_racked_23 : decode cX8_racked 23 = .ok (.iload_n 1, 1) := by decide +kernel
theorem dX8_racked_24 : decode cX8_racked 24 = .ok (.iload_n 2, 1) := by decide +kernel
theorem dX8_racked_25 : decode cX8_racked 25 = .ok (.invokevirtual 222, 3) := by decide +kernel
theorem dX8_racked_28 : decode cX8_racked 28 = .ok (.ireturn, 1) := by decide +kernel
theorem dX8_see_0 : decode cX8_see 0 = .ok (.aload_n 0, 1) := by decide +kernel
theorem dX8_see_1 : decode cX8_see 1 = .ok (.iload_n 1, 1) := by decide +kernel
theorem dX8_see_2 : decode cX8_see 2 = .ok (.invokevirtual 106, 3) := by decide +kernel
theorem dX8_see_5 : decode cX8_see 5 = .ok (.ifCond .ne 6, 3) := by decide +kernel
theorem dX8_see_8 : decode cX8_see 8 = .ok (.bipush (-101), 2) := by decide +kernel
theorem dX8_see_10 : decode cX8_see 10 = .ok (.ireturn, 1) := by decide +kernel
theorem dX8_see_11 : decode cX8_see 11 = .ok (.iload_n 2, 1) := by decide +kernel
theorem dX8_see_12 : decode cX8_see 12 = .ok (.ifCond .lt 8, 3) := by decide +kernel
theorem dX8_see_15 : decode cX8_see 15 = .ok (.iload_n 2, 1) := by decide +kernel
theorem dX8_see_16 : decode cX8_see 16 = .ok (.iconst 4, 1) := by decide +kernel
theorem dX8_see_17 : decode cX8_see 17 = .ok (.if_icmp .lt 6, 3) := by decide +kernel
theorem dX8_see_20 : decode cX8_see 20 = .ok (.bipush (-102), 2) := by decide +kernel
theorem dX8_see_22 : decode cX8_see 22 = .ok (.ireturn, 1) := by decide +kernel
theorem dX8_see_23 : decode cX8_see 23 = .ok (.aload_n 0, 1) := by decide +kernel
theorem dX8_see_24 : decode cX8_see 24 = .ok (.getfield 47, 3) := by decide +kernel
theorem dX8_see_27 : decode cX8_see 27 = .ok (.getfield 101, 3) := by decide +kernel
theorem dX8_see_30 : decode cX8_see 30 = .ok (.bipush 6, 2) := by decide +kernel
theorem dX8_see_32 : decode cX8_see 32 = .ok (.if_icmp .lt 6, 3) := by decide +kernel
theorem dX8_see_35 : decode cX8_see 35 = .ok (.bipush (-104), 2) := by decide +kernel
theorem dX8_see_37 : decode cX8_see 37 = .ok (.ireturn, 1) := by decide +kernel
theorem dX8_see_38 : decode cX8_see 38 = .ok (.aload_n 0, 1) := by decide +kernel
theorem dX8_see_39 : decode cX8_see 39 = .ok (.getfield 47, 3) := by decide +kernel
theorem dX8_see_42 : decode cX8_see 42 = .ok (.iload_n 1, 1) := by decide +kernel
theorem dX8_see_43 : decode cX8_see 43 = .ok (.iload_n 2, 1) := by decide +kernel
theorem dX8_see_44 : decode cX8_see 44 = .ok (.iload_n 3, 1) := by decide +kernel
theorem dX8_see_45 : decode cX8_see 45 = .ok (.invokevirtual 225, 3) := by decide +kernel
theorem dX8_see_48 : decode cX8_see 48 = .ok (.aload_n 0, 1) := by decide +kernel
theorem dX8_see_49 : decode cX8_see 49 = .ok (.getfield 47, 3) := by decide +kernel
theorem dX8_see_52 : decode cX8_see 52 = .ok (.getfield 101, 3) := by decide +kernel
theorem dX8_see_55 : decode cX8_see 55 = .ok (.ireturn, 1) := by decide +kernel
theorem dX8_forget_0 : decode cX8_forget 0 = .ok (.aload_n 0, 1) := by decide +kernel
theorem dX8_forget_1 : decode cX8_forget 1 = .ok (.getfield 47, 3) := by decide +kernel
theorem dX8_forget_4 : decode cX8_forget 4 = .ok (.getfield 101, 3) := by decide +kernel
theorem dX8_forget_7 : decode cX8_forget 7 = .ok (.istore_n 1, 1) := by decide +kernel
theorem dX8_forget_8 : decode cX8_forget 8 = .ok (.aload_n 0, 1) := by decide +kernel
theorem dX8_forget_9 : decode cX8_forget 9 = .ok (.getfield 47, 3) := by decide +kernel
theorem dX8_forget_12 : decode cX8_forget 12 = .ok (.iconst 0, 1) := by decide +kernel
theorem dX8_forget_13 : decode cX8_forget 13 = .ok (.putfield 101, 3) := by decide +kernel
theorem dX8_forget_16 : decode cX8_forget 16 = .ok (.iload_n 1, 1) := by decide +kernel
theorem dX8_forget_17 : decode cX8_forget 17 = .ok (.ireturn, 1) := by decide +kernel
theorem dX8_drawn_0 : decode cX8_drawn 0 = .ok (.iload_n 1, 1) := by decide +kernel
theorem dX8_drawn_1 : decode cX8_drawn 1 = .ok (.iconst 1, 1) := by decide +kernel
theorem dX8_drawn_2 : decode cX8_drawn 2 = .ok (.if_icmp .lt 22, 3) := by decide +kernel
theorem dX8_drawn_5 : decode cX8_drawn 5 = .ok (.iload_n 1, 1) := by decide +kernel
theorem dX8_drawn_6 : decode cX8_drawn 6 = .ok (.bipush 8, 2) := by decide +kernel
theorem dX8_drawn_8 : decode cX8_drawn 8 = .ok (.if_icmp .gt 16, 3) := by decide +kernel
theorem dX8_drawn_11 : decode cX8_drawn 11 = .ok (.iload_n 2, 1) := by decide +kernel
theorem dX8_drawn_12 : decode cX8_drawn 12 = .ok (.ifCond .lt 12, 3) := by decide +kernel
theorem dX8_drawn_15 : decode cX8_drawn 15 = .ok (.iload_n 3, 1) := by decide +kernel
theorem dX8_drawn_16 : decode cX8_drawn 16 = .ok (.ifCond .lt 8, 3) := by decide +kernel
theorem dX8_drawn_19 : decode cX8_drawn 19 = .ok (.iload_n 3, 1) := by decide +kernel
theorem dX8_drawn_20 : decode cX8_drawn 20 = .ok (.iconst 2, 1) := by decide +kernel
theorem dX8_drawn_21 : decode cX8_drawn 21 = .ok (.if_icmp .le 6, 3) := by decide +kernel
theorem dX8_drawn_24 : decode cX8_drawn 24 = .ok (.bipush (-102), 2) := by decide +kernel
theorem dX8_drawn_26 : decode cX8_drawn 26 = .ok (.ireturn, 1) := by decide +kernel
theorem dX8_drawn_27 : decode cX8_drawn 27 = .ok (.iconst 0, 1) := by decide +kernel
theorem dX8_drawn_28 : decode cX8_drawn 28 = .ok (.istore 4, 2) := by decide +kernel
theorem dX8_drawn_30 : decode cX8_drawn 30 = .ok (.iconst 0, 1) := by decide +kernel
theorem dX8_drawn_31 : decode cX8_drawn 31 = .ok (.istore 5, 2) := by decide +kernel
theorem dX8_drawn_33 : decode cX8_drawn 33 = .ok (.aload_n 0, 1) := by decide +kernel
theorem dX8_drawn_34 : decode cX8_drawn 34 = .ok (.getfield 60, 3) := by decide +kernel
theorem dX8_drawn_37 : decode cX8_drawn 37 = .ok (.iload_n 2, 1) := by decide +kernel
theorem dX8_drawn_38 : decode cX8_drawn 38 = .ok (.putfield 228, 3) := by decide +kernel
theorem dX8_drawn_41 : decode cX8_drawn 41 = .ok (.iconst 0, 1) := by decide +kernel
theorem dX8_drawn_42 : decode cX8_drawn 42 = .ok (.istore 6, 2) := by decide +kernel
theorem dX8_drawn_44 : decode cX8_drawn 44 = .ok (.iload 6, 2) := by decide +kernel
theorem dX8_drawn_46 : decode cX8_drawn 46 = .ok (.iload_n 1, 1) := by decide +kernel
theorem dX8_drawn_47 : decode cX8_drawn 47 = .ok (.if_icmp .ge 48, 3) := by decide +kernel
theorem dX8_drawn_50 : decode cX8_drawn 50 = .ok (.aload_n 0, 1) := by decide +kernel
theorem dX8_drawn_51 : decode cX8_drawn 51 = .ok (.getfield 60, 3) := by decide +kernel
theorem dX8_drawn_54 : decode cX8_drawn 54 = .ok (.aload_n 0, 1) := by decide +kernel
theorem dX8_drawn_55 : decode cX8_drawn 55 = .ok (.getfield 67, 3) := by decide +kernel
theorem dX8_drawn_58 : decode cX8_drawn 58 = .ok (.invokevirtual 231, 3) := by decide +kernel
theorem dX8_drawn_61 : decode cX8_drawn 61 = .ok (.aload_n 0, 1) := by decide +kernel
theorem dX8_drawn_62 : decode cX8_drawn 62 = .ok (.getfield 67, 3) := by decide +kernel
theorem dX8_drawn_65 : decode cX8_drawn 65 = .ok (.getfield 163, 3) := by decide +kernel
theorem dX8_drawn_68 : decode cX8_drawn 68 = .ok (.ifCond .eq 6, 3) := by decide +kernel
theorem dX8_drawn_71 : decode cX8_drawn 71 = .ok (.goto 18, 3) := by decide +kernel
theorem dX8_drawn_74 : decode cX8_drawn 74 = .ok (.iinc 4 1, 3) := by decide +kernel
theorem dX8_drawn_77 : decode cX8_drawn 77 = .ok (.iload 5, 2) := by decide +kernel
theorem dX8_drawn_79 : decode cX8_drawn 79 = .ok (.aload_n 0, 1) := by decide +kernel
theorem dX8_drawn_80 : decode cX8_drawn 80 = .ok (.getfield 67, 3) := by decide +kernel
theorem dX8_drawn_83 : decode cX8_drawn 83 = .ok (.invokevirtual 234, 3) := by decide +kernel
theorem dX8_drawn_86 : decode cX8_drawn 86 = .ok (.iadd, 1) := by decide +kernel
theorem dX8_drawn_87 : decode cX8_drawn 87 = .ok (.istore 5, 2) := by decide +kernel
theorem dX8_drawn_89 : decode cX8_drawn 89 = .ok (.iinc 6 1, 3) := by decide +kernel
theorem dX8_drawn_92 : decode cX8_drawn 92 = .ok (.goto (-48), 3) := by decide +kernel
theorem dX8_drawn_95 : decode cX8_drawn 95 = .ok (.iload_n 3, 1) := by decide +kernel
theorem dX8_drawn_96 : decode cX8_drawn 96 = .ok (.ifCond .ne 6, 3) := by decide +kernel
theorem dX8_drawn_99 : decode cX8_drawn 99 = .ok (.iload 4, 2) := by decide +kernel
theorem dX8_drawn_101 : decode cX8_drawn 101 = .ok (.ireturn, 1) := by decide +kernel
theorem dX8_drawn_102 : decode cX8_drawn 102 = .ok (.iload_n 3, 1) := by decide +kernel
theorem dX8_drawn_103 : decode cX8_drawn 103 = .ok (.iconst 1, 1) := by decide +kernel
theorem dX8_drawn_104 : decode cX8_drawn 104 = .ok (.if_icmp .ne 8, 3) := by decide +kernel
theorem dX8_drawn_107 : decode cX8_drawn 107 = .ok (.iload 5, 2) := by decide +kernel
theorem dX8_drawn_109 : decode cX8_drawn 109 = .ok (.goto 10, 3) := by decide +kernel
theorem dX8_drawn_112 : decode cX8_drawn 112 = .ok (.aload_n 0, 1) := by decide +kernel
theorem dX8_drawn_113 : decode cX8_drawn 113 = .ok (.getfield 60, 3) := by decide +kernel
theorem dX8_drawn_116 : decode cX8_drawn 116 = .ok (.getfield 228, 3) := by decide +kernel
theorem dX8_drawn_119 : decode cX8_drawn 119 = .ok (.ireturn, 1) := by decide +kernel
theorem dX8_image_0 : decode cX8_image 0 = .ok (.aload_n 0, 1) := by decide +kernel
theorem dX8_image_1 : decode cX8_image 1 = .ok (.getfield 26, 3) := by decide +kernel
theorem dX8_image_4 : decode cX8_image 4 = .ok (.getfield 105, 3) := by decide +kernel
theorem dX8_image_7 : decode cX8_image 7 = .ok (.ifCond .ne 6, 3) := by decide +kernel
theorem dX8_image_10 : decode cX8_image 10 = .ok (.bipush (-103), 2) := by decide +kernel
theorem dX8_image_12 : decode cX8_image 12 = .ok (.ireturn, 1) := by decide +kernel
theorem dX8_image_13 : decode cX8_image 13 = .ok (.aload_n 0, 1) := by decide +kernel
theorem dX8_image_14 : decode cX8_image 14 = .ok (.getfield 51, 3) := by decide +kernel
theorem dX8_image_17 : decode cX8_image 17 = .ok (.aload_n 0, 1) := by decide +kernel
theorem dX8_image_18 : decode cX8_image 18 = .ok (.getfield 26, 3) := by decide +kernel
theorem dX8_image_21 : decode cX8_image 21 = .ok (.invokevirtual 97, 3) := by decide +kernel
theorem dX8_image_24 : decode cX8_image 24 = .ok (.aload_n 0, 1) := by decide +kernel
theorem dX8_image_25 : decode cX8_image 25 = .ok (.getfield 54, 3) := by decide +kernel
theorem dX8_image_28 : decode cX8_image 28 = .ok (.aload_n 0, 1) := by decide +kernel
theorem dX8_image_29 : decode cX8_image 29 = .ok (.getfield 47, 3) := by decide +kernel
theorem dX8_image_32 : decode cX8_image 32 = .ok (.invokevirtual 238, 3) := by decide +kernel
theorem dX8_image_35 : decode cX8_image 35 = .ok (.aload_n 0, 1) := by decide +kernel
theorem dX8_image_36 : decode cX8_image 36 = .ok (.iconst 1, 1) := by decide +kernel
theorem dX8_image_37 : decode cX8_image 37 = .ok (.putfield 71, 3) := by decide +kernel
theorem dX8_image_40 : decode cX8_image 40 = .ok (.aload_n 0, 1) := by decide +kernel
theorem dX8_image_41 : decode cX8_image 41 = .ok (.getfield 26, 3) := by decide +kernel
theorem dX8_image_44 : decode cX8_image 44 = .ok (.getfield 105, 3) := by decide +kernel
theorem dX8_image_47 : decode cX8_image 47 = .ok (.ireturn, 1) := by decide +kernel
theorem dX8_restore_0 : decode cX8_restore 0 = .ok (.aload_n 0, 1) := by decide +kernel
theorem dX8_restore_1 : decode cX8_restore 1 = .ok (.getfield 71, 3) := by decide +kernel
theorem dX8_restore_4 : decode cX8_restore 4 = .ok (.ifCond .ne 6, 3) := by decide +kernel
theorem dX8_restore_7 : decode cX8_restore 7 = .ok (.bipush (-103), 2) := by decide +kernel
theorem dX8_restore_9 : decode cX8_restore 9 = .ok (.ireturn, 1) := by decide +kernel
theorem dX8_restore_10 : decode cX8_restore 10 = .ok (.aload_n 0, 1) := by decide +kernel
theorem dX8_restore_11 : decode cX8_restore 11 = .ok (.getfield 26, 3) := by decide +kernel
theorem dX8_restore_14 : decode cX8_restore 14 = .ok (.aload_n 0, 1) := by decide +kernel
theorem dX8_restore_15 : decode cX8_restore 15 = .ok (.getfield 51, 3) := by decide +kernel
theorem dX8_restore_18 : decode cX8_restore 18 = .ok (.invokevirtual 97, 3) := by decide +kernel
theorem dX8_restore_21 : decode cX8_restore 21 = .ok (.aload_n 0, 1) := by decide +kernel
theorem dX8_restore_22 : decode cX8_restore 22 = .ok (.getfield 47, 3) := by decide +kernel
theorem dX8_restore_25 : decode cX8_restore 25 = .ok (.aload_n 0, 1) := by decide +kernel
theorem dX8_restore_26 : decode cX8_restore 26 = .ok (.getfield 54, 3) := by decide +kernel
theorem dX8_restore_29 : decode cX8_restore 29 = .ok (.invokevirtual 238, 3) := by decide +kernel
theorem dX8_restore_32 : decode cX8_restore 32 = .ok (.aload_n 0, 1) := by decide +kernel
theorem dX8_restore_33 : decode cX8_restore 33 = .ok (.invokevirtual 102, 3) := by decide +kernel
theorem dX8_restore_36 : decode cX8_restore 36 = .ok (.aload_n 0, 1) := by decide +kernel
theorem dX8_restore_37 : decode cX8_restore 37 = .ok (.getfield 26, 3) := by decide +kernel
theorem dX8_restore_40 : decode cX8_restore 40 = .ok (.getfield 105, 3) := by decide +kernel
theorem dX8_restore_43 : decode cX8_restore 43 = .ok (.ireturn, 1) := by decide +kernel
theorem dX8_count_0 : decode cX8_count 0 = .ok (.iload_n 1, 1) := by decide +kernel
theorem dX8_count_1 : decode cX8_count 1 = .ok (.tableswitch 147 0 9 #[55, 63, 71, 79, 84, 89, 118, 126, 134, 142], 55) := by decide +kernel
theorem dX8_count_56 : decode cX8_count 56 = .ok (.aload_n 0, 1) := by decide +kernel
theorem dX8_count_57 : decode cX8_count 57 = .ok (.getfield 26, 3) := by decide +kernel
theorem dX8_count_60 : decode cX8_count 60 = .ok (.getfield 105, 3) := by decide +kernel
theorem dX8_count_63 : decode cX8_count 63 = .ok (.ireturn, 1) := by decide +kernel
theorem dX8_count_64 : decode cX8_count 64 = .ok (.aload_n 0, 1) := by decide +kernel
theorem dX8_count_65 : decode cX8_count 65 = .ok (.getfield 26, 3) := by decide +kernel
theorem dX8_count_68 : decode cX8_count 68 = .ok (.invokevirtual 241, 3) := by decide +kernel
theorem dX8_count_71 : decode cX8_count 71 = .ok (.ireturn, 1) := by decide +kernel
theorem dX8_count_72 : decode cX8_count 72 = .ok (.aload_n 0, 1) := by decide +kernel
theorem dX8_count_73 : decode cX8_count 73 = .ok (.getfield 33, 3) := by decide +kernel
theorem dX8_count_76 : decode cX8_count 76 = .ok (.getfield 244, 3) := by decide +kernel
theorem dX8_count_79 : decode cX8_count 79 = .ok (.ireturn, 1) := by decide +kernel
theorem dX8_count_80 : decode cX8_count 80 = .ok (.aload_n 0, 1) := by decide +kernel
theorem dX8_count_81 : decode cX8_count 81 = .ok (.invokevirtual 247, 3) := by decide +kernel
theorem dX8_count_84 : decode cX8_count 84 = .ok (.ireturn, 1) := by decide +kernel
theorem dX8_count_85 : decode cX8_count 85 = .ok (.aload_n 0, 1) := by decide +kernel
theorem dX8_count_86 : decode cX8_count 86 = .ok (.invokevirtual 250, 3) := by decide +kernel
theorem dX8_count_89 : decode cX8_count 89 = .ok (.ireturn, 1) := by decide +kernel
theorem dX8_count_90 : decode cX8_count 90 = .ok (.aload_n 0, 1) := by decide +kernel
theorem dX8_count_91 : decode cX8_count 91 = .ok (.getfield 26, 3) := by decide +kernel
theorem dX8_count_94 : decode cX8_count 94 = .ok (.getfield 105, 3) := by decide +kernel
theorem dX8_count_97 : decode cX8_count 97 = .ok (.ifCond .ne 7, 3) := by decide +kernel
theorem dX8_count_100 : decode cX8_count 100 = .ok (.iconst 0, 1) := by decide +kernel
theorem dX8_count_101 : decode cX8_count 101 = .ok (.goto 17, 3) := by decide +kernel
theorem dX8_count_104 : decode cX8_count 104 = .ok (.aload_n 0, 1) := by decide +kernel
theorem dX8_count_105 : decode cX8_count 105 = .ok (.getfield 33, 3) := by decide +kernel
theorem dX8_count_108 : decode cX8_count 108 = .ok (.aload_n 0, 1) := by decide +kernel
theorem dX8_count_109 : decode cX8_count 109 = .ok (.getfield 26, 3) := by decide +kernel
theorem dX8_count_112 : decode cX8_count 112 = .ok (.getfield 105, 3) := by decide +kernel
theorem dX8_count_115 : decode cX8_count 115 = .ok (.invokevirtual 170, 3) := by decide +kernel
theorem dX8_count_118 : decode cX8_count 118 = .ok (.ireturn, 1) := by decide +kernel
theorem dX8_count_119 : decode cX8_count 119 = .ok (.aload_n 0, 1) := by decide +kernel
theorem dX8_count_120 : decode cX8_count 120 = .ok (.getfield 40, 3) := by decide +kernel
theorem dX8_count_123 : decode cX8_count 123 = .ok (.invokevirtual 253, 3) := by decide +kernel
theorem dX8_count_126 : decode cX8_count 126 = .ok (.ireturn, 1) := by decide +kernel
theorem dX8_count_127 : decode cX8_count 127 = .ok (.aload_n 0, 1) := by decide +kernel
theorem dX8_count_128 : decode cX8_count 128 = .ok (.getfield 47, 3) := by decide +kernel
theorem dX8_count_131 : decode cX8_count 131 = .ok (.getfield 101, 3) := by decide +kernel
theorem dX8_count_134 : decode cX8_count 134 = .ok (.ireturn, 1) := by decide +kernel
theorem dX8_count_135 : decode cX8_count 135 = .ok (.aload_n 0, 1) := by decide +kernel
theorem dX8_count_136 : decode cX8_count 136 = .ok (.getfield 10, 3) := by decide +kernel
theorem dX8_count_139 : decode cX8_count 139 = .ok (.getfield 79, 3) := by decide +kernel
theorem dX8_count_142 : decode cX8_count 142 = .ok (.ireturn, 1) := by decide +kernel
theorem dX8_count_143 : decode cX8_count 143 = .ok (.aload_n 0, 1) := by decide +kernel
theorem dX8_count_144 : decode cX8_count 144 = .ok (.getfield 75, 3) := by decide +kernel
theorem dX8_count_147 : decode cX8_count 147 = .ok (.ireturn, 1) := by decide +kernel
theorem dX8_count_148 : decode cX8_count 148 = .ok (.bipush (-102), 2) := by decide +kernel
theorem dX8_count_150 : decode cX8_count 150 = .ok (.ireturn, 1) := by decide +kernel
theorem dX8_digest_0 : decode cX8_digest 0 = .ok (.aload_n 0, 1) := by decide +kernel
theorem dX8_digest_1 : decode cX8_digest 1 = .ok (.aload_n 0, 1) := by decide +kernel
theorem dX8_digest_2 : decode cX8_digest 2 = .ok (.ldc2_w 256, 3) := by decide +kernel
theorem dX8_digest_5 : decode cX8_digest 5 = .ok (.invokevirtual 258, 3) := by decide +kernel
theorem dX8_digest_8 : decode cX8_digest 8 = .ok (.invokevirtual 262, 3) := by decide +kernel
theorem dX8_digest_11 : decode cX8_digest 11 = .ok (.lstore_n 1, 1) := by decide +kernel
theorem dX8_digest_12 : decode cX8_digest 12 = .ok (.iconst 0, 1) := by decide +kernel
theorem dX8_digest_13 : decode cX8_digest 13 = .ok (.istore_n 3, 1) := by decide +kernel
theorem dX8_digest_14 : decode cX8_digest 14 = .ok (.iload_n 3, 1) := by decide +kernel
theorem dX8_digest_15 : decode cX8_digest 15 = .ok (.iconst 5, 1) := by decide +kernel
theorem dX8_digest_16 : decode cX8_digest 16 = .ok (.if_icmp .ge 39, 3) := by decide +kernel
theorem dX8_digest_19 : decode cX8_digest 19 = .ok (.iconst 0, 1) := by decide +kernel
theorem dX8_digest_20 : decode cX8_digest 20 = .ok (.istore 4, 2) := by decide +kernel
theorem dX8_digest_22 : decode cX8_digest 22 = .ok (.iload 4, 2) := by decide +kernel
theorem dX8_digest_24 : decode cX8_digest 24 = .ok (.iconst 3, 1) := by decide +kernel
theorem dX8_digest_25 : decode cX8_digest 25 = .ok (.if_icmp .ge 24, 3) := by decide +kernel
theorem dX8_digest_28 : decode cX8_digest 28 = .ok (.ldc2_w 265, 3) := by decide +kernel
theorem dX8_digest_31 : decode cX8_digest 31 = .ok (.lload_n 1, 1) := by decide +kernel
theorem dX8_digest_32 : decode cX8_digest 32 = .ok (.lmul, 1) := by decide +kernel
theorem dX8_digest_33 : decode cX8_digest 33 = .ok (.aload_n 0, 1) := by decide +kernel
theorem dX8_digest_34 : decode cX8_digest 34 = .ok (.iload_n 3, 1) := by decide +kernel
theorem dX8_digest_35 : decode cX8_digest 35 = .ok (.iload 4, 2) := by decide +kernel
theorem dX8_digest_37 : decode cX8_digest 37 = .ok (.invokevirtual 267, 3) := by decide +kernel
theorem dX8_digest_40 : decode cX8_digest 40 = .ok (.i2l, 1) := by decide +kernel
theorem dX8_digest_41 : decode cX8_digest 41 = .ok (.ladd, 1) := by decide +kernel
theorem dX8_digest_42 : decode cX8_digest 42 = .ok (.lstore_n 1, 1) := by decide +kernel
theorem dX8_digest_43 : decode cX8_digest 43 = .ok (.iinc 4 1, 3) := by decide +kernel
theorem dX8_digest_46 : decode cX8_digest 46 = .ok (.goto (-24), 3) := by decide +kernel
theorem dX8_digest_49 : decode cX8_digest 49 = .ok (.iinc 3 1, 3) := by decide +kernel
theorem dX8_digest_52 : decode cX8_digest 52 = .ok (.goto (-38), 3) := by decide +kernel
theorem dX8_digest_55 : decode cX8_digest 55 = .ok (.iconst 0, 1) := by decide +kernel
theorem dX8_digest_56 : decode cX8_digest 56 = .ok (.istore_n 3, 1) := by decide +kernel
theorem dX8_digest_57 : decode cX8_digest 57 = .ok (.iload_n 3, 1) := by decide +kernel
theorem dX8_digest_58 : decode cX8_digest 58 = .ok (.aload_n 0, 1) := by decide +kernel
theorem dX8_digest_59 : decode cX8_digest 59 = .ok (.getfield 10, 3) := by decide +kernel
theorem dX8_digest_62 : decode cX8_digest 62 = .ok (.getfield 79, 3) := by decide +kernel
theorem dX8_digest_65 : decode cX8_digest 65 = .ok (.if_icmp .ge 26, 3) := by decide +kernel
theorem dX8_digest_68 : decode cX8_digest 68 = .ok (.ldc2_w 265, 3) := by decide +kernel
theorem dX8_digest_71 : decode cX8_digest 71 = .ok (.lload_n 1, 1) := by decide +kernel
theorem dX8_digest_72 : decode cX8_digest 72 = .ok (.lmul, 1) := by decide +kernel
theorem dX8_digest_73 : decode cX8_digest 73 = .ok (.aload_n 0, 1) := by decide +kernel
theorem dX8_digest_74 : decode cX8_digest 74 = .ok (.getfield 10, 3) := by decide +kernel
theorem dX8_digest_77 : decode cX8_digest 77 = .ok (.getfield 270, 3) := by decide +kernel
theorem dX8_digest_80 : decode cX8_digest 80 = .ok (.iload_n 3, 1) := by decide +kernel
theorem dX8_digest_81 : decode cX8_digest 81 = .ok (.iaload, 1) := by decide +kernel
theorem dX8_digest_82 : decode cX8_digest 82 = .ok (.i2l, 1) := by decide +kernel
theorem dX8_digest_83 : decode cX8_digest 83 = .ok (.ladd, 1) := by decide +kernel
theorem dX8_digest_84 : decode cX8_digest 84 = .ok (.lstore_n 1, 1) := by decide +kernel
theorem dX8_digest_85 : decode cX8_digest 85 = .ok (.iinc 3 1, 3) := by decide +kernel
theorem dX8_digest_88 : decode cX8_digest 88 = .ok (.goto (-31), 3) := by decide +kernel
theorem dX8_digest_91 : decode cX8_digest 91 = .ok (.iconst 0, 1) := by decide +kernel
theorem dX8_digest_92 : decode cX8_digest 92 = .ok (.istore_n 3, 1) := by decide +kernel
theorem dX8_digest_93 : decode cX8_digest 93 = .ok (.iload_n 3, 1) := by decide +kernel
theorem dX8_digest_94 : decode cX8_digest 94 = .ok (.bipush 10, 2) := by decide +kernel
theorem dX8_digest_96 : decode cX8_digest 96 = .ok (.if_icmp .ge 22, 3) := by decide +kernel
theorem dX8_digest_99 : decode cX8_digest 99 = .ok (.ldc2_w 265, 3) := by decide +kernel
theorem dX8_digest_102 : decode cX8_digest 102 = .ok (.lload_n 1, 1) := by decide +kernel
theorem dX8_digest_103 : decode cX8_digest 103 = .ok (.lmul, 1) := by decide +kernel
theorem dX8_digest_104 : decode cX8_digest 104 = .ok (.aload_n 0, 1) := by decide +kernel
theorem dX8_digest_105 : decode cX8_digest 105 = .ok (.iload_n 3, 1) := by decide +kernel
theorem dX8_digest_106 : decode cX8_digest 106 = .ok (.invokevirtual 273, 3) := by decide +kernel
theorem dX8_digest_109 : decode cX8_digest 109 = .ok (.i2l, 1) := by decide +kernel
theorem dX8_digest_110 : decode cX8_digest 110 = .ok (.ladd, 1) := by decide +kernel
theorem dX8_digest_111 : decode cX8_digest 111 = .ok (.lstore_n 1, 1) := by decide +kernel
theorem dX8_digest_112 : decode cX8_digest 112 = .ok (.iinc 3 1, 3) := by decide +kernel
theorem dX8_digest_115 : decode cX8_digest 115 = .ok (.goto (-22), 3) := by decide +kernel
theorem dX8_digest_118 : decode cX8_digest 118 = .ok (.lload_n 1, 1) := by decide +kernel
theorem dX8_digest_119 : decode cX8_digest 119 = .ok (.lreturn, 1) := by decide +kernel
theorem dX8_digestOfSteps_0 : decode cX8_digestOfSteps 0 = .ok (.lload_n 1, 1) := by decide +kernel
theorem dX8_digestOfSteps_1 : decode cX8_digestOfSteps 1 = .ok (.lstore_n 3, 1) := by decide +kernel
theorem dX8_digestOfSteps_2 : decode cX8_digestOfSteps 2 = .ok (.iconst 0, 1) := by decide +kernel
theorem dX8_digestOfSteps_3 : decode cX8_digestOfSteps 3 = .ok (.istore 5, 2) := by decide +kernel
theorem dX8_digestOfSteps_5 : decode cX8_digestOfSteps 5 = .ok (.iload 5, 2) := by decide +kernel
theorem dX8_digestOfSteps_7 : decode cX8_digestOfSteps 7 = .ok (.aload_n 0, 1) := by decide +kernel
theorem dX8_digestOfSteps_8 : decode cX8_digestOfSteps 8 = .ok (.getfield 26, 3) := by decide +kernel
theorem dX8_digestOfSteps_11 : decode cX8_digestOfSteps 11 = .ok (.getfield 105, 3) := by decide +kernel
theorem dX8_digestOfSteps_14 : decode cX8_digestOfSteps 14 = .ok (.if_icmp .ge 41, 3) := by decide +kernel
theorem dX8_digestOfSteps_17 : decode cX8_digestOfSteps 17 = .ok (.iconst 0, 1) := by decide +kernel
theorem dX8_digestOfSteps_18 : decode cX8_digestOfSteps 18 = .ok (.istore 6, 2) := by decide +kernel
theorem dX8_digestOfSteps_20 : decode cX8_digestOfSteps 20 = .ok (.iload 6, 2) := by decide +kernel
theorem dX8_digestOfSteps_22 : decode cX8_digestOfSteps 22 = .ok (.bipush 9, 2) := by decide +kernel
theorem dX8_digestOfSteps_24 : decode cX8_digestOfSteps 24 = .ok (.if_icmp .ge 25, 3) := by decide +kernel
theorem dX8_digestOfSteps_27 : decode cX8_digestOfSteps 27 = .ok (.ldc2_w 265, 3) := by decide +kernel
theorem dX8_digestOfSteps_30 : decode cX8_digestOfSteps 30 = .ok (.lload_n 3, 1) := by decide +kernel
theorem dX8_digestOfSteps_31 : decode cX8_digestOfSteps 31 = .ok (.lmul, 1) := by decide +kernel
theorem dX8_digestOfSteps_32 : decode cX8_digestOfSteps 32 = .ok (.aload_n 0, 1) := by decide +kernel
theorem dX8_digestOfSteps_33 : decode cX8_digestOfSteps 33 = .ok (.iload 5, 2) := by decide +kernel
theorem dX8_digestOfSteps_35 : decode cX8_digestOfSteps 35 = .ok (.iload 6, 2) := by decide +kernel
theorem dX8_digestOfSteps_37 : decode cX8_digestOfSteps 37 = .ok (.invokevirtual 276, 3) := by decide +kernel
theorem dX8_digestOfSteps_40 : decode cX8_digestOfSteps 40 = .ok (.i2l, 1) := by decide +kernel
theorem dX8_digestOfSteps_41 : decode cX8_digestOfSteps 41 = .ok (.ladd, 1) := by decide +kernel
theorem dX8_digestOfSteps_42 : decode cX8_digestOfSteps 42 = .ok (.lstore_n 3, 1) := by decide +kernel
theorem dX8_digestOfSteps_43 : decode cX8_digestOfSteps 43 = .ok (.iinc 6 1, 3) := by decide +kernel
theorem dX8_digestOfSteps_46 : decode cX8_digestOfSteps 46 = .ok (.goto (-26), 3) := by decide +kernel
theorem dX8_digestOfSteps_49 : decode cX8_digestOfSteps 49 = .ok (.iinc 5 1, 3) := by decide +kernel
theorem dX8_digestOfSteps_52 : decode cX8_digestOfSteps 52 = .ok (.goto (-47), 3) := by decide +kernel
theorem dX8_digestOfSteps_55 : decode cX8_digestOfSteps 55 = .ok (.lload_n 3, 1) := by decide +kernel
theorem dX8_digestOfSteps_56 : decode cX8_digestOfSteps 56 = .ok (.lreturn, 1) := by decide +kernel
theorem dX8_digestOfShapes_0 : decode cX8_digestOfShapes 0 = .ok (.aload_n 0, 1) := by decide +kernel
theorem dX8_digestOfShapes_1 : decode cX8_digestOfShapes 1 = .ok (.getfield 26, 3) := by decide +kernel
theorem dX8_digestOfShapes_4 : decode cX8_digestOfShapes 4 = .ok (.getfield 105, 3) := by decide +kernel
theorem dX8_digestOfShapes_7 : decode cX8_digestOfShapes 7 = .ok (.ifCond .ne 5, 3) := by decide +kernel
theorem dX8_digestOfShapes_10 : decode cX8_digestOfShapes 10 = .ok (.lload_n 1, 1) := by decide +kernel
theorem dX8_digestOfShapes_11 : decode cX8_digestOfShapes 11 = .ok (.lreturn, 1) := by decide +kernel
theorem dX8_digestOfShapes_12 : decode cX8_digestOfShapes 12 = .ok (.lload_n 1, 1) := by decide +kernel
theorem dX8_digestOfShapes_13 : decode cX8_digestOfShapes 13 = .ok (.lstore_n 3, 1) := by decide +kernel
theorem dX8_digestOfShapes_14 : decode cX8_digestOfShapes 14 = .ok (.iconst 0, 1) := by decide +kernel
theorem dX8_digestOfShapes_15 : decode cX8_digestOfShapes 15 = .ok (.istore 5, 2) := by decide +kernel
theorem dX8_digestOfShapes_17 : decode cX8_digestOfShapes 17 = .ok (.iload 5, 2) := by decide +kernel
theorem dX8_digestOfShapes_19 : decode cX8_digestOfShapes 19 = .ok (.aload_n 0, 1) := by decide +kernel
theorem dX8_digestOfShapes_20 : decode cX8_digestOfShapes 20 = .ok (.getfield 26, 3) := by decide +kernel
theorem dX8_digestOfShapes_23 : decode cX8_digestOfShapes 23 = .ok (.getfield 105, 3) := by decide +kernel
theorem dX8_digestOfShapes_26 : decode cX8_digestOfShapes 26 = .ok (.if_icmp .gt 84, 3) := by decide +kernel
theorem dX8_digestOfShapes_29 : decode cX8_digestOfShapes 29 = .ok (.ldc2_w 265, 3) := by decide +kernel
theorem dX8_digestOfShapes_32 : decode cX8_digestOfShapes 32 = .ok (.lload_n 3, 1) := by decide +kernel
theorem dX8_digestOfShapes_33 : decode cX8_digestOfShapes 33 = .ok (.lmul, 1) := by decide +kernel
theorem dX8_digestOfShapes_34 : decode cX8_digestOfShapes 34 = .ok (.aload_n 0, 1) := by decide +kernel
theorem dX8_digestOfShapes_35 : decode cX8_digestOfShapes 35 = .ok (.iload 5, 2) := by decide +kernel
theorem dX8_digestOfShapes_37 : decode cX8_digestOfShapes 37 = .ok (.invokevirtual 279, 3) := by decide +kernel
theorem dX8_digestOfShapes_40 : decode cX8_digestOfShapes 40 = .ok (.i2l, 1) := by decide +kernel
theorem dX8_digestOfShapes_41 : decode cX8_digestOfShapes 41 = .ok (.ladd, 1) := by decide +kernel
theorem dX8_digestOfShapes_42 : decode cX8_digestOfShapes 42 = .ok (.lstore_n 3, 1) := by decide +kernel
theorem dX8_digestOfShapes_43 : decode cX8_digestOfShapes 43 = .ok (.ldc2_w 265, 3) := by decide +kernel
theorem dX8_digestOfShapes_46 : decode cX8_digestOfShapes 46 = .ok (.lload_n 3, 1) := by decide +kernel
theorem dX8_digestOfShapes_47 : decode cX8_digestOfShapes 47 = .ok (.lmul, 1) := by decide +kernel
theorem dX8_digestOfShapes_48 : decode cX8_digestOfShapes 48 = .ok (.aload_n 0, 1) := by decide +kernel
theorem dX8_digestOfShapes_49 : decode cX8_digestOfShapes 49 = .ok (.iload 5, 2) := by decide +kernel
theorem dX8_digestOfShapes_51 : decode cX8_digestOfShapes 51 = .ok (.iconst 0, 1) := by decide +kernel
theorem dX8_digestOfShapes_52 : decode cX8_digestOfShapes 52 = .ok (.iconst 2, 1) := by decide +kernel
theorem dX8_digestOfShapes_53 : decode cX8_digestOfShapes 53 = .ok (.invokevirtual 282, 3) := by decide +kernel
theorem dX8_digestOfShapes_56 : decode cX8_digestOfShapes 56 = .ok (.i2l, 1) := by decide +kernel
theorem dX8_digestOfShapes_57 : decode cX8_digestOfShapes 57 = .ok (.ladd, 1) := by decide +kernel
theorem dX8_digestOfShapes_58 : decode cX8_digestOfShapes 58 = .ok (.lstore_n 3, 1) := by decide +kernel
theorem dX8_digestOfShapes_59 : decode cX8_digestOfShapes 59 = .ok (.ldc2_w 265, 3) := by decide +kernel
theorem dX8_digestOfShapes_62 : decode cX8_digestOfShapes 62 = .ok (.lload_n 3, 1) := by decide +kernel
theorem dX8_digestOfShapes_63 : decode cX8_digestOfShapes 63 = .ok (.lmul, 1) := by decide +kernel
theorem dX8_digestOfShapes_64 : decode cX8_digestOfShapes 64 = .ok (.aload_n 0, 1) := by decide +kernel
theorem dX8_digestOfShapes_65 : decode cX8_digestOfShapes 65 = .ok (.iload 5, 2) := by decide +kernel
theorem dX8_digestOfShapes_67 : decode cX8_digestOfShapes 67 = .ok (.iconst 1, 1) := by decide +kernel
theorem dX8_digestOfShapes_68 : decode cX8_digestOfShapes 68 = .ok (.iconst 4, 1) := by decide +kernel
theorem dX8_digestOfShapes_69 : decode cX8_digestOfShapes 69 = .ok (.invokevirtual 282, 3) := by decide +kernel
theorem dX8_digestOfShapes_72 : decode cX8_digestOfShapes 72 = .ok (.i2l, 1) := by decide +kernel
theorem dX8_digestOfShapes_73 : decode cX8_digestOfShapes 73 = .ok (.ladd, 1) := by decide +kernel
theorem dX8_digestOfShapes_74 : decode cX8_digestOfShapes 74 = .ok (.lstore_n 3, 1) := by decide +kernel
theorem dX8_digestOfShapes_75 : decode cX8_digestOfShapes 75 = .ok (.ldc2_w 265, 3) := by decide +kernel
theorem dX8_digestOfShapes_78 : decode cX8_digestOfShapes 78 = .ok (.lload_n 3, 1) := by decide +kernel
theorem dX8_digestOfShapes_79 : decode cX8_digestOfShapes 79 = .ok (.lmul, 1) := by decide +kernel
theorem dX8_digestOfShapes_80 : decode cX8_digestOfShapes 80 = .ok (.aload_n 0, 1) := by decide +kernel
theorem dX8_digestOfShapes_81 : decode cX8_digestOfShapes 81 = .ok (.iload 5, 2) := by decide +kernel
theorem dX8_digestOfShapes_83 : decode cX8_digestOfShapes 83 = .ok (.iconst 5, 1) := by decide +kernel
theorem dX8_digestOfShapes_84 : decode cX8_digestOfShapes 84 = .ok (.iconst 5, 1) := by decide +kernel
theorem dX8_digestOfShapes_85 : decode cX8_digestOfShapes 85 = .ok (.invokevirtual 282, 3) := by decide +kernel
theorem dX8_digestOfShapes_88 : decode cX8_digestOfShapes 88 = .ok (.i2l, 1) := by decide +kernel
theorem dX8_digestOfShapes_89 : decode cX8_digestOfShapes 89 = .ok (.ladd, 1) := by decide +kernel
theorem dX8_digestOfShapes_90 : decode cX8_digestOfShapes 90 = .ok (.lstore_n 3, 1) := by decide +kernel
theorem dX8_digestOfShapes_91 : decode cX8_digestOfShapes 91 = .ok (.ldc2_w 265, 3) := by decide +kernel
theorem dX8_digestOfShapes_94 : decode cX8_digestOfShapes 94 = .ok (.lload_n 3, 1) := by decide +kernel
theorem dX8_digestOfShapes_95 : decode cX8_digestOfShapes 95 = .ok (.lmul, 1) := by decide +kernel
theorem dX8_digestOfShapes_96 : decode cX8_digestOfShapes 96 = .ok (.aload_n 0, 1) := by decide +kernel
theorem dX8_digestOfShapes_97 : decode cX8_digestOfShapes 97 = .ok (.iload 5, 2) := by decide +kernel
theorem dX8_digestOfShapes_99 : decode cX8_digestOfShapes 99 = .ok (.invokevirtual 286, 3) := by decide +kernel
theorem dX8_digestOfShapes_102 : decode cX8_digestOfShapes 102 = .ok (.ladd, 1) := by decide +kernel
theorem dX8_digestOfShapes_103 : decode cX8_digestOfShapes 103 = .ok (.lstore_n 3, 1) := by decide +kernel
theorem dX8_digestOfShapes_104 : decode cX8_digestOfShapes 104 = .ok (.iinc 5 1, 3) := by decide +kernel
theorem dX8_digestOfShapes_107 : decode cX8_digestOfShapes 107 = .ok (.goto (-90), 3) := by decide +kernel
theorem dX8_digestOfShapes_110 : decode cX8_digestOfShapes 110 = .ok (.lload_n 3, 1) := by decide +kernel
theorem dX8_digestOfShapes_111 : decode cX8_digestOfShapes 111 = .ok (.lreturn, 1) := by decide +kernel
theorem dX8_runAgain_0 : decode cX8_runAgain 0 = .ok (.aload_n 0, 1) := by decide +kernel
theorem dX8_runAgain_1 : decode cX8_runAgain 1 = .ok (.getfield 40, 3) := by decide +kernel
theorem dX8_runAgain_4 : decode cX8_runAgain 4 = .ok (.invokevirtual 289, 3) := by decide +kernel
theorem dX8_runAgain_7 : decode cX8_runAgain 7 = .ok (.aload_n 0, 1) := by decide +kernel
theorem dX8_runAgain_8 : decode cX8_runAgain 8 = .ok (.getfield 33, 3) := by decide +kernel
theorem dX8_runAgain_11 : decode cX8_runAgain 11 = .ok (.invokevirtual 292, 3) := by decide +kernel
theorem dX8_runAgain_14 : decode cX8_runAgain 14 = .ok (.iconst 0, 1) := by decide +kernel
theorem dX8_runAgain_15 : decode cX8_runAgain 15 = .ok (.istore_n 1, 1) := by decide +kernel
theorem dX8_runAgain_16 : decode cX8_runAgain 16 = .ok (.iload_n 1, 1) := by decide +kernel
theorem dX8_runAgain_17 : decode cX8_runAgain 17 = .ok (.aload_n 0, 1) := by decide +kernel
theorem dX8_runAgain_18 : decode cX8_runAgain 18 = .ok (.getfield 26, 3) := by decide +kernel
theorem dX8_runAgain_21 : decode cX8_runAgain 21 = .ok (.getfield 105, 3) := by decide +kernel
theorem dX8_runAgain_24 : decode cX8_runAgain 24 = .ok (.if_icmp .ge 58, 3) := by decide +kernel
theorem dX8_runAgain_27 : decode cX8_runAgain 27 = .ok (.aload_n 0, 1) := by decide +kernel
theorem dX8_runAgain_28 : decode cX8_runAgain 28 = .ok (.getfield 26, 3) := by decide +kernel
theorem dX8_runAgain_31 : decode cX8_runAgain 31 = .ok (.getfield 110, 3) := by decide +kernel
theorem dX8_runAgain_34 : decode cX8_runAgain 34 = .ok (.iload_n 1, 1) := by decide +kernel
theorem dX8_runAgain_35 : decode cX8_runAgain 35 = .ok (.iaload, 1) := by decide +kernel
theorem dX8_runAgain_36 : decode cX8_runAgain 36 = .ok (.iconst 4, 1) := by decide +kernel
theorem dX8_runAgain_37 : decode cX8_runAgain 37 = .ok (.if_icmp .ne 27, 3) := by decide +kernel
theorem dX8_runAgain_40 : decode cX8_runAgain 40 = .ok (.aload_n 0, 1) := by decide +kernel
theorem dX8_runAgain_41 : decode cX8_runAgain 41 = .ok (.getfield 33, 3) := by decide +kernel
theorem dX8_runAgain_44 : decode cX8_runAgain 44 = .ok (.aload_n 0, 1) := by decide +kernel
theorem dX8_runAgain_45 : decode cX8_runAgain 45 = .ok (.getfield 26, 3) := by decide +kernel
theorem dX8_runAgain_48 : decode cX8_runAgain 48 = .ok (.aload_n 0, 1) := by decide +kernel
theorem dX8_runAgain_49 : decode cX8_runAgain 49 = .ok (.getfield 26, 3) := by decide +kernel
theorem dX8_runAgain_52 : decode cX8_runAgain 52 = .ok (.getfield 114, 3) := by decide +kernel
theorem dX8_runAgain_55 : decode cX8_runAgain 55 = .ok (.iload_n 1, 1) := by decide +kernel
theorem dX8_runAgain_56 : decode cX8_runAgain 56 = .ok (.iaload, 1) := by decide +kernel
theorem dX8_runAgain_57 : decode cX8_runAgain 57 = .ok (.iload_n 1, 1) := by decide +kernel
theorem dX8_runAgain_58 : decode cX8_runAgain 58 = .ok (.invokevirtual 295, 3) := by decide +kernel
theorem dX8_runAgain_61 : decode cX8_runAgain 61 = .ok (.goto 15, 3) := by decide +kernel
theorem dX8_runAgain_64 : decode cX8_runAgain 64 = .ok (.aload_n 0, 1) := by decide +kernel
theorem dX8_runAgain_65 : decode cX8_runAgain 65 = .ok (.getfield 33, 3) := by decide +kernel
theorem dX8_runAgain_68 : decode cX8_runAgain 68 = .ok (.aload_n 0, 1) := by decide +kernel
theorem dX8_runAgain_69 : decode cX8_runAgain 69 = .ok (.getfield 26, 3) := by decide +kernel
theorem dX8_runAgain_72 : decode cX8_runAgain 72 = .ok (.iload_n 1, 1) := by decide +kernel
theorem dX8_runAgain_73 : decode cX8_runAgain 73 = .ok (.invokevirtual 299, 3) := by decide +kernel
theorem dX8_runAgain_76 : decode cX8_runAgain 76 = .ok (.iinc 1 1, 3) := by decide +kernel
theorem dX8_runAgain_79 : decode cX8_runAgain 79 = .ok (.goto (-63), 3) := by decide +kernel
theorem dX8_runAgain_82 : decode cX8_runAgain 82 = .ok (.return_, 1) := by decide +kernel
theorem dX8_isStep_0 : decode cX8_isStep 0 = .ok (.iload_n 1, 1) := by decide +kernel
theorem dX8_isStep_1 : decode cX8_isStep 1 = .ok (.ifCond .lt 18, 3) := by decide +kernel
theorem dX8_isStep_4 : decode cX8_isStep 4 = .ok (.iload_n 1, 1) := by decide +kernel
theorem dX8_isStep_5 : decode cX8_isStep 5 = .ok (.aload_n 0, 1) := by decide +kernel
theorem dX8_isStep_6 : decode cX8_isStep 6 = .ok (.getfield 26, 3) := by decide +kernel
theorem dX8_isStep_9 : decode cX8_isStep 9 = .ok (.getfield 105, 3) := by decide +kernel
theorem dX8_isStep_12 : decode cX8_isStep 12 = .ok (.if_icmp .ge 7, 3) := by decide +kernel
theorem dX8_isStep_15 : decode cX8_isStep 15 = .ok (.iconst 1, 1) := by decide +kernel
theorem dX8_isStep_16 : decode cX8_isStep 16 = .ok (.goto 4, 3) := by decide +kernel
theorem dX8_isStep_19 : decode cX8_isStep 19 = .ok (.iconst 0, 1) := by decide +kernel
theorem dX8_isStep_20 : decode cX8_isStep 20 = .ok (.ireturn, 1) := by decide +kernel
theorem dX8_hasShape_0 : decode cX8_hasShape 0 = .ok (.aload_n 0, 1) := by decide +kernel
theorem dX8_hasShape_1 : decode cX8_hasShape 1 = .ok (.getfield 26, 3) := by decide +kernel
theorem dX8_hasShape_4 : decode cX8_hasShape 4 = .ok (.getfield 105, 3) := by decide +kernel
theorem dX8_hasShape_7 : decode cX8_hasShape 7 = .ok (.ifCond .le 22, 3) := by decide +kernel
theorem dX8_hasShape_10 : decode cX8_hasShape 10 = .ok (.iload_n 1, 1) := by decide +kernel
theorem dX8_hasShape_11 : decode cX8_hasShape 11 = .ok (.ifCond .lt 18, 3) := by decide +kernel
theorem dX8_hasShape_14 : decode cX8_hasShape 14 = .ok (.iload_n 1, 1) := by decide +kernel
theorem dX8_hasShape_15 : decode cX8_hasShape 15 = .ok (.aload_n 0, 1) := by decide +kernel
theorem dX8_hasShape_16 : decode cX8_hasShape 16 = .ok (.getfield 26, 3) := by decide +kernel
theorem dX8_hasShape_19 : decode cX8_hasShape 19 = .ok (.getfield 105, 3) := by decide +kernel
theorem dX8_hasShape_22 : decode cX8_hasShape 22 = .ok (.if_icmp .gt 7, 3) := by decide +kernel
theorem dX8_hasShape_25 : decode cX8_hasShape 25 = .ok (.iconst 1, 1) := by decide +kernel
theorem dX8_hasShape_26 : decode cX8_hasShape 26 = .ok (.goto 4, 3) := by decide +kernel
theorem dX8_hasShape_29 : decode cX8_hasShape 29 = .ok (.iconst 0, 1) := by decide +kernel
theorem dX8_hasShape_30 : decode cX8_hasShape 30 = .ok (.ireturn, 1) := by decide +kernel
theorem dX8_isIdle_0 : decode cX8_isIdle 0 = .ok (.aload_n 0, 1) := by decide +kernel
theorem dX8_isIdle_1 : decode cX8_isIdle 1 = .ok (.getfield 26, 3) := by decide +kernel
theorem dX8_isIdle_4 : decode cX8_isIdle 4 = .ok (.getfield 110, 3) := by decide +kernel
theorem dX8_isIdle_7 : decode cX8_isIdle 7 = .ok (.iload_n 1, 1) := by decide +kernel
theorem dX8_isIdle_8 : decode cX8_isIdle 8 = .ok (.iaload, 1) := by decide +kernel
theorem dX8_isIdle_9 : decode cX8_isIdle 9 = .ok (.iconst 4, 1) := by decide +kernel
theorem dX8_isIdle_10 : decode cX8_isIdle 10 = .ok (.if_icmp .eq 18, 3) := by decide +kernel
theorem dX8_isIdle_13 : decode cX8_isIdle 13 = .ok (.aload_n 0, 1) := by decide +kernel
theorem dX8_isIdle_14 : decode cX8_isIdle 14 = .ok (.getfield 33, 3) := by decide +kernel
theorem dX8_isIdle_17 : decode cX8_isIdle 17 = .ok (.iload_n 1, 1) := by decide +kernel
theorem dX8_isIdle_18 : decode cX8_isIdle 18 = .ok (.invokevirtual 303, 3) := by decide +kernel
theorem dX8_isIdle_21 : decode cX8_isIdle 21 = .ok (.ifCond .eq 7, 3) := by decide +kernel
theorem dX8_isIdle_24 : decode cX8_isIdle 24 = .ok (.iconst 1, 1) := by decide +kernel
theorem dX8_isIdle_25 : decode cX8_isIdle 25 = .ok (.goto 4, 3) := by decide +kernel
theorem dX8_isIdle_28 : decode cX8_isIdle 28 = .ok (.iconst 0, 1) := by decide +kernel
theorem dX8_isIdle_29 : decode cX8_isIdle 29 = .ok (.ireturn, 1) := by decide +kernel
theorem dX8_countDead_0 : decode cX8_countDead 0 = .ok (.iconst 0, 1) := by decide +kernel
theorem dX8_countDead_1 : decode cX8_countDead 1 = .ok (.istore_n 1, 1) := by decide +kernel
theorem dX8_countDead_2 : decode cX8_countDead 2 = .ok (.iconst 0, 1) := by decide +kernel
theorem dX8_countDead_3 : decode cX8_countDead 3 = .ok (.istore_n 2, 1) := by decide +kernel
theorem dX8_countDead_4 : decode cX8_countDead 4 = .ok (.iload_n 2, 1) := by decide +kernel
theorem dX8_countDead_5 : decode cX8_countDead 5 = .ok (.aload_n 0, 1) := by decide +kernel
theorem dX8_countDead_6 : decode cX8_countDead 6 = .ok (.getfield 26, 3) := by decide +kernel
theorem dX8_countDead_9 : decode cX8_countDead 9 = .ok (.getfield 105, 3) := by decide +kernel
theorem dX8_countDead_12 : decode cX8_countDead 12 = .ok (.if_icmp .ge 23, 3) := by decide +kernel
theorem dX8_countDead_15 : decode cX8_countDead 15 = .ok (.iload_n 1, 1) := by decide +kernel
theorem dX8_countDead_16 : decode cX8_countDead 16 = .ok (.aload_n 0, 1) := by decide +kernel
theorem dX8_countDead_17 : decode cX8_countDead 17 = .ok (.getfield 33, 3) := by decide +kernel
theorem dX8_countDead_20 : decode cX8_countDead 20 = .ok (.iload_n 2, 1) := by decide +kernel
theorem dX8_countDead_21 : decode cX8_countDead 21 = .ok (.invokevirtual 126, 3) := by decide +kernel
theorem dX8_countDead_24 : decode cX8_countDead 24 = .ok (.invokestatic 129, 3) := by decide +kernel
theorem dX8_countDead_27 : decode cX8_countDead 27 = .ok (.iadd, 1) := by decide +kernel
theorem dX8_countDead_28 : decode cX8_countDead 28 = .ok (.istore_n 1, 1) := by decide +kernel
theorem dX8_countDead_29 : decode cX8_countDead 29 = .ok (.iinc 2 1, 3) := by decide +kernel
theorem dX8_countDead_32 : decode cX8_countDead 32 = .ok (.goto (-28), 3) := by decide +kernel
theorem dX8_countDead_35 : decode cX8_countDead 35 = .ok (.iload_n 1, 1) := by decide +kernel
theorem dX8_countDead_36 : decode cX8_countDead 36 = .ok (.ireturn, 1) := by decide +kernel
theorem dX8_countIdle_0 : decode cX8_countIdle 0 = .ok (.iconst 0, 1) := by decide +kernel
theorem dX8_countIdle_1 : decode cX8_countIdle 1 = .ok (.istore_n 1, 1) := by decide +kernel
theorem dX8_countIdle_2 : decode cX8_countIdle 2 = .ok (.iconst 0, 1) := by decide +kernel
theorem dX8_countIdle_3 : decode cX8_countIdle 3 = .ok (.istore_n 2, 1) := by decide +kernel
theorem dX8_countIdle_4 : decode cX8_countIdle 4 = .ok (.iload_n 2, 1) := by decide +kernel
theorem dX8_countIdle_5 : decode cX8_countIdle 5 = .ok (.aload_n 0, 1) := by decide +kernel
theorem dX8_countIdle_6 : decode cX8_countIdle 6 = .ok (.getfield 26, 3) := by decide +kernel
theorem dX8_countIdle_9 : decode cX8_countIdle 9 = .ok (.getfield 105, 3) := by decide +kernel
theorem dX8_countIdle_12 : decode cX8_countIdle 12 = .ok (.if_icmp .ge 20, 3) := by decide +kernel
theorem dX8_countIdle_15 : decode cX8_countIdle 15 = .ok (.iload_n 1, 1) := by decide +kernel
theorem dX8_countIdle_16 : decode cX8_countIdle 16 = .ok (.aload_n 0, 1) := by decide +kernel
theorem dX8_countIdle_17 : decode cX8_countIdle 17 = .ok (.iload_n 2, 1) := by decide +kernel
theorem dX8_countIdle_18 : decode cX8_countIdle 18 = .ok (.invokevirtual 136, 3) := by decide +kernel
theorem dX8_countIdle_21 : decode cX8_countIdle 21 = .ok (.invokestatic 129, 3) := by decide +kernel
theorem dX8_countIdle_24 : decode cX8_countIdle 24 = .ok (.iadd, 1) := by decide +kernel
theorem dX8_countIdle_25 : decode cX8_countIdle 25 = .ok (.istore_n 1, 1) := by decide +kernel
theorem dX8_countIdle_26 : decode cX8_countIdle 26 = .ok (.iinc 2 1, 3) := by decide +kernel
theorem dX8_countIdle_29 : decode cX8_countIdle 29 = .ok (.goto (-25), 3) := by decide +kernel
theorem dX8_countIdle_32 : decode cX8_countIdle 32 = .ok (.iload_n 1, 1) := by decide +kernel
theorem dX8_countIdle_33 : decode cX8_countIdle 33 = .ok (.ireturn, 1) := by decide +kernel
theorem dX8_canBePut_0 : decode cX8_canBePut 0 = .ok (.iload_n 0, 1) := by decide +kernel
theorem dX8_canBePut_1 : decode cX8_canBePut 1 = .ok (.invokestatic 146, 3) := by decide +kernel
theorem dX8_canBePut_4 : decode cX8_canBePut 4 = .ok (.ifCond .eq 8, 3) := by decide +kernel
theorem dX8_canBePut_7 : decode cX8_canBePut 7 = .ok (.iload_n 0, 1) := by decide +kernel
theorem dX8_canBePut_8 : decode cX8_canBePut 8 = .ok (.iconst 4, 1) := by decide +kernel
theorem dX8_canBePut_9 : decode cX8_canBePut 9 = .ok (.if_icmp .ne 5, 3) := by decide +kernel
theorem dX8_canBePut_12 : decode cX8_canBePut 12 = .ok (.iconst 0, 1) := by decide +kernel
theorem dX8_canBePut_13 : decode cX8_canBePut 13 = .ok (.ireturn, 1) := by decide +kernel
theorem dX8_canBePut_14 : decode cX8_canBePut 14 = .ok (.iload_n 0, 1) := by decide +kernel
theorem dX8_canBePut_15 : decode cX8_canBePut 15 = .ok (.ifCond .ne 8, 3) := by decide +kernel
theorem dX8_canBePut_18 : decode cX8_canBePut 18 = .ok (.bipush 6, 2) := by decide +kernel
theorem dX8_canBePut_20 : decode cX8_canBePut 20 = .ok (.goto 4, 3) := by decide +kernel
theorem dX8_canBePut_23 : decode cX8_canBePut 23 = .ok (.iconst 3, 1) := by decide +kernel
theorem dX8_canBePut_24 : decode cX8_canBePut 24 = .ok (.istore 4, 2) := by decide +kernel
theorem dX8_canBePut_26 : decode cX8_canBePut 26 = .ok (.iload_n 1, 1) := by decide +kernel
theorem dX8_canBePut_27 : decode cX8_canBePut 27 = .ok (.ifCond .lt 9, 3) := by decide +kernel
theorem dX8_canBePut_30 : decode cX8_canBePut 30 = .ok (.iload_n 1, 1) := by decide +kernel
theorem dX8_canBePut_31 : decode cX8_canBePut 31 = .ok (.iload 4, 2) := by decide +kernel
theorem dX8_canBePut_33 : decode cX8_canBePut 33 = .ok (.if_icmp .lt 5, 3) := by decide +kernel
theorem dX8_canBePut_36 : decode cX8_canBePut 36 = .ok (.iconst 0, 1) := by decide +kernel
theorem dX8_canBePut_37 : decode cX8_canBePut 37 = .ok (.ireturn, 1) := by decide +kernel
theorem dX8_canBePut_38 : decode cX8_canBePut 38 = .ok (.iload_n 0, 1) := by decide +kernel
theorem dX8_canBePut_39 : decode cX8_canBePut 39 = .ok (.invokestatic 200, 3) := by decide +kernel
theorem dX8_canBePut_42 : decode cX8_canBePut 42 = .ok (.ifCond .eq 12, 3) := by decide +kernel
theorem dX8_canBePut_45 : decode cX8_canBePut 45 = .ok (.iload_n 2, 1) := by decide +kernel
theorem dX8_canBePut_46 : decode cX8_canBePut 46 = .ok (.invokestatic 156, 3) := by decide +kernel
theorem dX8_canBePut_49 : decode cX8_canBePut 49 = .ok (.ifCond .ne 5, 3) := by decide +kernel
theorem dX8_canBePut_52 : decode cX8_canBePut 52 = .ok (.iconst 0, 1) := by decide +kernel
theorem dX8_canBePut_53 : decode cX8_canBePut 53 = .ok (.ireturn, 1) := by decide +kernel
theorem dX8_canBePut_54 : decode cX8_canBePut 54 = .ok (.iload_n 0, 1) := by decide +kernel
theorem dX8_canBePut_55 : decode cX8_canBePut 55 = .ok (.invokestatic 120, 3) := by decide +kernel
theorem dX8_canBePut_58 : decode cX8_canBePut 58 = .ok (.ifCond .eq 10, 3) := by decide +kernel
theorem dX8_canBePut_61 : decode cX8_canBePut 61 = .ok (.iload_n 3, 1) := by decide +kernel
theorem dX8_canBePut_62 : decode cX8_canBePut 62 = .ok (.invokestatic 213, 3) := by decide +kernel
theorem dX8_canBePut_65 : decode cX8_canBePut 65 = .ok (.ifCond .eq 7, 3) := by decide +kernel
theorem dX8_canBePut_68 : decode cX8_canBePut 68 = .ok (.iconst 1, 1) := by decide +kernel
theorem dX8_canBePut_69 : decode cX8_canBePut 69 = .ok (.goto 4, 3) := by decide +kernel
theorem dX8_canBePut_72 : decode cX8_canBePut 72 = .ok (.iconst 0, 1) := by decide +kernel
theorem dX8_canBePut_73 : decode cX8_canBePut 73 = .ok (.ireturn, 1) := by decide +kernel
theorem dX8_isKind_0 : decode cX8_isKind 0 = .ok (.iload_n 0, 1) := by decide +kernel
theorem dX8_isKind_1 : decode cX8_isKind 1 = .ok (.ifCond .lt 12, 3) := by decide +kernel
theorem dX8_isKind_4 : decode cX8_isKind 4 = .ok (.iload_n 0, 1) := by decide +kernel
theorem dX8_isKind_5 : decode cX8_isKind 5 = .ok (.iconst 5, 1) := by decide +kernel
theorem dX8_isKind_6 : decode cX8_isKind 6 = .ok (.if_icmp .ge 7, 3) := by decide +kernel
theorem dX8_isKind_9 : decode cX8_isKind 9 = .ok (.iconst 1, 1) := by decide +kernel
theorem dX8_isKind_10 : decode cX8_isKind 10 = .ok (.goto 4, 3) := by decide +kernel
theorem dX8_isKind_13 : decode cX8_isKind 13 = .ok (.iconst 0, 1) := by decide +kernel
theorem dX8_isKind_14 : decode cX8_isKind 14 = .ok (.ireturn, 1) := by decide +kernel
