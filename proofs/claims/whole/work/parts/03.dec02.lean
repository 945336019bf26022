theorem dX6_containsPair_0 : decode cX6_containsPair 0 = .ok (.iconst 2, 1) := by decide +kernel
theorem dX6_containsPair_1 : decode cX6_containsPair 1 = .ok (.iload_n 1, 1) := by decide +kernel
theorem dX6_containsPair_2 : decode cX6_containsPair 2 = .ok (.imul, 1) := by decide +kernel
theorem dX6_containsPair_3 : decode cX6_containsPair 3 = .ok (.aload_n 0, 1) := by decide +kernel
theorem dX6_containsPair_4 : decode cX6_containsPair 4 = .ok (.iconst 0, 1) := by decide +kernel
theorem dX6_containsPair_5 : decode cX6_containsPair 5 = .ok (.iconst 0, 1) := by decide +kernel
theorem dX6_containsPair_6 : decode cX6_containsPair 6 = .ok (.invokevirtual 31, 3) := by decide +kernel
theorem dX6_containsPair_9 : decode cX6_containsPair 9 = .ok (.if_icmp .gt 94, 3) := by decide +kernel
theorem dX6_containsPair_12 : decode cX6_containsPair 12 = .ok (.bipush (-2), 2) := by decide +kernel
theorem dX6_containsPair_14 : decode cX6_containsPair 14 = .ok (.iload_n 1, 1) := by decide +kernel
theorem dX6_containsPair_15 : decode cX6_containsPair 15 = .ok (.imul, 1) := by decide +kernel
theorem dX6_containsPair_16 : decode cX6_containsPair 16 = .ok (.aload_n 0, 1) := by decide +kernel
theorem dX6_containsPair_17 : decode cX6_containsPair 17 = .ok (.iconst 1, 1) := by decide +kernel
theorem dX6_containsPair_18 : decode cX6_containsPair 18 = .ok (.iconst 1, 1) := by decide +kernel
theorem dX6_containsPair_19 : decode cX6_containsPair 19 = .ok (.invokevirtual 31, 3) := by decide +kernel
theorem dX6_containsPair_22 : decode cX6_containsPair 22 = .ok (.if_icmp .gt 81, 3) := by decide +kernel
theorem dX6_containsPair_25 : decode cX6_containsPair 25 = .ok (.iconst 2, 1) := by decide +kernel
theorem dX6_containsPair_26 : decode cX6_containsPair 26 = .ok (.iload_n 2, 1) := by decide +kernel
theorem dX6_containsPair_27 : decode cX6_containsPair 27 = .ok (.imul, 1) := by decide +kernel
theorem dX6_containsPair_28 : decode cX6_containsPair 28 = .ok (.aload_n 0, 1) := by decide +kernel
theorem dX6_containsPair_29 : decode cX6_containsPair 29 = .ok (.iconst 2, 1) := by decide +kernel
theorem dX6_containsPair_30 : decode cX6_containsPair 30 = .ok (.iconst 2, 1) := by decide +kernel
theorem dX6_containsPair_31 : decode cX6_containsPair 31 = .ok (.invokevirtual 31, 3) := by decide +kernel
theorem dX6_containsPair_34 : decode cX6_containsPair 34 = .ok (.if_icmp .gt 69, 3) := by decide +kernel
theorem dX6_containsPair_37 : decode cX6_containsPair 37 = .ok (.bipush (-2), 2) := by decide +kernel
theorem dX6_containsPair_39 : decode cX6_containsPair 39 = .ok (.iload_n 2, 1) := by decide +kernel
theorem dX6_containsPair_40 : decode cX6_containsPair 40 = .ok (.imul, 1) := by decide +kernel
theorem dX6_containsPair_41 : decode cX6_containsPair 41 = .ok (.aload_n 0, 1) := by decide +kernel
theorem dX6_containsPair_42 : decode cX6_containsPair 42 = .ok (.iconst 3, 1) := by decide +kernel
theorem dX6_containsPair_43 : decode cX6_containsPair 43 = .ok (.iconst 3, 1) := by decide +kernel
theorem dX6_containsPair_44 : decode cX6_containsPair 44 = .ok (.invokevirtual 31, 3) := by decide +kernel
theorem dX6_containsPair_47 : decode cX6_containsPair 47 = .ok (.if_icmp .gt 56, 3) := by decide +kernel
theorem dX6_containsPair_50 : decode cX6_containsPair 50 = .ok (.iload_n 1, 1) := by decide +kernel
theorem dX6_containsPair_51 : decode cX6_containsPair 51 = .ok (.iload_n 2, 1) := by decide +kernel
theorem dX6_containsPair_52 : decode cX6_containsPair 52 = .ok (.iadd, 1) := by decide +kernel
theorem dX6_containsPair_53 : decode cX6_containsPair 53 = .ok (.aload_n 0, 1) := by decide +kernel
theorem dX6_containsPair_54 : decode cX6_containsPair 54 = .ok (.iconst 0, 1) := by decide +kernel
theorem dX6_containsPair_55 : decode cX6_containsPair 55 = .ok (.iconst 2, 1) := by decide +kernel
theorem dX6_containsPair_56 : decode cX6_containsPair 56 = .ok (.invokevirtual 31, 3) := by decide +kernel
theorem dX6_containsPair_59 : decode cX6_containsPair 59 = .ok (.if_icmp .gt 44, 3) := by decide +kernel
theorem dX6_containsPair_62 : decode cX6_containsPair 62 = .ok (.iload_n 1, 1) := by decide +kernel
theorem dX6_containsPair_63 : decode cX6_containsPair 63 = .ok (.iload_n 2, 1) := by decide +kernel
theorem dX6_containsPair_64 : decode cX6_containsPair 64 = .ok (.isub, 1) := by decide +kernel
theorem dX6_containsPair_65 : decode cX6_containsPair 65 = .ok (.aload_n 0, 1) := by decide +kernel
theorem dX6_containsPair_66 : decode cX6_containsPair 66 = .ok (.iconst 0, 1) := by decide +kernel
theorem dX6_containsPair_67 : decode cX6_containsPair 67 = .ok (.iconst 3, 1) := by decide +kernel
theorem dX6_containsPair_68 : decode cX6_containsPair 68 = .ok (.invokevirtual 31, 3) := by decide +kernel
theorem dX6_containsPair_71 : decode cX6_containsPair 71 = .ok (.if_icmp .gt 32, 3) := by decide +kernel
theorem dX6_containsPair_74 : decode cX6_containsPair 74 = .ok (.iload_n 2, 1) := by decide +kernel
theorem dX6_containsPair_75 : decode cX6_containsPair 75 = .ok (.iload_n 1, 1) := by decide +kernel
theorem dX6_containsPair_76 : decode cX6_containsPair 76 = .ok (.isub, 1) := by decide +kernel
theorem dX6_containsPair_77 : decode cX6_containsPair 77 = .ok (.aload_n 0, 1) := by decide +kernel
theorem dX6_containsPair_78 : decode cX6_containsPair 78 = .ok (.iconst 1, 1) := by decide +kernel
theorem dX6_containsPair_79 : decode cX6_containsPair 79 = .ok (.iconst 2, 1) := by decide +kernel
theorem dX6_containsPair_80 : decode cX6_containsPair 80 = .ok (.invokevirtual 31, 3) := by decide +kernel
theorem dX6_containsPair_83 : decode cX6_containsPair 83 = .ok (.if_icmp .gt 20, 3) := by decide +kernel
theorem dX6_containsPair_86 : decode cX6_containsPair 86 = .ok (.iload_n 1, 1) := by decide +kernel
theorem dX6_containsPair_87 : decode cX6_containsPair 87 = .ok (.ineg, 1) := by decide +kernel
theorem dX6_containsPair_88 : decode cX6_containsPair 88 = .ok (.iload_n 2, 1) := by decide +kernel
theorem dX6_containsPair_89 : decode cX6_containsPair 89 = .ok (.isub, 1) := by decide +kernel
theorem dX6_containsPair_90 : decode cX6_containsPair 90 = .ok (.aload_n 0, 1) := by decide +kernel
theorem dX6_containsPair_91 : decode cX6_containsPair 91 = .ok (.iconst 1, 1) := by decide +kernel
theorem dX6_containsPair_92 : decode cX6_containsPair 92 = .ok (.iconst 3, 1) := by decide +kernel
theorem dX6_containsPair_93 : decode cX6_containsPair 93 = .ok (.invokevirtual 31, 3) := by decide +kernel
theorem dX6_containsPair_96 : decode cX6_containsPair 96 = .ok (.if_icmp .gt 7, 3) := by decide +kernel
theorem dX6_containsPair_99 : decode cX6_containsPair 99 = .ok (.iconst 1, 1) := by decide +kernel
theorem dX6_containsPair_100 : decode cX6_containsPair 100 = .ok (.goto 4, 3) := by decide +kernel
theorem dX6_containsPair_103 : decode cX6_containsPair 103 = .ok (.iconst 0, 1) := by decide +kernel
theorem dX6_containsPair_104 : decode cX6_containsPair 104 = .ok (.ireturn, 1) := by decide +kernel
theorem dX6_roomFor_0 : decode cX6_roomFor 0 = .ok (.aload_n 0, 1) := by decide +kernel
theorem dX6_roomFor_1 : decode cX6_roomFor 1 = .ok (.iload_n 1, 1) := by decide +kernel
theorem dX6_roomFor_2 : decode cX6_roomFor 2 = .ok (.iconst 0, 1) := by decide +kernel
theorem dX6_roomFor_3 : decode cX6_roomFor 3 = .ok (.invokevirtual 31, 3) := by decide +kernel
theorem dX6_roomFor_6 : decode cX6_roomFor 6 = .ok (.iload_n 2, 1) := by decide +kernel
theorem dX6_roomFor_7 : decode cX6_roomFor 7 = .ok (.isub, 1) := by decide +kernel
theorem dX6_roomFor_8 : decode cX6_roomFor 8 = .ok (.aload_n 0, 1) := by decide +kernel
theorem dX6_roomFor_9 : decode cX6_roomFor 9 = .ok (.iload_n 1, 1) := by decide +kernel
theorem dX6_roomFor_10 : decode cX6_roomFor 10 = .ok (.iconst 1, 1) := by decide +kernel
theorem dX6_roomFor_11 : decode cX6_roomFor 11 = .ok (.invokevirtual 31, 3) := by decide +kernel
theorem dX6_roomFor_14 : decode cX6_roomFor 14 = .ok (.iload_n 2, 1) := by decide +kernel
theorem dX6_roomFor_15 : decode cX6_roomFor 15 = .ok (.iadd, 1) := by decide +kernel
theorem dX6_roomFor_16 : decode cX6_roomFor 16 = .ok (.invokestatic 56, 3) := by decide +kernel
theorem dX6_roomFor_19 : decode cX6_roomFor 19 = .ok (.istore 4, 2) := by decide +kernel
theorem dX6_roomFor_21 : decode cX6_roomFor 21 = .ok (.aload_n 0, 1) := by decide +kernel
theorem dX6_roomFor_22 : decode cX6_roomFor 22 = .ok (.iload_n 1, 1) := by decide +kernel
theorem dX6_roomFor_23 : decode cX6_roomFor 23 = .ok (.iconst 2, 1) := by decide +kernel
theorem dX6_roomFor_24 : decode cX6_roomFor 24 = .ok (.invokevirtual 31, 3) := by decide +kernel
theorem dX6_roomFor_27 : decode cX6_roomFor 27 = .ok (.iload_n 3, 1) := by decide +kernel
theorem dX6_roomFor_28 : decode cX6_roomFor 28 = .ok (.isub, 1) := by decide +kernel
theorem dX6_roomFor_29 : decode cX6_roomFor 29 = .ok (.aload_n 0, 1) := by decide +kernel
theorem dX6_roomFor_30 : decode cX6_roomFor 30 = .ok (.iload_n 1, 1) := by decide +kernel
theorem dX6_roomFor_31 : decode cX6_roomFor 31 = .ok (.iconst 3, 1) := by decide +kernel
theorem dX6_roomFor_32 : decode cX6_roomFor 32 = .ok (.invokevirtual 31, 3) := by decide +kernel
theorem dX6_roomFor_35 : decode cX6_roomFor 35 = .ok (.iload_n 3, 1) := by decide +kernel
theorem dX6_roomFor_36 : decode cX6_roomFor 36 = .ok (.iadd, 1) := by decide +kernel
theorem dX6_roomFor_37 : decode cX6_roomFor 37 = .ok (.invokestatic 56, 3) := by decide +kernel
theorem dX6_roomFor_40 : decode cX6_roomFor 40 = .ok (.istore 5, 2) := by decide +kernel
theorem dX6_roomFor_42 : decode cX6_roomFor 42 = .ok (.aload_n 0, 1) := by decide +kernel
theorem dX6_roomFor_43 : decode cX6_roomFor 43 = .ok (.iload_n 1, 1) := by decide +kernel
theorem dX6_roomFor_44 : decode cX6_roomFor 44 = .ok (.iload_n 1, 1) := by decide +kernel
theorem dX6_roomFor_45 : decode cX6_roomFor 45 = .ok (.invokevirtual 31, 3) := by decide +kernel
theorem dX6_roomFor_48 : decode cX6_roomFor 48 = .ok (.iconst 2, 1) := by decide +kernel
theorem dX6_roomFor_49 : decode cX6_roomFor 49 = .ok (.idiv, 1) := by decide +kernel
theorem dX6_roomFor_50 : decode cX6_roomFor 50 = .ok (.iload 4, 2) := by decide +kernel
theorem dX6_roomFor_52 : decode cX6_roomFor 52 = .ok (.iload 5, 2) := by decide +kernel
theorem dX6_roomFor_54 : decode cX6_roomFor 54 = .ok (.invokestatic 56, 3) := by decide +kernel
theorem dX6_roomFor_57 : decode cX6_roomFor 57 = .ok (.invokestatic 56, 3) := by decide +kernel
theorem dX6_roomFor_60 : decode cX6_roomFor 60 = .ok (.ireturn, 1) := by decide +kernel
theorem dX7_init_0 : decode cX7_init 0 = .ok (.aload_n 0, 1) := by decide +kernel
theorem dX7_init_1 : decode cX7_init 1 = .ok (.invokespecial 3, 3) := by decide +kernel
theorem dX7_init_4 : decode cX7_init 4 = .ok (.aload_n 0, 1) := by decide +kernel
theorem dX7_init_5 : decode cX7_init 5 = .ok (.bipush 6, 2) := by decide +kernel
theorem dX7_init_7 : decode cX7_init 7 = .ok (.newarray .int, 2) := by decide +kernel
theorem dX7_init_9 : decode cX7_init 9 = .ok (.putfield 9, 3) := by decide +kernel
theorem dX7_init_12 : decode cX7_init 12 = .ok (.aload_n 0, 1) := by decide +kernel
theorem dX7_init_13 : decode cX7_init 13 = .ok (.bipush 6, 2) := by decide +kernel
theorem dX7_init_15 : decode cX7_init 15 = .ok (.newarray .int, 2) := by decide +kernel
theorem dX7_init_17 : decode cX7_init 17 = .ok (.putfield 15, 3) := by decide +kernel
theorem dX7_init_20 : decode cX7_init 20 = .ok (.aload_n 0, 1) := by decide +kernel
theorem dX7_init_21 : decode cX7_init 21 = .ok (.bipush 6, 2) := by decide +kernel
theorem dX7_init_23 : decode cX7_init 23 = .ok (.newarray .int, 2) := by decide +kernel
theorem dX7_init_25 : decode cX7_init 25 = .ok (.putfield 18, 3) := by decide +kernel
theorem dX7_init_28 : decode cX7_init 28 = .ok (.aload_n 0, 1) := by decide +kernel
theorem dX7_init_29 : decode cX7_init 29 = .ok (.bipush 6, 2) := by decide +kernel
theorem dX7_init_31 : decode cX7_init 31 = .ok (.newarray .int, 2) := by decide +kernel
theorem dX7_init_33 : decode cX7_init 33 = .ok (.putfield 21, 3) := by decide +kernel
theorem dX7_init_36 : decode cX7_init 36 = .ok (.return_, 1) := by decide +kernel
theorem dX7_copy_0 : decode cX7_copy 0 = .ok (.aload_n 0, 1) := by decide +kernel
theorem dX7_copy_1 : decode cX7_copy 1 = .ok (.aload_n 1, 1) := by decide +kernel
theorem dX7_copy_2 : decode cX7_copy 2 = .ok (.getfield 24, 3) := by decide +kernel
theorem dX7_copy_5 : decode cX7_copy 5 = .ok (.putfield 24, 3) := by decide +kernel
theorem dX7_copy_8 : decode cX7_copy 8 = .ok (.aload_n 1, 1) := by decide +kernel
theorem dX7_copy_9 : decode cX7_copy 9 = .ok (.getfield 9, 3) := by decide +kernel
theorem dX7_copy_12 : decode cX7_copy 12 = .ok (.iconst 0, 1) := by decide +kernel
theorem dX7_copy_13 : decode cX7_copy 13 = .ok (.aload_n 0, 1) := by decide +kernel
theorem dX7_copy_14 : decode cX7_copy 14 = .ok (.getfield 9, 3) := by decide +kernel
theorem dX7_copy_17 : decode cX7_copy 17 = .ok (.iconst 0, 1) := by decide +kernel
theorem dX7_copy_18 : decode cX7_copy 18 = .ok (.bipush 6, 2) := by decide +kernel
theorem dX7_copy_20 : decode cX7_copy 20 = .ok (.invokestatic 28, 3) := by decide +kernel
theorem dX7_copy_23 : decode cX7_copy 23 = .ok (.aload_n 1, 1) := by decide +kernel
theorem dX7_copy_24 : decode cX7_copy 24 = .ok (.getfield 15, 3) := by decide +kernel
theorem dX7_copy_27 : decode cX7_copy 27 = .ok (.iconst 0, 1) := by decide +kernel
theorem dX7_copy_28 : decode cX7_copy 28 = .ok (.aload_n 0, 1) := by decide +kernel
theorem dX7_copy_29 : decode cX7_copy 29 = .ok (.getfield 15, 3) := by decide +kernel
theorem dX7_copy_32 : decode cX7_copy 32 = .ok (.iconst 0, 1) := by decide +kernel
theorem dX7_copy_33 : decode cX7_copy 33 = .ok (.bipush 6, 2) := by decide +kernel
theorem dX7_copy_35 : decode cX7_copy 35 = .ok (.invokestatic 28, 3) := by decide +kernel
theorem dX7_copy_38 : decode cX7_copy 38 = .ok (.aload_n 1, 1) := by decide +kernel
theorem dX7_copy_39 : decode cX7_copy 39 = .ok (.getfield 18, 3) := by decide +kernel
theorem dX7_copy_42 : decode cX7_copy 42 = .ok (.iconst 0, 1) := by decide +kernel
theorem dX7_copy_43 : decode cX7_copy 43 = .ok (.aload_n 0, 1) := by decide +kernel
theorem dX7_copy_44 : decode cX7_copy 44 = .ok (.getfield 18, 3) := by decide +kernel
theorem dX7_copy_47 : decode cX7_copy 47 = .ok (.iconst 0, 1) := by decide +kernel
theorem dX7_copy_48 : decode cX7_copy 48 = .ok (.bipush 6, 2) := by decide +kernel
theorem dX7_copy_50 : decode cX7_copy 50 = .ok (.invokestatic 28, 3) := by decide +kernel
theorem dX7_copy_53 : decode cX7_copy 53 = .ok (.aload_n 1, 1) := by decide +kernel
theorem dX7_copy_54 : decode cX7_copy 54 = .ok (.getfield 21, 3) := by decide +kernel
theorem dX7_copy_57 : decode cX7_copy 57 = .ok (.iconst 0, 1) := by decide +kernel
theorem dX7_copy_58 : decode cX7_copy 58 = .ok (.aload_n 0, 1) := by decide +kernel
theorem dX7_copy_59 : decode cX7_copy 59 = .ok (.getfield 21, 3) := by decide +kernel
theorem dX7_copy_62 : decode cX7_copy 62 = .ok (.iconst 0, 1) := by decide +kernel
theorem dX7_copy_63 : decode cX7_copy 63 = .ok (.bipush 6, 2) := by decide +kernel
theorem dX7_copy_65 : decode cX7_copy 65 = .ok (.invokestatic 28, 3) := by decide +kernel
theorem dX7_copy_68 : decode cX7_copy 68 = .ok (.return_, 1) := by decide +kernel
theorem dX7_insert_0 : decode cX7_insert 0 = .ok (.aload_n 0, 1) := by decide +kernel
theorem dX7_insert_1 : decode cX7_insert 1 = .ok (.getfield 24, 3) := by decide +kernel
theorem dX7_insert_4 : decode cX7_insert 4 = .ok (.istore 6, 2) := by decide +kernel
theorem dX7_insert_6 : decode cX7_insert 6 = .ok (.iload 6, 2) := by decide +kernel
theorem dX7_insert_8 : decode cX7_insert 8 = .ok (.iload_n 1, 1) := by decide +kernel
theorem dX7_insert_9 : decode cX7_insert 9 = .ok (.if_icmp .le 52, 3) := by decide +kernel
theorem dX7_insert_12 : decode cX7_insert 12 = .ok (.aload_n 0, 1) := by decide +kernel
theorem dX7_insert_13 : decode cX7_insert 13 = .ok (.iload 6, 2) := by decide +kernel
theorem dX7_insert_15 : decode cX7_insert 15 = .ok (.iconst 1, 1) := by decide +kernel
theorem dX7_insert_16 : decode cX7_insert 16 = .ok (.isub, 1) := by decide +kernel
theorem dX7_insert_17 : decode cX7_insert 17 = .ok (.iload 6, 2) := by decide +kernel
theorem dX7_insert_19 : decode cX7_insert 19 = .ok (.invokevirtual 34, 3) := by decide +kernel
theorem dX7_insert_22 : decode cX7_insert 22 = .ok (.aload_n 0, 1) := by decide +kernel
theorem dX7_insert_23 : decode cX7_insert 23 = .ok (.getfield 9, 3) := by decide +kernel
theorem dX7_insert_26 : decode cX7_insert 26 = .ok (.iload 6, 2) := by decide +kernel
theorem dX7_insert_28 : decode cX7_insert 28 = .ok (.iaload, 1) := by decide +kernel
theorem dX7_insert_29 : decode cX7_insert 29 = .ok (.iconst 4, 1) := by decide +kernel
theorem dX7_insert_30 : decode cX7_insert 30 = .ok (.if_icmp .ne 25, 3) := by decide +kernel
theorem dX7_insert_33 : decode cX7_insert 33 = .ok (.aload_n 0, 1) := by decide +kernel
theorem dX7_insert_34 : decode cX7_insert 34 = .ok (.getfield 15, 3) := by decide +kernel
theorem dX7_insert_37 : decode cX7_insert 37 = .ok (.iload 6, 2) := by decide +kernel
theorem dX7_insert_39 : decode cX7_insert 39 = .ok (.iaload, 1) := by decide +kernel
theorem dX7_insert_40 : decode cX7_insert 40 = .ok (.iload_n 1, 1) := by decide +kernel
theorem dX7_insert_41 : decode cX7_insert 41 = .ok (.if_icmp .le 14, 3) := by decide +kernel
theorem dX7_insert_44 : decode cX7_insert 44 = .ok (.aload_n 0, 1) := by decide +kernel
theorem dX7_insert_45 : decode cX7_insert 45 = .ok (.getfield 15, 3) := by decide +kernel
theorem dX7_insert_48 : decode cX7_insert 48 = .ok (.iload 6, 2) := by decide +kernel
theorem dX7_insert_50 : decode cX7_insert 50 = .ok (.dup2, 1) := by decide +kernel
theorem dX7_insert_51 : decode cX7_insert 51 = .ok (.iaload, 1) := by decide +kernel
theorem dX7_insert_52 : decode cX7_insert 52 = .ok (.iconst 1, 1) := by decide +kernel
theorem dX7_insert_53 : decode cX7_insert 53 = .ok (.iadd, 1) := by decide +kernel
theorem dX7_insert_54 : decode cX7_insert 54 = .ok (.iastore, 1) := by decide +kernel
theorem dX7_insert_55 : decode cX7_insert 55 = .ok (.iinc 6 (-1), 3) := by decide +kernel
theorem dX7_insert_58 : decode cX7_insert 58 = .ok (.goto (-52), 3) := by decide +kernel
theorem dX7_insert_61 : decode cX7_insert 61 = .ok (.aload_n 0, 1) := by decide +kernel
theorem dX7_insert_62 : decode cX7_insert 62 = .ok (.getfield 9, 3) := by decide +kernel
theorem dX7_insert_65 : decode cX7_insert 65 = .ok (.iload_n 1, 1) := by decide +kernel
theorem dX7_insert_66 : decode cX7_insert 66 = .ok (.iload_n 2, 1) := by decide +kernel
theorem dX7_insert_67 : decode cX7_insert 67 = .ok (.iastore, 1) := by decide +kernel
theorem dX7_insert_68 : decode cX7_insert 68 = .ok (.aload_n 0, 1) := by decide +kernel
theorem dX7_insert_69 : decode cX7_insert 69 = .ok (.getfield 15, 3) := by decide +kernel
theorem dX7_insert_72 : decode cX7_insert 72 = .ok (.iload_n 1, 1) := by decide +kernel
theorem dX7_insert_73 : decode cX7_insert 73 = .ok (.iload_n 3, 1) := by decide +kernel
theorem dX7_insert_74 : decode cX7_insert 74 = .ok (.iastore, 1) := by decide +kernel
theorem dX7_insert_75 : decode cX7_insert 75 = .ok (.aload_n 0, 1) := by decide +kernel
theorem dX7_insert_76 : decode cX7_insert 76 = .ok (.getfield 18, 3) := by decide +kernel
theorem dX7_insert_79 : decode cX7_insert 79 = .ok (.iload_n 1, 1) := by decide +kernel
theorem dX7_insert_80 : decode cX7_insert 80 = .ok (.iload 4, 2) := by decide +kernel
theorem dX7_insert_82 : decode cX7_insert 82 = .ok (.iastore, 1) := by decide +kernel
theorem dX7_insert_83 : decode cX7_insert 83 = .ok (.aload_n 0, 1) := by decide +kernel
theorem dX7_insert_84 : decode cX7_insert 84 = .ok (.getfield 21, 3) := by decide +kernel
theorem dX7_insert_87 : decode cX7_insert 87 = .ok (.iload_n 1, 1) := by decide +kernel
theorem dX7_insert_88 : decode cX7_insert 88 = .ok (.iload 5, 2) := by decide +kernel
theorem dX7_insert_90 : decode cX7_insert 90 = .ok (.iastore, 1) := by decide +kernel
theorem dX7_insert_91 : decode cX7_insert 91 = .ok (.aload_n 0, 1) := by decide +kernel
theorem dX7_insert_92 : decode cX7_insert 92 = .ok (.dup, 1) := by decide +kernel
theorem dX7_insert_93 : decode cX7_insert 93 = .ok (.getfield 24, 3) := by decide +kernel
theorem dX7_insert_96 : decode cX7_insert 96 = .ok (.iconst 1, 1) := by decide +kernel
theorem dX7_insert_97 : decode cX7_insert 97 = .ok (.iadd, 1) := by decide +kernel
theorem dX7_insert_98 : decode cX7_insert 98 = .ok (.putfield 24, 3) := by decide +kernel
theorem dX7_insert_101 : decode cX7_insert 101 = .ok (.return_, 1) := by decide +kernel
theorem dX7_remove_0 : decode cX7_remove 0 = .ok (.aload_n 0, 1) := by decide +kernel
theorem dX7_remove_1 : decode cX7_remove 1 = .ok (.dup, 1) := by decide +kernel
theorem dX7_remove_2 : decode cX7_remove 2 = .ok (.getfield 24, 3) := by decide +kernel
theorem dX7_remove_5 : decode cX7_remove 5 = .ok (.iconst 1, 1) := by decide +kernel
theorem dX7_remove_6 : decode cX7_remove 6 = .ok (.isub, 1) := by decide +kernel
theorem dX7_remove_7 : decode cX7_remove 7 = .ok (.putfield 24, 3) := by decide +kernel
theorem dX7_remove_10 : decode cX7_remove 10 = .ok (.iload_n 1, 1) := by decide +kernel
theorem dX7_remove_11 : decode cX7_remove 11 = .ok (.istore_n 2, 1) := by decide +kernel
theorem dX7_remove_12 : decode cX7_remove 12 = .ok (.iload_n 2, 1) := by decide +kernel
theorem dX7_remove_13 : decode cX7_remove 13 = .ok (.aload_n 0, 1) := by decide +kernel
theorem dX7_remove_14 : decode cX7_remove 14 = .ok (.getfield 24, 3) := by decide +kernel
theorem dX7_remove_17 : decode cX7_remove 17 = .ok (.if_icmp .ge 47, 3) := by decide +kernel
theorem dX7_remove_20 : decode cX7_remove 20 = .ok (.aload_n 0, 1) := by decide +kernel
theorem dX7_remove_21 : decode cX7_remove 21 = .ok (.iload_n 2, 1) := by decide +kernel
theorem dX7_remove_22 : decode cX7_remove 22 = .ok (.iconst 1, 1) := by decide +kernel
theorem dX7_remove_23 : decode cX7_remove 23 = .ok (.iadd, 1) := by decide +kernel
theorem dX7_remove_24 : decode cX7_remove 24 = .ok (.iload_n 2, 1) := by decide +kernel
theorem dX7_remove_25 : decode cX7_remove 25 = .ok (.invokevirtual 34, 3) := by decide +kernel
theorem dX7_remove_28 : decode cX7_remove 28 = .ok (.aload_n 0, 1) := by decide +kernel
theorem dX7_remove_29 : decode cX7_remove 29 = .ok (.getfield 9, 3) := by decide +kernel
theorem dX7_remove_32 : decode cX7_remove 32 = .ok (.iload_n 2, 1) := by decide +kernel
theorem dX7_remove_33 : decode cX7_remove 33 = .ok (.iaload, 1) := by decide +kernel
theorem dX7_remove_34 : decode cX7_remove 34 = .ok (.iconst 4, 1) := by decide +kernel
theorem dX7_remove_35 : decode cX7_remove 35 = .ok (.if_icmp .ne 23, 3) := by decide +kernel
theorem dX7_remove_38 : decode cX7_remove 38 = .ok (.aload_n 0, 1) := by decide +kernel
theorem dX7_remove_39 : decode cX7_remove 39 = .ok (.getfield 15, 3) := by decide +kernel
theorem dX7_remove_42 : decode cX7_remove 42 = .ok (.iload_n 2, 1) := by decide +kernel
theorem dX7_remove_43 : decode cX7_remove 43 = .ok (.iaload, 1) := by decide +kernel
theorem dX7_remove_44 : decode cX7_remove 44 = .ok (.iload_n 1, 1) := by decide +kernel
theorem dX7_remove_45 : decode cX7_remove 45 = .ok (.if_icmp .le 13, 3) := by decide +kernel
theorem dX7_remove_48 : decode cX7_remove 48 = .ok (.aload_n 0, 1) := by decide +kernel
theorem dX7_remove_49 : decode cX7_remove 49 = .ok (.getfield 15, 3) := by decide +kernel
theorem dX7_remove_52 : decode cX7_remove 52 = .ok (.iload_n 2, 1) := by decide +kernel
theorem dX7_remove_53 : decode cX7_remove 53 = .ok (.dup2, 1) := by decide +kernel
theorem dX7_remove_54 : decode cX7_remove 54 = .ok (.iaload, 1) := by decide +kernel
theorem dX7_remove_55 : decode cX7_remove 55 = .ok (.iconst 1, 1) := by decide +kernel
theorem dX7_remove_56 : decode cX7_remove 56 = .ok (.isub, 1) := by decide +kernel
theorem dX7_remove_57 : decode cX7_remove 57 = .ok (.iastore, 1) := by decide +kernel
theorem dX7_remove_58 : decode cX7_remove 58 = .ok (.iinc 2 1, 3) := by decide +kernel
theorem dX7_remove_61 : decode cX7_remove 61 = .ok (.goto (-49), 3) := by decide +kernel
theorem dX7_remove_64 : decode cX7_remove 64 = .ok (.return_, 1) := by decide +kernel
theorem dX7_copyStep_0 : decode cX7_copyStep 0 = .ok (.aload_n 0, 1) := by decide +kernel
theorem dX7_copyStep_1 : decode cX7_copyStep 1 = .ok (.getfield 9, 3) := by decide +kernel
theorem dX7_copyStep_4 : decode cX7_copyStep 4 = .ok (.iload_n 2, 1) := by decide +kernel
theorem dX7_copyStep_5 : decode cX7_copyStep 5 = .ok (.aload_n 0, 1) := by decide +kernel
theorem dX7_copyStep_6 : decode cX7_copyStep 6 = .ok (.getfield 9, 3) := by decide +kernel
theorem dX7_copyStep_9 : decode cX7_copyStep 9 = .ok (.iload_n 1, 1) := by decide +kernel
theorem dX7_copyStep_10 : decode cX7_copyStep 10 = .ok (.iaload, 1) := by decide +kernel
theorem dX7_copyStep_11 : decode cX7_copyStep 11 = .ok (.iastore, 1) := by decide +kernel
theorem dX7_copyStep_12 : decode cX7_copyStep 12 = .ok (.aload_n 0, 1) := by decide +kernel
theorem dX7_copyStep_13 : decode cX7_copyStep 13 = .ok (.getfield 15, 3) := by decide +kernel
theorem dX7_copyStep_16 : decode cX7_copyStep 16 = .ok (.iload_n 2, 1) := by decide +kernel
theorem dX7_copyStep_17 : decode cX7_copyStep 17 = .ok (.aload_n 0, 1) := by decide +kernel
theorem dX7_copyStep_18 : decode cX7_copyStep 18 = .ok (.getfield 15, 3) := by decide +kernel
theorem dX7_copyStep_21 : decode cX7_copyStep 21 = .ok (.iload_n 1, 1) := by decide +kernel
theorem dX7_copyStep_22 : decode cX7_copyStep 22 = .ok (.iaload, 1) := by decide +kernel
theorem dX7_copyStep_23 : decode cX7_copyStep 23 = .ok (.iastore, 1) := by decide +kernel
theorem dX7_copyStep_24 : decode cX7_copyStep 24 = .ok (.aload_n 0, 1) := by decide +kernel
theorem dX7_copyStep_25 : decode cX7_copyStep 25 = .ok (.getfield 18, 3) := by decide +kernel
theorem dX7_copyStep_28 : decode cX7_copyStep 28 = .ok (.iload_n 2, 1) := by decide +kernel
theorem dX7_copyStep_29 : decode cX7_copyStep 29 = .ok (.aload_n 0, 1) := by decide +kernel
theorem dX7_copyStep_30 : decode cX7_copyStep 30 = .ok (.getfield 18, 3) := by decide +kernel
theorem dX7_copyStep_33 : decode cX7_copyStep 33 = .ok (.iload_n 1, 1) := by decide +kernel
theorem dX7_copyStep_34 : decode cX7_copyStep 34 = .ok (.iaload, 1) := by decide +kernel
theorem dX7_copyStep_35 : decode cX7_copyStep 35 = .ok (.iastore, 1) := by decide +kernel
theorem dX7_copyStep_36 : decode cX7_copyStep 36 = .ok (.aload_n 0, 1) := by decide +kernel
theorem dX7_copyStep_37 : decode cX7_copyStep 37 = .ok (.getfield 21, 3) := by decide +kernel
theorem dX7_copyStep_40 : decode cX7_copyStep 40 = .ok (.iload_n 2, 1) := by decide +kernel
theorem dX7_copyStep_41 : decode cX7_copyStep 41 = .ok (.aload_n 0, 1) := by decide +kernel
theorem dX7_copyStep_42 : decode cX7_copyStep 42 = .ok (.getfield 21, 3) := by decide +kernel
theorem dX7_copyStep_45 : decode cX7_copyStep 45 = .ok (.iload_n 1, 1) := by decide +kernel
theorem dX7_copyStep_46 : decode cX7_copyStep 46 = .ok (.iaload, 1) := by decide +kernel
theorem dX7_copyStep_47 : decode cX7_copyStep 47 = .ok (.iastore, 1) := by decide +kernel
theorem dX7_copyStep_48 : decode cX7_copyStep 48 = .ok (.return_, 1) := by decide +kernel
theorem dX7_isAllOfALoop_0 : decode cX7_isAllOfALoop 0 = .ok (.iload_n 1, 1) := by decide +kernel
theorem dX7_isAllOfALoop_1 : decode cX7_isAllOfALoop 1 = .ok (.iconst 1, 1) := by decide +kernel
theorem dX7_isAllOfALoop_2 : decode cX7_isAllOfALoop 2 = .ok (.iadd, 1) := by decide +kernel
theorem dX7_isAllOfALoop_3 : decode cX7_isAllOfALoop 3 = .ok (.istore_n 2, 1) := by decide +kernel
theorem dX7_isAllOfALoop_4 : decode cX7_isAllOfALoop 4 = .ok (.iload_n 2, 1) := by decide +kernel
theorem dX7_isAllOfALoop_5 : decode cX7_isAllOfALoop 5 = .ok (.aload_n 0, 1) := by decide +kernel
theorem dX7_isAllOfALoop_6 : decode cX7_isAllOfALoop 6 = .ok (.getfield 24, 3) := by decide +kernel
theorem dX7_isAllOfALoop_9 : decode cX7_isAllOfALoop 9 = .ok (.if_icmp .ge 27, 3) := by decide +kernel
theorem dX7_isAllOfALoop_12 : decode cX7_isAllOfALoop 12 = .ok (.aload_n 0, 1) := by decide +kernel
theorem dX7_isAllOfALoop_13 : decode cX7_isAllOfALoop 13 = .ok (.getfield 9, 3) := by decide +kernel
theorem dX7_isAllOfALoop_16 : decode cX7_isAllOfALoop 16 = .ok (.iload_n 2, 1) := by decide +kernel
theorem dX7_isAllOfALoop_17 : decode cX7_isAllOfALoop 17 = .ok (.iaload, 1) := by decide +kernel
theorem dX7_isAllOfALoop_18 : decode cX7_isAllOfALoop 18 = .ok (.iconst 4, 1) := by decide +kernel
theorem dX7_isAllOfALoop_19 : decode cX7_isAllOfALoop 19 = .ok (.if_icmp .ne 17, 3) := by decide +kernel
theorem dX7_isAllOfALoop_22 : decode cX7_isAllOfALoop 22 = .ok (.aload_n 0, 1) := by decide +kernel
theorem dX7_isAllOfALoop_23 : decode cX7_isAllOfALoop 23 = .ok (.getfield 15, 3) := by decide +kernel
theorem dX7_isAllOfALoop_26 : decode cX7_isAllOfALoop 26 = .ok (.iload_n 2, 1) := by decide +kernel
theorem dX7_isAllOfALoop_27 : decode cX7_isAllOfALoop 27 = .ok (.iaload, 1) := by decide +kernel
theorem dX7_isAllOfALoop_28 : decode cX7_isAllOfALoop 28 = .ok (.iload_n 1, 1) := by decide +kernel
theorem dX7_isAllOfALoop_29 : decode cX7_isAllOfALoop 29 = .ok (.if_icmp .ne 7, 3) := by decide +kernel
theorem dX7_isAllOfALoop_32 : decode cX7_isAllOfALoop 32 = .ok (.iconst 1, 1) := by decide +kernel
theorem dX7_isAllOfALoop_33 : decode cX7_isAllOfALoop 33 = .ok (.goto 4, 3) := by decide +kernel
theorem dX7_isAllOfALoop_36 : decode cX7_isAllOfALoop 36 = .ok (.iconst 0, 1) := by decide +kernel
theorem dX7_isAllOfALoop_37 : decode cX7_isAllOfALoop 37 = .ok (.ireturn, 1) := by decide +kernel
theorem dX7_behindLastLoop_0 : decode cX7_behindLastLoop 0 = .ok (.iconst 0, 1) := by decide +kernel
theorem dX7_behindLastLoop_1 : decode cX7_behindLastLoop 1 = .ok (.istore_n 1, 1) := by decide +kernel
theorem dX7_behindLastLoop_2 : decode cX7_behindLastLoop 2 = .ok (.iconst 0, 1) := by decide +kernel
theorem dX7_behindLastLoop_3 : decode cX7_behindLastLoop 3 = .ok (.istore_n 2, 1) := by decide +kernel
theorem dX7_behindLastLoop_4 : decode cX7_behindLastLoop 4 = .ok (.iload_n 2, 1) := by decide +kernel
theorem dX7_behindLastLoop_5 : decode cX7_behindLastLoop 5 = .ok (.aload_n 0, 1) := by decide +kernel
theorem dX7_behindLastLoop_6 : decode cX7_behindLastLoop 6 = .ok (.getfield 24, 3) := by decide +kernel
theorem dX7_behindLastLoop_9 : decode cX7_behindLastLoop 9 = .ok (.if_icmp .ge 23, 3) := by decide +kernel
theorem dX7_behindLastLoop_12 : decode cX7_behindLastLoop 12 = .ok (.aload_n 0, 1) := by decide +kernel
theorem dX7_behindLastLoop_13 : decode cX7_behindLastLoop 13 = .ok (.getfield 9, 3) := by decide +kernel
theorem dX7_behindLastLoop_16 : decode cX7_behindLastLoop 16 = .ok (.iload_n 2, 1) := by decide +kernel
theorem dX7_behindLastLoop_17 : decode cX7_behindLastLoop 17 = .ok (.iaload, 1) := by decide +kernel
theorem dX7_behindLastLoop_18 : decode cX7_behindLastLoop 18 = .ok (.iconst 4, 1) := by decide +kernel
theorem dX7_behindLastLoop_19 : decode cX7_behindLastLoop 19 = .ok (.if_icmp .ne 7, 3) := by decide +kernel
theorem dX7_behindLastLoop_22 : decode cX7_behindLastLoop 22 = .ok (.iload_n 2, 1) := by decide +kernel
theorem dX7_behindLastLoop_23 : decode cX7_behindLastLoop 23 = .ok (.iconst 1, 1) := by decide +kernel
theorem dX7_behindLastLoop_24 : decode cX7_behindLastLoop 24 = .ok (.iadd, 1) := by decide +kernel
theorem dX7_behindLastLoop_25 : decode cX7_behindLastLoop 25 = .ok (.istore_n 1, 1) := by decide +kernel
theorem dX7_behindLastLoop_26 : decode cX7_behindLastLoop 26 = .ok (.iinc 2 1, 3) := by decide +kernel
theorem dX7_behindLastLoop_29 : decode cX7_behindLastLoop 29 = .ok (.goto (-25), 3) := by decide +kernel
theorem dX7_behindLastLoop_32 : decode cX7_behindLastLoop 32 = .ok (.iload_n 1, 1) := by decide +kernel
theorem dX7_behindLastLoop_33 : decode cX7_behindLastLoop 33 = .ok (.ireturn, 1) := by decide +kernel
theorem dX7_countLoops_0 : decode cX7_countLoops 0 = .ok (.iconst 0, 1) := by decide +kernel
theorem dX7_countLoops_1 : decode cX7_countLoops 1 = .ok (.istore_n 1, 1) := by decide +kernel
theorem dX7_countLoops_2 : decode cX7_countLoops 2 = .ok (.iconst 0, 1) := by decide +kernel
theorem dX7_countLoops_3 : decode cX7_countLoops 3 = .ok (.istore_n 2, 1) := by decide +kernel
theorem dX7_countLoops_4 : decode cX7_countLoops 4 = .ok (.iload_n 2, 1) := by decide +kernel
theorem dX7_countLoops_5 : decode cX7_countLoops 5 = .ok (.aload_n 0, 1) := by decide +kernel
theorem dX7_countLoops_6 : decode cX7_countLoops 6 = .ok (.getfield 24, 3) := by decide +kernel
theorem dX7_countLoops_9 : decode cX7_countLoops 9 = .ok (.if_icmp .ge 22, 3) := by decide +kernel
theorem dX7_countLoops_12 : decode cX7_countLoops 12 = .ok (.aload_n 0, 1) := by decide +kernel
theorem dX7_countLoops_13 : decode cX7_countLoops 13 = .ok (.getfield 9, 3) := by decide +kernel
theorem dX7_countLoops_16 : decode cX7_countLoops 16 = .ok (.iload_n 2, 1) := by decide +kernel
theorem dX7_countLoops_17 : decode cX7_countLoops 17 = .ok (.iaload, 1) := by decide +kernel
theorem dX7_countLoops_18 : decode cX7_countLoops 18 = .ok (.iconst 4, 1) := by decide +kernel
theorem dX7_countLoops_19 : decode cX7_countLoops 19 = .ok (.if_icmp .ne 6, 3) := by decide +kernel
theorem dX7_countLoops_22 : decode cX7_countLoops 22 = .ok (.iinc 1 1, 3) := by decide +kernel
theorem dX7_countLoops_25 : decode cX7_countLoops 25 = .ok (.iinc 2 1, 3) := by decide +kernel
theorem dX7_countLoops_28 : decode cX7_countLoops 28 = .ok (.goto (-24), 3) := by decide +kernel
theorem dX7_countLoops_31 : decode cX7_countLoops 31 = .ok (.iload_n 1, 1) := by decide +kernel
theorem dX7_countLoops_32 : decode cX7_countLoops 32 = .ok (.ireturn, 1) := by decide +kernel
theorem dX8_init_0 : decode cX8_init 0 = .ok (.aload_n 0, 1) := by decide +kernel
theorem dX8_init_1 : decode cX8_init 1 = .ok (.invokespecial 1, 3) := by decide +kernel
theorem dX8_init_4 : decode cX8_init 4 = .ok (.aload_n 0, 1) := by decide +kernel
theorem dX8_init_5 : decode cX8_init 5 = .ok (.new 7, 3) := by decide +kernel
theorem dX8_init_8 : decode cX8_init 8 = .ok (.dup, 1) := by decide +kernel
theorem dX8_init_9 : decode cX8_init 9 = .ok (.invokespecial 9, 3) := by decide +kernel
theorem dX8_init_12 : decode cX8_init 12 = .ok (.putfield 10, 3) := by decide +kernel
theorem dX8_init_15 : decode cX8_init 15 = .ok (.aload_n 0, 1) := by decide +kernel
theorem dX8_init_16 : decode cX8_init 16 = .ok (.new 16, 3) := by decide +kernel
theorem dX8_init_19 : decode cX8_init 19 = .ok (.dup, 1) := by decide +kernel
theorem dX8_init_20 : decode cX8_init 20 = .ok (.invokespecial 18, 3) := by decide +kernel
theorem dX8_init_23 : decode cX8_init 23 = .ok (.putfield 19, 3) := by decide +kernel
theorem dX8_init_26 : decode cX8_init 26 = .ok (.aload_n 0, 1) := by decide +kernel
theorem dX8_init_27 : decode cX8_init 27 = .ok (.new 23, 3) := by decide +kernel
theorem dX8_init_30 : decode cX8_init 30 = .ok (.dup, 1) := by decide +kernel
theorem dX8_init_31 : decode cX8_init 31 = .ok (.invokespecial 25, 3) := by decide +kernel
theorem dX8_init_34 : decode cX8_init 34 = .ok (.putfield 26, 3) := by decide +kernel
theorem dX8_init_37 : decode cX8_init 37 = .ok (.aload_n 0, 1) := by decide +kernel
theorem dX8_init_38 : decode cX8_init 38 = .ok (.new 30, 3) := by decide +kernel
theorem dX8_init_41 : decode cX8_init 41 = .ok (.dup, 1) := by decide +kernel
theorem dX8_init_42 : decode cX8_init 42 = .ok (.invokespecial 32, 3) := by decide +kernel
theorem dX8_init_45 : decode cX8_init 45 = .ok (.putfield 33, 3) := by decide +kernel
theorem dX8_init_48 : decode cX8_init 48 = .ok (.aload_n 0, 1) := by decide +kernel
theorem dX8_init_49 : decode cX8_init 49 = .ok (.new 37, 3) := by decide +kernel
theorem dX8_init_52 : decode cX8_init 52 = .ok (.dup, 1) := by decide +kernel
theorem dX8_init_53 : decode cX8_init 53 = .ok (.invokespecial 39, 3) := by decide +kernel
theorem dX8_init_56 : decode cX8_init 56 = .ok (.putfield 40, 3) := by decide +kernel
theorem dX8_init_59 : decode cX8_init 59 = .ok (.aload_n 0, 1) := by decide +kernel
theorem dX8_init_60 : decode cX8_init 60 = .ok (.new 44, 3) := by decide +kernel
theorem dX8_init_63 : decode cX8_init 63 = .ok (.dup, 1) := by decide +kernel
theorem dX8_init_64 : decode cX8_init 64 = .ok (.invokespecial 46, 3) := by decide +kernel
theorem dX8_init_67 : decode cX8_init 67 = .ok (.putfield 47, 3) := by decide +kernel
theorem dX8_init_70 : decode cX8_init 70 = .ok (.aload_n 0, 1) := by decide +kernel
theorem dX8_init_71 : decode cX8_init 71 = .ok (.new 23, 3) := by decide +kernel
theorem dX8_init_74 : decode cX8_init 74 = .ok (.dup, 1) := by decide +kernel
theorem dX8_init_75 : decode cX8_init 75 = .ok (.invokespecial 25, 3) := by decide +kernel
theorem dX8_init_78 : decode cX8_init 78 = .ok (.putfield 51, 3) := by decide +kernel
theorem dX8_init_81 : decode cX8_init 81 = .ok (.aload_n 0, 1) := by decide +kernel
theorem dX8_init_82 : decode cX8_init 82 = .ok (.new 44, 3) := by decide +kernel
theorem dX8_init_85 : decode cX8_init 85 = .ok (.dup, 1) := by decide +kernel
theorem dX8_init_86 : decode cX8_init 86 = .ok (.invokespecial 46, 3) := by decide +kernel
theorem dX8_init_89 : decode cX8_init 89 = .ok (.putfield 54, 3) := by decide +kernel
theorem dX8_init_92 : decode cX8_init 92 = .ok (.aload_n 0, 1) := by decide +kernel
theorem dX8_init_93 : decode cX8_init 93 = .ok (.new 57, 3) := by decide +kernel
theorem dX8_init_96 : decode cX8_init 96 = .ok (.dup, 1) := by decide +kernel
theorem dX8_init_97 : decode cX8_init 97 = .ok (.invokespecial 59, 3) := by decide +kernel
theorem dX8_init_100 : decode cX8_init 100 = .ok (.putfield 60, 3) := by decide +kernel
theorem dX8_init_103 : decode cX8_init 103 = .ok (.aload_n 0, 1) := by decide +kernel
theorem dX8_init_104 : decode cX8_init 104 = .ok (.new 64, 3) := by decide +kernel
theorem dX8_init_107 : decode cX8_init 107 = .ok (.dup, 1) := by decide +kernel
theorem dX8_init_108 : decode cX8_init 108 = .ok (.invokespecial 66, 3) := by decide +kernel
theorem dX8_init_111 : decode cX8_init 111 = .ok (.putfield 67, 3) := by decide +kernel
theorem dX8_init_114 : decode cX8_init 114 = .ok (.aload_n 0, 1) := by decide +kernel
theorem dX8_init_115 : decode cX8_init 115 = .ok (.iconst 0, 1) := by decide +kernel
theorem dX8_init_116 : decode cX8_init 116 = .ok (.putfield 71, 3) := by decide +kernel
theorem dX8_init_119 : decode cX8_init 119 = .ok (.aload_n 0, 1) := by decide +kernel
theorem dX8_init_120 : decode cX8_init 120 = .ok (.iconst 0, 1) := by decide +kernel
theorem dX8_init_121 : decode cX8_init 121 = .ok (.putfield 75, 3) := by decide +kernel
theorem dX8_init_124 : decode cX8_init 124 = .ok (.return_, 1) := by decide +kernel
theorem dX8_letter_0 : decode cX8_letter 0 = .ok (.iload_n 1, 1) := by decide +kernel
theorem dX8_letter_1 : decode cX8_letter 1 = .ok (.iconst 1, 1) := by decide +kernel
theorem dX8_letter_2 : decode cX8_letter 2 = .ok (.if_icmp .lt 9, 3) := by decide +kernel
theorem dX8_letter_5 : decode cX8_letter 5 = .ok (.iload_n 1, 1) := by decide +kernel
theorem dX8_letter_6 : decode cX8_letter 6 = .ok (.bipush 126, 2) := by decide +kernel
theorem dX8_letter_8 : decode cX8_letter 8 = .ok (.if_icmp .le 6, 3) := by decide +kernel
theorem dX8_letter_11 : decode cX8_letter 11 = .ok (.bipush (-102), 2) := by decide +kernel
theorem dX8_letter_13 : decode cX8_letter 13 = .ok (.ireturn, 1) := by decide +kernel
theorem dX8_letter_14 : decode cX8_letter 14 = .ok (.aload_n 0, 1) := by decide +kernel
theorem dX8_letter_15 : decode cX8_letter 15 = .ok (.getfield 10, 3) := by decide +kernel
theorem dX8_letter_18 : decode cX8_letter 18 = .ok (.getfield 79, 3) := by decide +kernel
theorem dX8_letter_21 : decode cX8_letter 21 = .ok (.bipush 36, 2) := by decide +kernel
theorem dX8_letter_23 : decode cX8_letter 23 = .ok (.if_icmp .lt 6, 3) := by decide +kernel
theorem dX8_letter_26 : decode cX8_letter 26 = .ok (.bipush (-104), 2) := by decide +kernel
theorem dX8_letter_28 : decode cX8_letter 28 = .ok (.ireturn, 1) := by decide +kernel
theorem dX8_letter_29 : decode cX8_letter 29 = .ok (.aload_n 0, 1) := by decide +kernel
theorem dX8_letter_30 : decode cX8_letter 30 = .ok (.getfield 10, 3) := by decide +kernel
theorem dX8_letter_33 : decode cX8_letter 33 = .ok (.iload_n 1, 1) := by decide +kernel
theorem dX8_letter_34 : decode cX8_letter 34 = .ok (.invokevirtual 82, 3) := by decide +kernel
theorem dX8_letter_37 : decode cX8_letter 37 = .ok (.aload_n 0, 1) := by decide +kernel
theorem dX8_letter_38 : decode cX8_letter 38 = .ok (.getfield 10, 3) := by decide +kernel
theorem dX8_letter_41 : decode cX8_letter 41 = .ok (.getfield 79, 3) := by decide +kernel
theorem dX8_letter_44 : decode cX8_letter 44 = .ok (.ireturn, 1) := by decide +kernel
theorem dX8_blank_0 : decode cX8_blank 0 = .ok (.aload_n 0, 1) := by decide +kernel
theorem dX8_blank_1 : decode cX8_blank 1 = .ok (.getfield 10, 3) := by decide +kernel
theorem dX8_blank_4 : decode cX8_blank 4 = .ok (.getfield 79, 3) := by decide +kernel
theorem dX8_blank_7 : decode cX8_blank 7 = .ok (.istore_n 1, 1) := by decide +kernel
theorem dX8_blank_8 : decode cX8_blank 8 = .ok (.aload_n 0, 1) := by decide +kernel
theorem dX8_blank_9 : decode cX8_blank 9 = .ok (.getfield 10, 3) := by decide +kernel
theorem dX8_blank_12 : decode cX8_blank 12 = .ok (.iconst 0, 1) := by decide +kernel
theorem dX8_blank_13 : decode cX8_blank 13 = .ok (.putfield 79, 3) := by decide +kernel
theorem dX8_blank_16 : decode cX8_blank 16 = .ok (.iload_n 1, 1) := by decide +kernel
theorem dX8_blank_17 : decode cX8_blank 17 = .ok (.ireturn, 1) := by decide +kernel
theorem dX8_fault_0 : decode cX8_fault 0 = .ok (.aload_n 0, 1) := by decide +kernel
theorem dX8_fault_1 : decode cX8_fault 1 = .ok (.getfield 19, 3) := by decide +kernel
theorem dX8_fault_4 : decode cX8_fault 4 = .ok (.aload_n 0, 1) := by decide +kernel
theorem dX8_fault_5 : decode cX8_fault 5 = .ok (.getfield 10, 3) := by decide +kernel
theorem dX8_fault_8 : decode cX8_fault 8 = .ok (.invokevirtual 86, 3) := by decide +kernel
theorem dX8_fault_11 : decode cX8_fault 11 = .ok (.ireturn, 1) := by decide +kernel
theorem dX8_program_0 : decode cX8_program 0 = .ok (.aload_n 0, 1) := by decide +kernel
theorem dX8_program_1 : decode cX8_program 1 = .ok (.getfield 19, 3) := by decide +kernel
theorem dX8_program_4 : decode cX8_program 4 = .ok (.aload_n 0, 1) := by decide +kernel
theorem dX8_program_5 : decode cX8_program 5 = .ok (.getfield 10, 3) := by decide +kernel
theorem dX8_program_8 : decode cX8_program 8 = .ok (.invokevirtual 86, 3) := by decide +kernel
theorem dX8_program_11 : decode cX8_program 11 = .ok (.aload_n 0, 1) := by decide +kernel
theorem dX8_program_12 : decode cX8_program 12 = .ok (.getfield 10, 3) := by decide +kernel
theorem dX8_program_15 : decode cX8_program 15 = .ok (.getfield 79, 3) := by decide +kernel
theorem dX8_program_18 : decode cX8_program 18 = .ok (.if_icmp .lt 13, 3) := by decide +kernel
theorem dX8_program_21 : decode cX8_program 21 = .ok (.aload_n 0, 1) := by decide +kernel
theorem dX8_program_22 : decode cX8_program 22 = .ok (.getfield 19, 3) := by decide +kernel
theorem dX8_program_25 : decode cX8_program 25 = .ok (.invokevirtual 90, 3) := by decide +kernel
theorem dX8_program_28 : decode cX8_program 28 = .ok (.ifCond .ne 6, 3) := by decide +kernel
theorem dX8_program_31 : decode cX8_program 31 = .ok (.bipush (-103), 2) := by decide +kernel
theorem dX8_program_33 : decode cX8_program 33 = .ok (.ireturn, 1) := by decide +kernel
theorem dX8_program_34 : decode cX8_program 34 = .ok (.aload_n 0, 1) := by decide +kernel
theorem dX8_program_35 : decode cX8_program 35 = .ok (.getfield 26, 3) := by decide +kernel
theorem dX8_program_38 : decode cX8_program 38 = .ok (.aload_n 0, 1) := by decide +kernel
theorem dX8_program_39 : decode cX8_program 39 = .ok (.getfield 19, 3) := by decide +kernel
theorem dX8_program_42 : decode cX8_program 42 = .ok (.getfield 94, 3) := by decide +kernel
theorem dX8_program_45 : decode cX8_program 45 = .ok (.invokevirtual 97, 3) := by decide +kernel
theorem dX8_program_48 : decode cX8_program 48 = .ok (.aload_n 0, 1) := by decide +kernel
theorem dX8_program_49 : decode cX8_program 49 = .ok (.getfield 10, 3) := by decide +kernel
theorem dX8_program_52 : decode cX8_program 52 = .ok (.iconst 0, 1) := by decide +kernel
theorem dX8_program_53 : decode cX8_program 53 = .ok (.putfield 79, 3) := by decide +kernel
theorem dX8_program_56 : decode cX8_program 56 = .ok (.aload_n 0, 1) := by decide +kernel
theorem dX8_program_57 : decode cX8_program 57 = .ok (.getfield 47, 3) := by decide +kernel
theorem dX8_program_60 : decode cX8_program 60 = .ok (.iconst 0, 1) := by decide +kernel
theorem dX8_program_61 : decode cX8_program 61 = .ok (.putfield 101, 3) := by decide +kernel
theorem dX8_program_64 : decode cX8_program 64 = .ok (.aload_n 0, 1) := by decide +kernel
theorem dX8_program_65 : decode cX8_program 65 = .ok (.iconst 0, 1) := by decide +kernel
theorem dX8_program_66 : decode cX8_program 66 = .ok (.putfield 71, 3) := by decide +kernel
theorem dX8_program_69 : decode cX8_program 69 = .ok (.aload_n 0, 1) := by decide +kernel
theorem dX8_program_70 : decode cX8_program 70 = .ok (.dup, 1) := by decide +kernel
theorem dX8_program_71 : decode cX8_program 71 = .ok (.getfield 75, 3) := by decide +kernel
theorem dX8_program_74 : decode cX8_program 74 = .ok (.iconst 1, 1) := by decide +kernel
theorem dX8_program_75 : decode cX8_program 75 = .ok (.iadd, 1) := by decide +kernel
theorem dX8_program_76 : decode cX8_program 76 = .ok (.putfield 75, 3) := by decide +kernel
theorem dX8_program_79 : decode cX8_program 79 = .ok (.aload_n 0, 1) := by decide +kernel
theorem dX8_program_80 : decode cX8_program 80 = .ok (.invokevirtual 102, 3) := by decide +kernel
theorem dX8_program_83 : decode cX8_program 83 = .ok (.aload_n 0, 1) := by decide +kernel
theorem dX8_program_84 : decode cX8_program 84 = .ok (.getfield 26, 3) := by decide +kernel
theorem dX8_program_87 : decode cX8_program 87 = .ok (.getfield 105, 3) := by decide +kernel
theorem dX8_program_90 : decode cX8_program 90 = .ok (.ireturn, 1) := by decide +kernel
theorem dX8_step_0 : decode cX8_step 0 = .ok (.aload_n 0, 1) := by decide +kernel
theorem dX8_step_1 : decode cX8_step 1 = .ok (.iload_n 1, 1) := by decide +kernel
theorem dX8_step_2 : decode cX8_step 2 = .ok (.invokevirtual 106, 3) := by decide +kernel
theorem dX8_step_5 : decode cX8_step 5 = .ok (.ifCond .ne 6, 3) := by decide +kernel
theorem dX8_step_8 : decode cX8_step 8 = .ok (.bipush (-101), 2) := by decide +kernel
theorem dX8_step_10 : decode cX8_step 10 = .ok (.ireturn, 1) := by decide +kernel
theorem dX8_step_11 : decode cX8_step 11 = .ok (.iload_n 2, 1) := by decide +kernel
theorem dX8_step_12 : decode cX8_step 12 = .ok (.tableswitch 168 0 8 #[52, 62, 72, 82, 114, 126, 138, 147, 156], 52) := by decide +kernel
theorem dX8_step_64 : decode cX8_step 64 = .ok (.aload_n 0, 1) := by decide +kernel
theorem dX8_step_65 : decode cX8_step 65 = .ok (.getfield 26, 3) := by decide +kernel
theorem dX8_step_68 : decode cX8_step 68 = .ok (.getfield 110, 3) := by decide +kernel
theorem dX8_step_71 : decode cX8_step 71 = .ok (.iload_n 1, 1) := by decide +kernel
theorem dX8_step_72 : decode cX8_step 72 = .ok (.iaload, 1) := by decide +kernel
theorem dX8_step_73 : decode cX8_step 73 = .ok (.ireturn, 1) := by decide +kernel
theorem dX8_step_74 : decode cX8_step 74 = .ok (.aload_n 0, 1) := by decide +kernel
theorem dX8_step_75 : decode cX8_step 75 = .ok (.getfield 26, 3) := by decide +kernel
theorem dX8_step_78 : decode cX8_step 78 = .ok (.getfield 114, 3) := by decide +kernel
theorem dX8_step_81 : decode cX8_step 81 = .ok (.iload_n 1, 1) := by decide +kernel
theorem dX8_step_82 : decode cX8_step 82 = .ok (.iaload, 1) := by decide +kernel
theorem dX8_step_83 : decode cX8_step 83 = .ok (.ireturn, 1) := by decide +kernel
theorem dX8_step_84 : decode cX8_step 84 = .ok (.aload_n 0, 1) := by decide +kernel
theorem dX8_step_85 : decode cX8_step 85 = .ok (.getfield 26, 3) := by decide +kernel
theorem dX8_step_88 : decode cX8_step 88 = .ok (.getfield 117, 3) := by decide +kernel
theorem dX8_step_91 : decode cX8_step 91 = .ok (.iload_n 1, 1) := by decide +kernel
theorem dX8_step_92 : decode cX8_step 92 = .ok (.iaload, 1) := by decide +kernel
theorem dX8_step_93 : decode cX8_step 93 = .ok (.ireturn, 1) := by decide +kernel
theorem dX8_step_94 : decode cX8_step 94 = .ok (.aload_n 0, 1) := by decide +kernel
theorem dX8_step_95 : decode cX8_step 95 = .ok (.getfield 26, 3) := by decide +kernel
theorem dX8_step_98 : decode cX8_step 98 = .ok (.getfield 110, 3) := by decide +kernel
theorem dX8_step_101 : decode cX8_step 101 = .ok (.iload_n 1, 1) := by decide +kernel
theorem dX8_step_102 : decode cX8_step 102 = .ok (.iaload, 1) := by decide +kernel
theorem dX8_step_103 : decode cX8_step 103 = .ok (.invokestatic 120, 3) := by decide +kernel
theorem dX8_step_106 : decode cX8_step 106 = .ok (.ifCond .eq 18, 3) := by decide +kernel
theorem dX8_step_109 : decode cX8_step 109 = .ok (.aload_n 0, 1) := by decide +kernel
theorem dX8_step_110 : decode cX8_step 110 = .ok (.getfield 26, 3) := by decide +kernel
theorem dX8_step_113 : decode cX8_step 113 = .ok (.getfield 123, 3) := by decide +kernel
theorem dX8_step_116 : decode cX8_step 116 = .ok (.iload_n 1, 1) := by decide +kernel
theorem dX8_step_117 : decode cX8_step 117 = .ok (.iaload, 1) := by decide +kernel
theorem dX8_step_118 : decode cX8_step 118 = .ok (.bipush 100, 2) := by decide +kernel
theorem dX8_step_120 : decode cX8_step 120 = .ok (.iadd, 1) := by decide +kernel
theorem dX8_step_121 : decode cX8_step 121 = .ok (.goto 4, 3) := by decide +kernel
theorem dX8_step_124 : decode cX8_step 124 = .ok (.iconst (-1), 1) := by decide +kernel
theorem dX8_step_125 : decode cX8_step 125 = .ok (.ireturn, 1) := by decide +kernel
theorem dX8_step_126 : decode cX8_step 126 = .ok (.aload_n 0, 1) := by decide +kernel
theorem dX8_step_127 : decode cX8_step 127 = .ok (.getfield 33, 3) := by decide +kernel
theorem dX8_step_130 : decode cX8_step 130 = .ok (.iload_n 1, 1) := by decide +kernel
theorem dX8_step_131 : decode cX8_step 131 = .ok (.invokevirtual 126, 3) := by decide +kernel
theorem dX8_step_134 : decode cX8_step 134 = .ok (.invokestatic 129, 3) := by decide +kernel
theorem dX8_step_137 : decode cX8_step 137 = .ok (.ireturn, 1) := by decide +kernel
theorem dX8_step_138 : decode cX8_step 138 = .ok (.aload_n 0, 1) := by decide +kernel
theorem dX8_step_139 : decode cX8_step 139 = .ok (.getfield 33, 3) := by decide +kernel
theorem dX8_step_142 : decode cX8_step 142 = .ok (.iload_n 1, 1) := by decide +kernel
theorem dX8_step_143 : decode cX8_step 143 = .ok (.invokevirtual 133, 3) := by decide +kernel
theorem dX8_step_146 : decode cX8_step 146 = .ok (.invokestatic 129, 3) := by decide +kernel
theorem dX8_step_149 : decode cX8_step 149 = .ok (.ireturn, 1) := by decide +kernel
theorem dX8_step_150 : decode cX8_step 150 = .ok (.aload_n 0, 1) := by decide +kernel
theorem dX8_step_151 : decode cX8_step 151 = .ok (.iload_n 1, 1) := by decide +kernel
theorem dX8_step_152 : decode cX8_step 152 = .ok (.invokevirtual 136, 3) := by decide +kernel
theorem dX8_step_155 : decode cX8_step 155 = .ok (.invokestatic 129, 3) := by decide +kernel
theorem dX8_step_158 : decode cX8_step 158 = .ok (.ireturn, 1) := by decide +kernel
theorem dX8_step_159 : decode cX8_step 159 = .ok (.aload_n 0, 1) := by decide +kernel
theorem dX8_step_160 : decode cX8_step 160 = .ok (.getfield 47, 3) := by decide +kernel
theorem dX8_step_163 : decode cX8_step 163 = .ok (.iload_n 1, 1) := by decide +kernel
theorem dX8_step_164 : decode cX8_step 164 = .ok (.invokevirtual 139, 3) := by decide +kernel
theorem dX8_step_167 : decode cX8_step 167 = .ok (.ireturn, 1) := by decide +kernel
theorem dX8_step_168 : decode cX8_step 168 = .ok (.aload_n 0, 1) := by decide +kernel
theorem dX8_step_169 : decode cX8_step 169 = .ok (.getfield 47, 3) := by decide +kernel
theorem dX8_step_172 : decode cX8_step 172 = .ok (.iload_n 1, 1) := by decide +kernel
theorem dX8_step_173 : decode cX8_step 173 = .ok (.invokevirtual 139, 3) := by decide +kernel
theorem dX8_step_176 : decode cX8_step 176 = .ok (.invokestatic 143, 3) := by decide +kernel
theorem dX8_step_179 : decode cX8_step 179 = .ok (.ireturn, 1) := by decide +kernel
theorem dX8_step_180 : decode cX8_step 180 = .ok (.bipush (-102), 2) := by decide +kernel
theorem dX8_step_182 : decode cX8_step 182 = .ok (.ireturn, 1) := by decide +kernel
theorem dX8_as_0 : decode cX8_as 0 = .ok (.aload_n 0, 1) := by decide +kernel
theorem dX8_as_1 : decode cX8_as 1 = .ok (.iload_n 1, 1) := by decide +kernel
theorem dX8_as_2 : decode cX8_as 2 = .ok (.invokevirtual 106, 3) := by decide +kernel
theorem dX8_as_5 : decode cX8_as 5 = .ok (.ifCond .ne 6, 3) := by decide +kernel
theorem dX8_as_8 : decode cX8_as 8 = .ok (.bipush (-101), 2) := by decide +kernel
theorem dX8_as_10 : decode cX8_as 10 = .ok (.ireturn, 1) := by decide +kernel
theorem dX8_as_11 : decode cX8_as 11 = .ok (.iload_n 2, 1) := by decide +kernel
theorem dX8_as_12 : decode cX8_as 12 = .ok (.invokestatic 146, 3) := by decide +kernel
theorem dX8_as_15 : decode cX8_as 15 = .ok (.ifCond .ne 6, 3) := by decide +kernel
theorem dX8_as_18 : decode cX8_as 18 = .ok (.bipush (-102), 2) := by decide +kernel
theorem dX8_as_20 : decode cX8_as 20 = .ok (.ireturn, 1) := by decide +kernel
theorem dX8_as_21 : decode cX8_as 21 = .ok (.aload_n 0, 1) := by decide +kernel
theorem dX8_as_22 : decode cX8_as 22 = .ok (.getfield 26, 3) := by decide +kernel
theorem dX8_as_25 : decode cX8_as 25 = .ok (.getfield 110, 3) := by decide +kernel
theorem dX8_as_28 : decode cX8_as 28 = .ok (.iload_n 1, 1) := by decide +kernel
theorem dX8_as_29 : decode cX8_as 29 = .ok (.iaload, 1) := by decide +kernel
theorem dX8_as_30 : decode cX8_as 30 = .ok (.iload_n 2, 1) := by decide +kernel
theorem dX8_as_31 : decode cX8_as 31 = .ok (.invokestatic 149, 3) := by decide +kernel
theorem dX8_as_34 : decode cX8_as 34 = .ok (.ifCond .eq 7, 3) := by decide +kernel
theorem dX8_as_37 : decode cX8_as 37 = .ok (.iload_n 1, 1) := by decide +kernel
theorem dX8_as_38 : decode cX8_as 38 = .ok (.goto 4, 3) := by decide +kernel
theorem dX8_as_41 : decode cX8_as 41 = .ok (.iconst (-1), 1) := by decide +kernel
theorem dX8_as_42 : decode cX8_as 42 = .ok (.ireturn, 1) := by decide +kernel
theorem dX8_bound_0 : decode cX8_bound 0 = .ok (.aload_n 0, 1) := by decide +kernel
theorem dX8_bound_1 : decode cX8_bound 1 = .ok (.iload_n 1, 1) := by decide +kernel
theorem dX8_bound_2 : decode cX8_bound 2 = .ok (.invokevirtual 153, 3) := by decide +kernel
theorem dX8_bound_5 : decode cX8_bound 5 = .ok (.ifCond .ne 6, 3) := by decide +kernel
theorem dX8_bound_8 : decode cX8_bound 8 = .ok (.bipush (-101), 2) := by decide +kernel
theorem dX8_bound_10 : decode cX8_bound 10 = .ok (.ireturn, 1) := by decide +kernel
theorem dX8_bound_11 : decode cX8_bound 11 = .ok (.iload_n 2, 1) := by decide +kernel
theorem dX8_bound_12 : decode cX8_bound 12 = .ok (.invokestatic 156, 3) := by decide +kernel
theorem dX8_bound_15 : decode cX8_bound 15 = .ok (.ifCond .eq 10, 3) := by decide +kernel
theorem dX8_bound_18 : decode cX8_bound 18 = .ok (.iload_n 3, 1) := by decide +kernel
theorem dX8_bound_19 : decode cX8_bound 19 = .ok (.invokestatic 156, 3) := by decide +kernel
theorem dX8_bound_22 : decode cX8_bound 22 = .ok (.ifCond .ne 6, 3) := by decide +kernel
theorem dX8_bound_25 : decode cX8_bound 25 = .ok (.bipush (-102), 2) := by decide +kernel
theorem dX8_bound_27 : decode cX8_bound 27 = .ok (.ireturn, 1) := by decide +kernel
theorem dX8_bound_28 : decode cX8_bound 28 = .ok (.aload_n 0, 1) := by decide +kernel
theorem dX8_bound_29 : decode cX8_bound 29 = .ok (.getfield 33, 3) := by decide +kernel
theorem dX8_bound_32 : decode cX8_bound 32 = .ok (.getfield 159, 3) := by decide +kernel
theorem dX8_bound_35 : decode cX8_bound 35 = .ok (.iload_n 1, 1) := by decide +kernel
theorem dX8_bound_36 : decode cX8_bound 36 = .ok (.aaload, 1) := by decide +kernel
theorem dX8_bound_37 : decode cX8_bound 37 = .ok (.astore 4, 2) := by decide +kernel
theorem dX8_bound_39 : decode cX8_bound 39 = .ok (.aload 4, 2) := by decide +kernel
theorem dX8_bound_41 : decode cX8_bound 41 = .ok (.getfield 163, 3) := by decide +kernel
theorem dX8_bound_44 : decode cX8_bound 44 = .ok (.ifCond .eq 7, 3) := by decide +kernel
theorem dX8_bound_47 : decode cX8_bound 47 = .ok (.iconst (-1), 1) := by decide +kernel
theorem dX8_bound_48 : decode cX8_bound 48 = .ok (.goto 13, 3) := by decide +kernel
theorem dX8_bound_51 : decode cX8_bound 51 = .ok (.aload 4, 2) := by decide +kernel
theorem dX8_bound_53 : decode cX8_bound 53 = .ok (.iload_n 2, 1) := by decide +kernel
theorem dX8_bound_54 : decode cX8_bound 54 = .ok (.iload_n 3, 1) := by decide +kernel
theorem dX8_bound_55 : decode cX8_bound 55 = .ok (.invokevirtual 166, 3) := by decide +kernel
theorem dX8_bound_58 : decode cX8_bound 58 = .ok (.bipush 100, 2) := by decide +kernel
theorem dX8_bound_60 : decode cX8_bound 60 = .ok (.iadd, 1) := by decide +kernel
theorem dX8_bound_61 : decode cX8_bound 61 = .ok (.ireturn, 1) := by decide +kernel
theorem dX8_points_0 : decode cX8_points 0 = .ok (.aload_n 0, 1) := by decide +kernel
theorem dX8_points_1 : decode cX8_points 1 = .ok (.iload_n 1, 1) := by decide +kernel
theorem dX8_points_2 : decode cX8_points 2 = .ok (.invokevirtual 153, 3) := by decide +kernel
theorem dX8_points_5 : decode cX8_points 5 = .ok (.ifCond .ne 6, 3) := by decide +kernel
theorem dX8_points_8 : decode cX8_points 8 = .ok (.bipush (-101), 2) := by decide +kernel
theorem dX8_points_10 : decode cX8_points 10 = .ok (.ireturn, 1) := by decide +kernel
theorem dX8_points_11 : decode cX8_points 11 = .ok (.aload_n 0, 1) := by decide +kernel
theorem dX8_points_12 : decode cX8_points 12 = .ok (.getfield 33, 3) := by decide +kernel
theorem dX8_points_15 : decode cX8_points 15 = .ok (.iload_n 1, 1) := by decide +kernel
theorem dX8_points_16 : decode cX8_points 16 = .ok (.invokevirtual 170, 3) := by decide +kernel
theorem dX8_points_19 : decode cX8_points 19 = .ok (.ireturn, 1) := by decide +kernel
theorem dX8_has_0 : decode cX8_has 0 = .ok (.aload_n 0, 1) := by decide +kernel
theorem dX8_has_1 : decode cX8_has 1 = .ok (.iload_n 1, 1) := by decide +kernel
theorem dX8_has_2 : decode cX8_has 2 = .ok (.invokevirtual 153, 3) := by decide +kernel
theorem dX8_has_5 : decode cX8_has 5 = .ok (.ifCond .ne 6, 3) := by decide +kernel
theorem dX8_has_8 : decode cX8_has 8 = .ok (.bipush (-101), 2) := by decide +kernel
theorem dX8_has_10 : decode cX8_has 10 = .ok (.ireturn, 1) := by decide +kernel
theorem dX8_has_11 : decode cX8_has 11 = .ok (.iload_n 2, 1) := by decide +kernel
theorem dX8_has_12 : decode cX8_has 12 = .ok (.invokestatic 173, 3) := by decide +kernel
theorem dX8_has_15 : decode cX8_has 15 = .ok (.ifCond .eq 18, 3) := by decide +kernel
theorem dX8_has_18 : decode cX8_has 18 = .ok (.iload_n 3, 1) := by decide +kernel
theorem dX8_has_19 : decode cX8_has 19 = .ok (.invokestatic 173, 3) := by decide +kernel
theorem dX8_has_22 : decode cX8_has 22 = .ok (.ifCond .eq 11, 3) := by decide +kernel
theorem dX8_has_25 : decode cX8_has 25 = .ok (.iload 4, 2) := by decide +kernel
theorem dX8_has_27 : decode cX8_has 27 = .ok (.invokestatic 173, 3) := by decide +kernel
theorem dX8_has_30 : decode cX8_has 30 = .ok (.ifCond .ne 6, 3) := by decide +kernel
theorem dX8_has_33 : decode cX8_has 33 = .ok (.bipush (-102), 2) := by decide +kernel
theorem dX8_has_35 : decode cX8_has 35 = .ok (.ireturn, 1) := by decide +kernel
theorem dX8_has_36 : decode cX8_has 36 = .ok (.aload_n 0, 1) := by decide +kernel
theorem dX8_has_37 : decode cX8_has 37 = .ok (.getfield 33, 3) := by decide +kernel
theorem dX8_has_40 : decode cX8_has 40 = .ok (.getfield 159, 3) := by decide +kernel
theorem dX8_has_43 : decode cX8_has 43 = .ok (.iload_n 1, 1) := by decide +kernel
theorem dX8_has_44 : decode cX8_has 44 = .ok (.aaload, 1) := by decide +kernel
theorem dX8_has_45 : decode cX8_has 45 = .ok (.iload_n 2, 1) := by decide +kernel
theorem dX8_has_46 : decode cX8_has 46 = .ok (.iload_n 3, 1) := by decide +kernel
theorem dX8_has_47 : decode cX8_has 47 = .ok (.iload 4, 2) := by decide +kernel
theorem dX8_has_49 : decode cX8_has 49 = .ok (.invokevirtual 176, 3) := by decide +kernel
theorem dX8_has_52 : decode cX8_has 52 = .ok (.invokestatic 129, 3) := by decide +kernel
theorem dX8_has_55 : decode cX8_has 55 = .ok (.ireturn, 1) := by decide +kernel
theorem dX8_share_0 : decode cX8_share 0 = .ok (.aload_n 0, 1) := by decide +kernel
theorem dX8_share_1 : decode cX8_share 1 = .ok (.iload_n 1, 1) := by decide +kernel
theorem dX8_share_2 : decode cX8_share 2 = .ok (.invokevirtual 153, 3) := by decide +kernel
theorem dX8_share_5 : decode cX8_share 5 = .ok (.ifCond .ne 7, 3) := by decide +kernel
theorem dX8_share_8 : decode cX8_share 8 = .ok (.ldc2_w 180, 3) := by decide +kernel
theorem dX8_share_11 : decode cX8_share 11 = .ok (.lreturn, 1) := by decide +kernel
theorem dX8_share_12 : decode cX8_share 12 = .ok (.aload_n 0, 1) := by decide +kernel
theorem dX8_share_13 : decode cX8_share 13 = .ok (.getfield 33, 3) := by decide +kernel
theorem dX8_share_16 : decode cX8_share 16 = .ok (.iload_n 1, 1) := by decide +kernel
theorem dX8_share_17 : decode cX8_share 17 = .ok (.invokevirtual 170, 3) := by decide +kernel
theorem dX8_share_20 : decode cX8_share 20 = .ok (.invokestatic 182, 3) := by decide +kernel
theorem dX8_share_23 : decode cX8_share 23 = .ok (.lreturn, 1) := by decide +kernel
theorem dX8_compare_0 : decode cX8_compare 0 = .ok (.aload_n 0, 1) := by decide +kernel
theorem dX8_compare_1 : decode cX8_compare 1 = .ok (.iload_n 1, 1) := by decide +kernel
theorem dX8_compare_2 : decode cX8_compare 2 = .ok (.invokevirtual 153, 3) := by decide +kernel
theorem dX8_compare_5 : decode cX8_compare 5 = .ok (.ifCond .eq 11, 3) := by decide +kernel
theorem dX8_compare_8 : decode cX8_compare 8 = .ok (.aload_n 0, 1) := by decide +kernel
theorem dX8_compare_9 : decode cX8_compare 9 = .ok (.iload_n 2, 1) := by decide +kernel
theorem dX8_compare_10 : decode cX8_compare 10 = .ok (.invokevirtual 153, 3) := by decide +kernel
theorem dX8_compare_13 : decode cX8_compare 13 = .ok (.ifCond .ne 6, 3) := by decide +kernel
theorem dX8_compare_16 : decode cX8_compare 16 = .ok (.bipush (-101), 2) := by decide +kernel
theorem dX8_compare_18 : decode cX8_compare 18 = .ok (.ireturn, 1) := by decide +kernel
theorem dX8_compare_19 : decode cX8_compare 19 = .ok (.aload_n 0, 1) := by decide +kernel
theorem dX8_compare_20 : decode cX8_compare 20 = .ok (.getfield 33, 3) := by decide +kernel
theorem dX8_compare_23 : decode cX8_compare 23 = .ok (.getfield 159, 3) := by decide +kernel
theorem dX8_compare_26 : decode cX8_compare 26 = .ok (.iload_n 1, 1) := by decide +kernel
theorem dX8_compare_27 : decode cX8_compare 27 = .ok (.aaload, 1) := by decide +kernel
theorem dX8_compare_28 : decode cX8_compare 28 = .ok (.astore_n 3, 1) := by decide +kernel
theorem dX8_compare_29 : decode cX8_compare 29 = .ok (.aload_n 0, 1) := by decide +kernel
theorem dX8_compare_30 : decode cX8_compare 30 = .ok (.getfield 33, 3) := by decide +kernel
theorem dX8_compare_33 : decode cX8_compare 33 = .ok (.getfield 159, 3) := by decide +kernel
theorem dX8_compare_36 : decode cX8_compare 36 = .ok (.iload_n 2, 1) := by decide +kernel
theorem dX8_compare_37 : decode cX8_compare 37 = .ok (.aaload, 1) := by decide +kernel
theorem dX8_compare_38 : decode cX8_compare 38 = .ok (.astore 4, 2) := by decide +kernel
theorem dX8_compare_40 : decode cX8_compare 40 = .ok (.aload_n 3, 1) := by decide +kernel
theorem dX8_compare_41 : decode cX8_compare 41 = .ok (.aload 4, 2) := by decide +kernel
theorem dX8_compare_43 : decode cX8_compare 43 = .ok (.invokevirtual 186, 3) := by decide +kernel
theorem dX8_compare_46 : decode cX8_compare 46 = .ok (.istore 5, 2) := by decide +kernel
theorem dX8_compare_48 : decode cX8_compare 48 = .ok (.aload 4, 2) := by decide +kernel
theorem dX8_compare_50 : decode cX8_compare 50 = .ok (.aload_n 3, 1) := by decide +kernel
theorem dX8_compare_51 : decode cX8_compare 51 = .ok (.invokevirtual 186, 3) := by decide +kernel
theorem dX8_compare_54 : decode cX8_compare 54 = .ok (.istore 6, 2) := by decide +kernel
theorem dX8_compare_56 : decode cX8_compare 56 = .ok (.iload 5, 2) := by decide +kernel
theorem dX8_compare_58 : decode cX8_compare 58 = .ok (.ifCond .eq 10, 3) := by decide +kernel
theorem dX8_compare_61 : decode cX8_compare 61 = .ok (.iload 6, 2) := by decide +kernel
theorem dX8_compare_63 : decode cX8_compare 63 = .ok (.ifCond .eq 5, 3) := by decide +kernel
theorem dX8_compare_66 : decode cX8_compare 66 = .ok (.iconst 0, 1) := by decide +kernel
theorem dX8_compare_67 : decode cX8_compare 67 = .ok (.ireturn, 1) := by decide +kernel
theorem dX8_compare_68 : decode cX8_compare 68 = .ok (.iload 5, 2) := by decide +kernel
theorem dX8_compare_70 : decode cX8_compare 70 = .ok (.ifCond .eq 5, 3) := by decide +kernel
theorem dX8_compare_73 : decode cX8_compare 73 = .ok (.iconst 1, 1) := by decide +kernel
theorem dX8_compare_74 : decode cX8_compare 74 = .ok (.ireturn, 1) := by decide +kernel
theorem dX8_compare_75 : decode cX8_compare 75 = .ok (.iload 6, 2) := by decide +kernel
theorem dX8_compare_77 : decode cX8_compare 77 = .ok (.ifCond .eq 5, 3) := by decide +kernel
theorem dX8_compare_80 : decode cX8_compare 80 = .ok (.iconst 2, 1) := by decide +kernel
theorem dX8_compare_81 : decode cX8_compare 81 = .ok (.ireturn, 1) := by decide +kernel
theorem dX8_compare_82 : decode cX8_compare 82 = .ok (.aload_n 0, 1) := by decide +kernel
theorem dX8_compare_83 : decode cX8_compare 83 = .ok (.getfield 67, 3) := by decide +kernel
theorem dX8_compare_86 : decode cX8_compare 86 = .ok (.aload_n 3, 1) := by decide +kernel
theorem dX8_compare_87 : decode cX8_compare 87 = .ok (.invokevirtual 190, 3) := by decide +kernel
theorem dX8_compare_90 : decode cX8_compare 90 = .ok (.aload_n 0, 1) := by decide +kernel
theorem dX8_compare_91 : decode cX8_compare 91 = .ok (.getfield 67, 3) := by decide +kernel
theorem dX8_compare_94 : decode cX8_compare 94 = .ok (.aload 4, 2) := by decide +kernel
theorem dX8_compare_96 : decode cX8_compare 96 = .ok (.invokevirtual 193, 3) := by decide +kernel
theorem dX8_compare_99 : decode cX8_compare 99 = .ok (.aload_n 0, 1) := by decide +kernel
theorem dX8_compare_100 : decode cX8_compare 100 = .ok (.getfield 67, 3) := by decide +kernel
theorem dX8_compare_103 : decode cX8_compare 103 = .ok (.getfield 163, 3) := by decide +kernel
theorem dX8_compare_106 : decode cX8_compare 106 = .ok (.ifCond .eq 7, 3) := by decide +kernel
theorem dX8_compare_109 : decode cX8_compare 109 = .ok (.iconst 4, 1) := by decide +kernel
theorem dX8_compare_110 : decode cX8_compare 110 = .ok (.goto 4, 3) := by decide +kernel
theorem dX8_compare_113 : decode cX8_compare 113 = .ok (.iconst 3, 1) := by decide +kernel
theorem dX8_compare_114 : decode cX8_compare 114 = .ok (.ireturn, 1) := by decide +kernel
