theorem dX5_init_0 : decode cX5_init 0 = .ok (.aload_n 0, 1) := by decide +kernel
theorem dX5_init_1 : decode cX5_init 1 = .ok (.invokespecial 3, 3) := by decide +kernel
theorem dX5_init_4 : decode cX5_init 4 = .ok (.aload_n 0, 1) := by decide +kernel
theorem dX5_init_5 : decode cX5_init 5 = .ok (.bipush 6, 2) := by decide +kernel
theorem dX5_init_7 : decode cX5_init 7 = .ok (.newarray .int, 2) := by decide +kernel
theorem dX5_init_9 : decode cX5_init 9 = .ok (.putfield 9, 3) := by decide +kernel
theorem dX5_init_12 : decode cX5_init 12 = .ok (.aload_n 0, 1) := by decide +kernel
theorem dX5_init_13 : decode cX5_init 13 = .ok (.bipush 6, 2) := by decide +kernel
theorem dX5_init_15 : decode cX5_init 15 = .ok (.newarray .int, 2) := by decide +kernel
theorem dX5_init_17 : decode cX5_init 17 = .ok (.putfield 15, 3) := by decide +kernel
theorem dX5_init_20 : decode cX5_init 20 = .ok (.return_, 1) := by decide +kernel
theorem dX5_append_0 : decode cX5_append 0 = .ok (.aload_n 0, 1) := by decide +kernel
theorem dX5_append_1 : decode cX5_append 1 = .ok (.getfield 9, 3) := by decide +kernel
theorem dX5_append_4 : decode cX5_append 4 = .ok (.aload_n 0, 1) := by decide +kernel
theorem dX5_append_5 : decode cX5_append 5 = .ok (.getfield 18, 3) := by decide +kernel
theorem dX5_append_8 : decode cX5_append 8 = .ok (.iload_n 1, 1) := by decide +kernel
theorem dX5_append_9 : decode cX5_append 9 = .ok (.iastore, 1) := by decide +kernel
theorem dX5_append_10 : decode cX5_append 10 = .ok (.aload_n 0, 1) := by decide +kernel
theorem dX5_append_11 : decode cX5_append 11 = .ok (.getfield 15, 3) := by decide +kernel
theorem dX5_append_14 : decode cX5_append 14 = .ok (.aload_n 0, 1) := by decide +kernel
theorem dX5_append_15 : decode cX5_append 15 = .ok (.getfield 18, 3) := by decide +kernel
theorem dX5_append_18 : decode cX5_append 18 = .ok (.iload_n 3, 1) := by decide +kernel
theorem dX5_append_19 : decode cX5_append 19 = .ok (.ifCond .eq 11, 3) := by decide +kernel
theorem dX5_append_22 : decode cX5_append 22 = .ok (.getstatic 22, 3) := by decide +kernel
theorem dX5_append_25 : decode cX5_append 25 = .ok (.iload_n 2, 1) := by decide +kernel
theorem dX5_append_26 : decode cX5_append 26 = .ok (.iaload, 1) := by decide +kernel
theorem dX5_append_27 : decode cX5_append 27 = .ok (.goto 13, 3) := by decide +kernel
theorem dX5_append_30 : decode cX5_append 30 = .ok (.bipush 31, 2) := by decide +kernel
theorem dX5_append_32 : decode cX5_append 32 = .ok (.getstatic 22, 3) := by decide +kernel
theorem dX5_append_35 : decode cX5_append 35 = .ok (.iload_n 2, 1) := by decide +kernel
theorem dX5_append_36 : decode cX5_append 36 = .ok (.iaload, 1) := by decide +kernel
theorem dX5_append_37 : decode cX5_append 37 = .ok (.iconst (-1), 1) := by decide +kernel
theorem dX5_append_38 : decode cX5_append 38 = .ok (.ixor, 1) := by decide +kernel
theorem dX5_append_39 : decode cX5_append 39 = .ok (.iand, 1) := by decide +kernel
theorem dX5_append_40 : decode cX5_append 40 = .ok (.iastore, 1) := by decide +kernel
theorem dX5_append_41 : decode cX5_append 41 = .ok (.aload_n 0, 1) := by decide +kernel
theorem dX5_append_42 : decode cX5_append 42 = .ok (.dup, 1) := by decide +kernel
theorem dX5_append_43 : decode cX5_append 43 = .ok (.getfield 18, 3) := by decide +kernel
theorem dX5_append_46 : decode cX5_append 46 = .ok (.iconst 1, 1) := by decide +kernel
theorem dX5_append_47 : decode cX5_append 47 = .ok (.iadd, 1) := by decide +kernel
theorem dX5_append_48 : decode cX5_append 48 = .ok (.putfield 18, 3) := by decide +kernel
theorem dX5_append_51 : decode cX5_append 51 = .ok (.return_, 1) := by decide +kernel
theorem dX5_copy_0 : decode cX5_copy 0 = .ok (.aload_n 0, 1) := by decide +kernel
theorem dX5_copy_1 : decode cX5_copy 1 = .ok (.aload_n 1, 1) := by decide +kernel
theorem dX5_copy_2 : decode cX5_copy 2 = .ok (.getfield 18, 3) := by decide +kernel
theorem dX5_copy_5 : decode cX5_copy 5 = .ok (.putfield 18, 3) := by decide +kernel
theorem dX5_copy_8 : decode cX5_copy 8 = .ok (.aload_n 1, 1) := by decide +kernel
theorem dX5_copy_9 : decode cX5_copy 9 = .ok (.getfield 9, 3) := by decide +kernel
theorem dX5_copy_12 : decode cX5_copy 12 = .ok (.iconst 0, 1) := by decide +kernel
theorem dX5_copy_13 : decode cX5_copy 13 = .ok (.aload_n 0, 1) := by decide +kernel
theorem dX5_copy_14 : decode cX5_copy 14 = .ok (.getfield 9, 3) := by decide +kernel
theorem dX5_copy_17 : decode cX5_copy 17 = .ok (.iconst 0, 1) := by decide +kernel
theorem dX5_copy_18 : decode cX5_copy 18 = .ok (.bipush 6, 2) := by decide +kernel
theorem dX5_copy_20 : decode cX5_copy 20 = .ok (.invokestatic 25, 3) := by decide +kernel
theorem dX5_copy_23 : decode cX5_copy 23 = .ok (.aload_n 1, 1) := by decide +kernel
theorem dX5_copy_24 : decode cX5_copy 24 = .ok (.getfield 15, 3) := by decide +kernel
theorem dX5_copy_27 : decode cX5_copy 27 = .ok (.iconst 0, 1) := by decide +kernel
theorem dX5_copy_28 : decode cX5_copy 28 = .ok (.aload_n 0, 1) := by decide +kernel
theorem dX5_copy_29 : decode cX5_copy 29 = .ok (.getfield 15, 3) := by decide +kernel
theorem dX5_copy_32 : decode cX5_copy 32 = .ok (.iconst 0, 1) := by decide +kernel
theorem dX5_copy_33 : decode cX5_copy 33 = .ok (.bipush 6, 2) := by decide +kernel
theorem dX5_copy_35 : decode cX5_copy 35 = .ok (.invokestatic 25, 3) := by decide +kernel
theorem dX5_copy_38 : decode cX5_copy 38 = .ok (.return_, 1) := by decide +kernel
theorem dX5_sortsOf_0 : decode cX5_sortsOf 0 = .ok (.bipush 31, 2) := by decide +kernel
theorem dX5_sortsOf_2 : decode cX5_sortsOf 2 = .ok (.istore_n 2, 1) := by decide +kernel
theorem dX5_sortsOf_3 : decode cX5_sortsOf 3 = .ok (.iconst 0, 1) := by decide +kernel
theorem dX5_sortsOf_4 : decode cX5_sortsOf 4 = .ok (.istore_n 3, 1) := by decide +kernel
theorem dX5_sortsOf_5 : decode cX5_sortsOf 5 = .ok (.iload_n 3, 1) := by decide +kernel
theorem dX5_sortsOf_6 : decode cX5_sortsOf 6 = .ok (.aload_n 0, 1) := by decide +kernel
theorem dX5_sortsOf_7 : decode cX5_sortsOf 7 = .ok (.getfield 18, 3) := by decide +kernel
theorem dX5_sortsOf_10 : decode cX5_sortsOf 10 = .ok (.if_icmp .ge 28, 3) := by decide +kernel
theorem dX5_sortsOf_13 : decode cX5_sortsOf 13 = .ok (.aload_n 0, 1) := by decide +kernel
theorem dX5_sortsOf_14 : decode cX5_sortsOf 14 = .ok (.getfield 9, 3) := by decide +kernel
theorem dX5_sortsOf_17 : decode cX5_sortsOf 17 = .ok (.iload_n 3, 1) := by decide +kernel
theorem dX5_sortsOf_18 : decode cX5_sortsOf 18 = .ok (.iaload, 1) := by decide +kernel
theorem dX5_sortsOf_19 : decode cX5_sortsOf 19 = .ok (.iload_n 1, 1) := by decide +kernel
theorem dX5_sortsOf_20 : decode cX5_sortsOf 20 = .ok (.if_icmp .ne 12, 3) := by decide +kernel
theorem dX5_sortsOf_23 : decode cX5_sortsOf 23 = .ok (.iload_n 2, 1) := by decide +kernel
theorem dX5_sortsOf_24 : decode cX5_sortsOf 24 = .ok (.aload_n 0, 1) := by decide +kernel
theorem dX5_sortsOf_25 : decode cX5_sortsOf 25 = .ok (.getfield 15, 3) := by decide +kernel
theorem dX5_sortsOf_28 : decode cX5_sortsOf 28 = .ok (.iload_n 3, 1) := by decide +kernel
theorem dX5_sortsOf_29 : decode cX5_sortsOf 29 = .ok (.iaload, 1) := by decide +kernel
theorem dX5_sortsOf_30 : decode cX5_sortsOf 30 = .ok (.iand, 1) := by decide +kernel
theorem dX5_sortsOf_31 : decode cX5_sortsOf 31 = .ok (.istore_n 2, 1) := by decide +kernel
theorem dX5_sortsOf_32 : decode cX5_sortsOf 32 = .ok (.iinc 3 1, 3) := by decide +kernel
theorem dX5_sortsOf_35 : decode cX5_sortsOf 35 = .ok (.goto (-30), 3) := by decide +kernel
theorem dX5_sortsOf_38 : decode cX5_sortsOf 38 = .ok (.iload_n 2, 1) := by decide +kernel
theorem dX5_sortsOf_39 : decode cX5_sortsOf 39 = .ok (.ireturn, 1) := by decide +kernel
theorem dX6_init_0 : decode cX6_init 0 = .ok (.aload_n 0, 1) := by decide +kernel
theorem dX6_init_1 : decode cX6_init 1 = .ok (.invokespecial 3, 3) := by decide +kernel
theorem dX6_init_4 : decode cX6_init 4 = .ok (.aload_n 0, 1) := by decide +kernel
theorem dX6_init_5 : decode cX6_init 5 = .ok (.bipush 36, 2) := by decide +kernel
theorem dX6_init_7 : decode cX6_init 7 = .ok (.newarray .int, 2) := by decide +kernel
theorem dX6_init_9 : decode cX6_init 9 = .ok (.putfield 9, 3) := by decide +kernel
theorem dX6_init_12 : decode cX6_init 12 = .ok (.return_, 1) := by decide +kernel
theorem dX6_fill_0 : decode cX6_fill 0 = .ok (.aload_n 0, 1) := by decide +kernel
theorem dX6_fill_1 : decode cX6_fill 1 = .ok (.iconst 0, 1) := by decide +kernel
theorem dX6_fill_2 : decode cX6_fill 2 = .ok (.putfield 15, 3) := by decide +kernel
theorem dX6_fill_5 : decode cX6_fill 5 = .ok (.aload_n 0, 1) := by decide +kernel
theorem dX6_fill_6 : decode cX6_fill 6 = .ok (.getfield 9, 3) := by decide +kernel
theorem dX6_fill_9 : decode cX6_fill 9 = .ok (.bipush 16, 2) := by decide +kernel
theorem dX6_fill_11 : decode cX6_fill 11 = .ok (.invokestatic 19, 3) := by decide +kernel
theorem dX6_fill_14 : decode cX6_fill 14 = .ok (.iconst 0, 1) := by decide +kernel
theorem dX6_fill_15 : decode cX6_fill 15 = .ok (.istore_n 1, 1) := by decide +kernel
theorem dX6_fill_16 : decode cX6_fill 16 = .ok (.iload_n 1, 1) := by decide +kernel
theorem dX6_fill_17 : decode cX6_fill 17 = .ok (.bipush 6, 2) := by decide +kernel
theorem dX6_fill_19 : decode cX6_fill 19 = .ok (.if_icmp .ge 23, 3) := by decide +kernel
theorem dX6_fill_22 : decode cX6_fill 22 = .ok (.aload_n 0, 1) := by decide +kernel
theorem dX6_fill_23 : decode cX6_fill 23 = .ok (.getfield 9, 3) := by decide +kernel
theorem dX6_fill_26 : decode cX6_fill 26 = .ok (.iload_n 1, 1) := by decide +kernel
theorem dX6_fill_27 : decode cX6_fill 27 = .ok (.bipush 6, 2) := by decide +kernel
theorem dX6_fill_29 : decode cX6_fill 29 = .ok (.imul, 1) := by decide +kernel
theorem dX6_fill_30 : decode cX6_fill 30 = .ok (.iload_n 1, 1) := by decide +kernel
theorem dX6_fill_31 : decode cX6_fill 31 = .ok (.iconst 1, 1) := by decide +kernel
theorem dX6_fill_32 : decode cX6_fill 32 = .ok (.ixor, 1) := by decide +kernel
theorem dX6_fill_33 : decode cX6_fill 33 = .ok (.iadd, 1) := by decide +kernel
theorem dX6_fill_34 : decode cX6_fill 34 = .ok (.iconst 0, 1) := by decide +kernel
theorem dX6_fill_35 : decode cX6_fill 35 = .ok (.iastore, 1) := by decide +kernel
theorem dX6_fill_36 : decode cX6_fill 36 = .ok (.iinc 1 1, 3) := by decide +kernel
theorem dX6_fill_39 : decode cX6_fill 39 = .ok (.goto (-23), 3) := by decide +kernel
theorem dX6_fill_42 : decode cX6_fill 42 = .ok (.return_, 1) := by decide +kernel
theorem dX6_copy_0 : decode cX6_copy 0 = .ok (.aload_n 0, 1) := by decide +kernel
theorem dX6_copy_1 : decode cX6_copy 1 = .ok (.aload_n 1, 1) := by decide +kernel
theorem dX6_copy_2 : decode cX6_copy 2 = .ok (.getfield 15, 3) := by decide +kernel
theorem dX6_copy_5 : decode cX6_copy 5 = .ok (.putfield 15, 3) := by decide +kernel
theorem dX6_copy_8 : decode cX6_copy 8 = .ok (.aload_n 1, 1) := by decide +kernel
theorem dX6_copy_9 : decode cX6_copy 9 = .ok (.getfield 9, 3) := by decide +kernel
theorem dX6_copy_12 : decode cX6_copy 12 = .ok (.iconst 0, 1) := by decide +kernel
theorem dX6_copy_13 : decode cX6_copy 13 = .ok (.aload_n 0, 1) := by decide +kernel
theorem dX6_copy_14 : decode cX6_copy 14 = .ok (.getfield 9, 3) := by decide +kernel
theorem dX6_copy_17 : decode cX6_copy 17 = .ok (.iconst 0, 1) := by decide +kernel
theorem dX6_copy_18 : decode cX6_copy 18 = .ok (.bipush 36, 2) := by decide +kernel
theorem dX6_copy_20 : decode cX6_copy 20 = .ok (.invokestatic 25, 3) := by decide +kernel
theorem dX6_copy_23 : decode cX6_copy 23 = .ok (.return_, 1) := by decide +kernel
theorem dX6_boundOf_0 : decode cX6_boundOf 0 = .ok (.aload_n 0, 1) := by decide +kernel
theorem dX6_boundOf_1 : decode cX6_boundOf 1 = .ok (.getfield 9, 3) := by decide +kernel
theorem dX6_boundOf_4 : decode cX6_boundOf 4 = .ok (.iload_n 1, 1) := by decide +kernel
theorem dX6_boundOf_5 : decode cX6_boundOf 5 = .ok (.bipush 6, 2) := by decide +kernel
theorem dX6_boundOf_7 : decode cX6_boundOf 7 = .ok (.imul, 1) := by decide +kernel
theorem dX6_boundOf_8 : decode cX6_boundOf 8 = .ok (.iload_n 2, 1) := by decide +kernel
theorem dX6_boundOf_9 : decode cX6_boundOf 9 = .ok (.iadd, 1) := by decide +kernel
theorem dX6_boundOf_10 : decode cX6_boundOf 10 = .ok (.iaload, 1) := by decide +kernel
theorem dX6_boundOf_11 : decode cX6_boundOf 11 = .ok (.ireturn, 1) := by decide +kernel
theorem dX6_setBound_0 : decode cX6_setBound 0 = .ok (.aload_n 0, 1) := by decide +kernel
theorem dX6_setBound_1 : decode cX6_setBound 1 = .ok (.getfield 9, 3) := by decide +kernel
theorem dX6_setBound_4 : decode cX6_setBound 4 = .ok (.iload_n 1, 1) := by decide +kernel
theorem dX6_setBound_5 : decode cX6_setBound 5 = .ok (.bipush 6, 2) := by decide +kernel
theorem dX6_setBound_7 : decode cX6_setBound 7 = .ok (.imul, 1) := by decide +kernel
theorem dX6_setBound_8 : decode cX6_setBound 8 = .ok (.iload_n 2, 1) := by decide +kernel
theorem dX6_setBound_9 : decode cX6_setBound 9 = .ok (.iadd, 1) := by decide +kernel
theorem dX6_setBound_10 : decode cX6_setBound 10 = .ok (.iload_n 3, 1) := by decide +kernel
theorem dX6_setBound_11 : decode cX6_setBound 11 = .ok (.iastore, 1) := by decide +kernel
theorem dX6_setBound_12 : decode cX6_setBound 12 = .ok (.aload_n 0, 1) := by decide +kernel
theorem dX6_setBound_13 : decode cX6_setBound 13 = .ok (.getfield 9, 3) := by decide +kernel
theorem dX6_setBound_16 : decode cX6_setBound 16 = .ok (.iload_n 2, 1) := by decide +kernel
theorem dX6_setBound_17 : decode cX6_setBound 17 = .ok (.bipush 6, 2) := by decide +kernel
theorem dX6_setBound_19 : decode cX6_setBound 19 = .ok (.imul, 1) := by decide +kernel
theorem dX6_setBound_20 : decode cX6_setBound 20 = .ok (.iload_n 1, 1) := by decide +kernel
theorem dX6_setBound_21 : decode cX6_setBound 21 = .ok (.iadd, 1) := by decide +kernel
theorem dX6_setBound_22 : decode cX6_setBound 22 = .ok (.iload_n 3, 1) := by decide +kernel
theorem dX6_setBound_23 : decode cX6_setBound 23 = .ok (.iastore, 1) := by decide +kernel
theorem dX6_setBound_24 : decode cX6_setBound 24 = .ok (.return_, 1) := by decide +kernel
theorem dX6_limit_0 : decode cX6_limit 0 = .ok (.iload_n 3, 1) := by decide +kernel
theorem dX6_limit_1 : decode cX6_limit 1 = .ok (.aload_n 0, 1) := by decide +kernel
theorem dX6_limit_2 : decode cX6_limit 2 = .ok (.iload_n 1, 1) := by decide +kernel
theorem dX6_limit_3 : decode cX6_limit 3 = .ok (.iload_n 2, 1) := by decide +kernel
theorem dX6_limit_4 : decode cX6_limit 4 = .ok (.invokevirtual 31, 3) := by decide +kernel
theorem dX6_limit_7 : decode cX6_limit 7 = .ok (.if_icmp .ge 10, 3) := by decide +kernel
theorem dX6_limit_10 : decode cX6_limit 10 = .ok (.aload_n 0, 1) := by decide +kernel
theorem dX6_limit_11 : decode cX6_limit 11 = .ok (.iload_n 1, 1) := by decide +kernel
theorem dX6_limit_12 : decode cX6_limit 12 = .ok (.iload_n 2, 1) := by decide +kernel
theorem dX6_limit_13 : decode cX6_limit 13 = .ok (.iload_n 3, 1) := by decide +kernel
theorem dX6_limit_14 : decode cX6_limit 14 = .ok (.invokevirtual 35, 3) := by decide +kernel
theorem dX6_limit_17 : decode cX6_limit 17 = .ok (.return_, 1) := by decide +kernel
theorem dX6_close_0 : decode cX6_close 0 = .ok (.aload_n 0, 1) := by decide +kernel
theorem dX6_close_1 : decode cX6_close 1 = .ok (.getfield 15, 3) := by decide +kernel
theorem dX6_close_4 : decode cX6_close 4 = .ok (.ifCond .eq 4, 3) := by decide +kernel
theorem dX6_close_7 : decode cX6_close 7 = .ok (.return_, 1) := by decide +kernel
theorem dX6_close_8 : decode cX6_close 8 = .ok (.iconst 0, 1) := by decide +kernel
theorem dX6_close_9 : decode cX6_close 9 = .ok (.istore_n 1, 1) := by decide +kernel
theorem dX6_close_10 : decode cX6_close 10 = .ok (.iload_n 1, 1) := by decide +kernel
theorem dX6_close_11 : decode cX6_close 11 = .ok (.bipush 6, 2) := by decide +kernel
theorem dX6_close_13 : decode cX6_close 13 = .ok (.if_icmp .ge 14, 3) := by decide +kernel
theorem dX6_close_16 : decode cX6_close 16 = .ok (.aload_n 0, 1) := by decide +kernel
theorem dX6_close_17 : decode cX6_close 17 = .ok (.iload_n 1, 1) := by decide +kernel
theorem dX6_close_18 : decode cX6_close 18 = .ok (.invokevirtual 39, 3) := by decide +kernel
theorem dX6_close_21 : decode cX6_close 21 = .ok (.iinc 1 1, 3) := by decide +kernel
theorem dX6_close_24 : decode cX6_close 24 = .ok (.goto (-14), 3) := by decide +kernel
theorem dX6_close_27 : decode cX6_close 27 = .ok (.iconst 0, 1) := by decide +kernel
theorem dX6_close_28 : decode cX6_close 28 = .ok (.istore_n 1, 1) := by decide +kernel
theorem dX6_close_29 : decode cX6_close 29 = .ok (.iload_n 1, 1) := by decide +kernel
theorem dX6_close_30 : decode cX6_close 30 = .ok (.bipush 6, 2) := by decide +kernel
theorem dX6_close_32 : decode cX6_close 32 = .ok (.if_icmp .ge 40, 3) := by decide +kernel
theorem dX6_close_35 : decode cX6_close 35 = .ok (.aload_n 0, 1) := by decide +kernel
theorem dX6_close_36 : decode cX6_close 36 = .ok (.iload_n 1, 1) := by decide +kernel
theorem dX6_close_37 : decode cX6_close 37 = .ok (.iload_n 1, 1) := by decide +kernel
theorem dX6_close_38 : decode cX6_close 38 = .ok (.iconst 1, 1) := by decide +kernel
theorem dX6_close_39 : decode cX6_close 39 = .ok (.ixor, 1) := by decide +kernel
theorem dX6_close_40 : decode cX6_close 40 = .ok (.invokevirtual 31, 3) := by decide +kernel
theorem dX6_close_43 : decode cX6_close 43 = .ok (.ifCond .ge 8, 3) := by decide +kernel
theorem dX6_close_46 : decode cX6_close 46 = .ok (.aload_n 0, 1) := by decide +kernel
theorem dX6_close_47 : decode cX6_close 47 = .ok (.iconst 1, 1) := by decide +kernel
theorem dX6_close_48 : decode cX6_close 48 = .ok (.putfield 15, 3) := by decide +kernel
theorem dX6_close_51 : decode cX6_close 51 = .ok (.aload_n 0, 1) := by decide +kernel
theorem dX6_close_52 : decode cX6_close 52 = .ok (.iload_n 1, 1) := by decide +kernel
theorem dX6_close_53 : decode cX6_close 53 = .ok (.iload_n 1, 1) := by decide +kernel
theorem dX6_close_54 : decode cX6_close 54 = .ok (.aload_n 0, 1) := by decide +kernel
theorem dX6_close_55 : decode cX6_close 55 = .ok (.iload_n 1, 1) := by decide +kernel
theorem dX6_close_56 : decode cX6_close 56 = .ok (.iload_n 1, 1) := by decide +kernel
theorem dX6_close_57 : decode cX6_close 57 = .ok (.invokevirtual 31, 3) := by decide +kernel
theorem dX6_close_60 : decode cX6_close 60 = .ok (.bipush (-2), 2) := by decide +kernel
theorem dX6_close_62 : decode cX6_close 62 = .ok (.iand, 1) := by decide +kernel
theorem dX6_close_63 : decode cX6_close 63 = .ok (.invokevirtual 35, 3) := by decide +kernel
theorem dX6_close_66 : decode cX6_close 66 = .ok (.iinc 1 1, 3) := by decide +kernel
theorem dX6_close_69 : decode cX6_close 69 = .ok (.goto (-40), 3) := by decide +kernel
theorem dX6_close_72 : decode cX6_close 72 = .ok (.iconst 0, 1) := by decide +kernel
theorem dX6_close_73 : decode cX6_close 73 = .ok (.istore_n 1, 1) := by decide +kernel
theorem dX6_close_74 : decode cX6_close 74 = .ok (.iload_n 1, 1) := by decide +kernel
theorem dX6_close_75 : decode cX6_close 75 = .ok (.bipush 6, 2) := by decide +kernel
theorem dX6_close_77 : decode cX6_close 77 = .ok (.if_icmp .ge 34, 3) := by decide +kernel
theorem dX6_close_80 : decode cX6_close 80 = .ok (.aload_n 0, 1) := by decide +kernel
theorem dX6_close_81 : decode cX6_close 81 = .ok (.iload_n 1, 1) := by decide +kernel
theorem dX6_close_82 : decode cX6_close 82 = .ok (.iload_n 1, 1) := by decide +kernel
theorem dX6_close_83 : decode cX6_close 83 = .ok (.invokevirtual 31, 3) := by decide +kernel
theorem dX6_close_86 : decode cX6_close 86 = .ok (.aload_n 0, 1) := by decide +kernel
theorem dX6_close_87 : decode cX6_close 87 = .ok (.iload_n 1, 1) := by decide +kernel
theorem dX6_close_88 : decode cX6_close 88 = .ok (.iconst 1, 1) := by decide +kernel
theorem dX6_close_89 : decode cX6_close 89 = .ok (.iadd, 1) := by decide +kernel
theorem dX6_close_90 : decode cX6_close 90 = .ok (.iload_n 1, 1) := by decide +kernel
theorem dX6_close_91 : decode cX6_close 91 = .ok (.iconst 1, 1) := by decide +kernel
theorem dX6_close_92 : decode cX6_close 92 = .ok (.iadd, 1) := by decide +kernel
theorem dX6_close_93 : decode cX6_close 93 = .ok (.invokevirtual 31, 3) := by decide +kernel
theorem dX6_close_96 : decode cX6_close 96 = .ok (.iadd, 1) := by decide +kernel
theorem dX6_close_97 : decode cX6_close 97 = .ok (.ifCond .ge 8, 3) := by decide +kernel
theorem dX6_close_100 : decode cX6_close 100 = .ok (.aload_n 0, 1) := by decide +kernel
theorem dX6_close_101 : decode cX6_close 101 = .ok (.iconst 1, 1) := by decide +kernel
theorem dX6_close_102 : decode cX6_close 102 = .ok (.putfield 15, 3) := by decide +kernel
theorem dX6_close_105 : decode cX6_close 105 = .ok (.iinc 1 2, 3) := by decide +kernel
theorem dX6_close_108 : decode cX6_close 108 = .ok (.goto (-34), 3) := by decide +kernel
theorem dX6_close_111 : decode cX6_close 111 = .ok (.iconst 0, 1) := by decide +kernel
theorem dX6_close_112 : decode cX6_close 112 = .ok (.istore_n 1, 1) := by decide +kernel
theorem dX6_close_113 : decode cX6_close 113 = .ok (.iload_n 1, 1) := by decide +kernel
theorem dX6_close_114 : decode cX6_close 114 = .ok (.bipush 6, 2) := by decide +kernel
theorem dX6_close_116 : decode cX6_close 116 = .ok (.if_icmp .ge 43, 3) := by decide +kernel
theorem dX6_close_119 : decode cX6_close 119 = .ok (.iconst 0, 1) := by decide +kernel
theorem dX6_close_120 : decode cX6_close 120 = .ok (.istore_n 2, 1) := by decide +kernel
theorem dX6_close_121 : decode cX6_close 121 = .ok (.iload_n 2, 1) := by decide +kernel
theorem dX6_close_122 : decode cX6_close 122 = .ok (.iload_n 1, 1) := by decide +kernel
theorem dX6_close_123 : decode cX6_close 123 = .ok (.if_icmp .ge 30, 3) := by decide +kernel
theorem dX6_close_126 : decode cX6_close 126 = .ok (.aload_n 0, 1) := by decide +kernel
theorem dX6_close_127 : decode cX6_close 127 = .ok (.iload_n 1, 1) := by decide +kernel
theorem dX6_close_128 : decode cX6_close 128 = .ok (.iload_n 2, 1) := by decide +kernel
theorem dX6_close_129 : decode cX6_close 129 = .ok (.aload_n 0, 1) := by decide +kernel
theorem dX6_close_130 : decode cX6_close 130 = .ok (.iload_n 1, 1) := by decide +kernel
theorem dX6_close_131 : decode cX6_close 131 = .ok (.iload_n 1, 1) := by decide +kernel
theorem dX6_close_132 : decode cX6_close 132 = .ok (.invokevirtual 31, 3) := by decide +kernel
theorem dX6_close_135 : decode cX6_close 135 = .ok (.aload_n 0, 1) := by decide +kernel
theorem dX6_close_136 : decode cX6_close 136 = .ok (.iload_n 2, 1) := by decide +kernel
theorem dX6_close_137 : decode cX6_close 137 = .ok (.iload_n 2, 1) := by decide +kernel
theorem dX6_close_138 : decode cX6_close 138 = .ok (.invokevirtual 31, 3) := by decide +kernel
theorem dX6_close_141 : decode cX6_close 141 = .ok (.iadd, 1) := by decide +kernel
theorem dX6_close_142 : decode cX6_close 142 = .ok (.iconst 2, 1) := by decide +kernel
theorem dX6_close_143 : decode cX6_close 143 = .ok (.idiv, 1) := by decide +kernel
theorem dX6_close_144 : decode cX6_close 144 = .ok (.invokevirtual 43, 3) := by decide +kernel
theorem dX6_close_147 : decode cX6_close 147 = .ok (.iinc 2 1, 3) := by decide +kernel
theorem dX6_close_150 : decode cX6_close 150 = .ok (.goto (-29), 3) := by decide +kernel
theorem dX6_close_153 : decode cX6_close 153 = .ok (.iinc 1 1, 3) := by decide +kernel
theorem dX6_close_156 : decode cX6_close 156 = .ok (.goto (-43), 3) := by decide +kernel
theorem dX6_close_159 : decode cX6_close 159 = .ok (.return_, 1) := by decide +kernel
theorem dX6_chainBy_0 : decode cX6_chainBy 0 = .ok (.iconst 0, 1) := by decide +kernel
theorem dX6_chainBy_1 : decode cX6_chainBy 1 = .ok (.istore_n 2, 1) := by decide +kernel
theorem dX6_chainBy_2 : decode cX6_chainBy 2 = .ok (.iload_n 2, 1) := by decide +kernel
theorem dX6_chainBy_3 : decode cX6_chainBy 3 = .ok (.bipush 6, 2) := by decide +kernel
theorem dX6_chainBy_5 : decode cX6_chainBy 5 = .ok (.if_icmp .ge 71, 3) := by decide +kernel
theorem dX6_chainBy_8 : decode cX6_chainBy 8 = .ok (.aload_n 0, 1) := by decide +kernel
theorem dX6_chainBy_9 : decode cX6_chainBy 9 = .ok (.iload_n 2, 1) := by decide +kernel
theorem dX6_chainBy_10 : decode cX6_chainBy 10 = .ok (.iload_n 1, 1) := by decide +kernel
theorem dX6_chainBy_11 : decode cX6_chainBy 11 = .ok (.invokevirtual 31, 3) := by decide +kernel
theorem dX6_chainBy_14 : decode cX6_chainBy 14 = .ok (.istore_n 3, 1) := by decide +kernel
theorem dX6_chainBy_15 : decode cX6_chainBy 15 = .ok (.iconst 0, 1) := by decide +kernel
theorem dX6_chainBy_16 : decode cX6_chainBy 16 = .ok (.istore 4, 2) := by decide +kernel
theorem dX6_chainBy_18 : decode cX6_chainBy 18 = .ok (.iload 4, 2) := by decide +kernel
theorem dX6_chainBy_20 : decode cX6_chainBy 20 = .ok (.bipush 6, 2) := by decide +kernel
theorem dX6_chainBy_22 : decode cX6_chainBy 22 = .ok (.if_icmp .ge 48, 3) := by decide +kernel
theorem dX6_chainBy_25 : decode cX6_chainBy 25 = .ok (.iload_n 3, 1) := by decide +kernel
theorem dX6_chainBy_26 : decode cX6_chainBy 26 = .ok (.aload_n 0, 1) := by decide +kernel
theorem dX6_chainBy_27 : decode cX6_chainBy 27 = .ok (.iload_n 1, 1) := by decide +kernel
theorem dX6_chainBy_28 : decode cX6_chainBy 28 = .ok (.iconst 1, 1) := by decide +kernel
theorem dX6_chainBy_29 : decode cX6_chainBy 29 = .ok (.ixor, 1) := by decide +kernel
theorem dX6_chainBy_30 : decode cX6_chainBy 30 = .ok (.iload 4, 2) := by decide +kernel
theorem dX6_chainBy_32 : decode cX6_chainBy 32 = .ok (.invokevirtual 31, 3) := by decide +kernel
theorem dX6_chainBy_35 : decode cX6_chainBy 35 = .ok (.iadd, 1) := by decide +kernel
theorem dX6_chainBy_36 : decode cX6_chainBy 36 = .ok (.istore 5, 2) := by decide +kernel
theorem dX6_chainBy_38 : decode cX6_chainBy 38 = .ok (.iload 5, 2) := by decide +kernel
theorem dX6_chainBy_40 : decode cX6_chainBy 40 = .ok (.aload_n 0, 1) := by decide +kernel
theorem dX6_chainBy_41 : decode cX6_chainBy 41 = .ok (.iload_n 2, 1) := by decide +kernel
theorem dX6_chainBy_42 : decode cX6_chainBy 42 = .ok (.iload 4, 2) := by decide +kernel
theorem dX6_chainBy_44 : decode cX6_chainBy 44 = .ok (.invokevirtual 31, 3) := by decide +kernel
theorem dX6_chainBy_47 : decode cX6_chainBy 47 = .ok (.if_icmp .ge 17, 3) := by decide +kernel
theorem dX6_chainBy_50 : decode cX6_chainBy 50 = .ok (.aload_n 0, 1) := by decide +kernel
theorem dX6_chainBy_51 : decode cX6_chainBy 51 = .ok (.getfield 9, 3) := by decide +kernel
theorem dX6_chainBy_54 : decode cX6_chainBy 54 = .ok (.iload_n 2, 1) := by decide +kernel
theorem dX6_chainBy_55 : decode cX6_chainBy 55 = .ok (.bipush 6, 2) := by decide +kernel
theorem dX6_chainBy_57 : decode cX6_chainBy 57 = .ok (.imul, 1) := by decide +kernel
theorem dX6_chainBy_58 : decode cX6_chainBy 58 = .ok (.iload 4, 2) := by decide +kernel
theorem dX6_chainBy_60 : decode cX6_chainBy 60 = .ok (.iadd, 1) := by decide +kernel
theorem dX6_chainBy_61 : decode cX6_chainBy 61 = .ok (.iload 5, 2) := by decide +kernel
theorem dX6_chainBy_63 : decode cX6_chainBy 63 = .ok (.iastore, 1) := by decide +kernel
theorem dX6_chainBy_64 : decode cX6_chainBy 64 = .ok (.iinc 4 1, 3) := by decide +kernel
theorem dX6_chainBy_67 : decode cX6_chainBy 67 = .ok (.goto (-49), 3) := by decide +kernel
theorem dX6_chainBy_70 : decode cX6_chainBy 70 = .ok (.iinc 2 1, 3) := by decide +kernel
theorem dX6_chainBy_73 : decode cX6_chainBy 73 = .ok (.goto (-71), 3) := by decide +kernel
theorem dX6_chainBy_76 : decode cX6_chainBy 76 = .ok (.return_, 1) := by decide +kernel
theorem dX6_lose_0 : decode cX6_lose 0 = .ok (.iconst 2, 1) := by decide +kernel
theorem dX6_lose_1 : decode cX6_lose 1 = .ok (.iload_n 1, 1) := by decide +kernel
theorem dX6_lose_2 : decode cX6_lose 2 = .ok (.imul, 1) := by decide +kernel
theorem dX6_lose_3 : decode cX6_lose 3 = .ok (.istore_n 2, 1) := by decide +kernel
theorem dX6_lose_4 : decode cX6_lose 4 = .ok (.iload_n 2, 1) := by decide +kernel
theorem dX6_lose_5 : decode cX6_lose 5 = .ok (.istore_n 3, 1) := by decide +kernel
theorem dX6_lose_6 : decode cX6_lose 6 = .ok (.iload_n 3, 1) := by decide +kernel
theorem dX6_lose_7 : decode cX6_lose 7 = .ok (.iload_n 2, 1) := by decide +kernel
theorem dX6_lose_8 : decode cX6_lose 8 = .ok (.iconst 1, 1) := by decide +kernel
theorem dX6_lose_9 : decode cX6_lose 9 = .ok (.iadd, 1) := by decide +kernel
theorem dX6_lose_10 : decode cX6_lose 10 = .ok (.if_icmp .gt 42, 3) := by decide +kernel
theorem dX6_lose_13 : decode cX6_lose 13 = .ok (.iconst 0, 1) := by decide +kernel
theorem dX6_lose_14 : decode cX6_lose 14 = .ok (.istore 4, 2) := by decide +kernel
theorem dX6_lose_16 : decode cX6_lose 16 = .ok (.iload 4, 2) := by decide +kernel
theorem dX6_lose_18 : decode cX6_lose 18 = .ok (.bipush 6, 2) := by decide +kernel
theorem dX6_lose_20 : decode cX6_lose 20 = .ok (.if_icmp .ge 26, 3) := by decide +kernel
theorem dX6_lose_23 : decode cX6_lose 23 = .ok (.iload 4, 2) := by decide +kernel
theorem dX6_lose_25 : decode cX6_lose 25 = .ok (.iload_n 3, 1) := by decide +kernel
theorem dX6_lose_26 : decode cX6_lose 26 = .ok (.iconst 1, 1) := by decide +kernel
theorem dX6_lose_27 : decode cX6_lose 27 = .ok (.ixor, 1) := by decide +kernel
theorem dX6_lose_28 : decode cX6_lose 28 = .ok (.if_icmp .eq 12, 3) := by decide +kernel
theorem dX6_lose_31 : decode cX6_lose 31 = .ok (.aload_n 0, 1) := by decide +kernel
theorem dX6_lose_32 : decode cX6_lose 32 = .ok (.iload_n 3, 1) := by decide +kernel
theorem dX6_lose_33 : decode cX6_lose 33 = .ok (.iload 4, 2) := by decide +kernel
theorem dX6_lose_35 : decode cX6_lose 35 = .ok (.bipush 16, 2) := by decide +kernel
theorem dX6_lose_37 : decode cX6_lose 37 = .ok (.invokevirtual 35, 3) := by decide +kernel
theorem dX6_lose_40 : decode cX6_lose 40 = .ok (.iinc 4 1, 3) := by decide +kernel
theorem dX6_lose_43 : decode cX6_lose 43 = .ok (.goto (-27), 3) := by decide +kernel
theorem dX6_lose_46 : decode cX6_lose 46 = .ok (.iinc 3 1, 3) := by decide +kernel
theorem dX6_lose_49 : decode cX6_lose 49 = .ok (.goto (-43), 3) := by decide +kernel
theorem dX6_lose_52 : decode cX6_lose 52 = .ok (.return_, 1) := by decide +kernel
theorem dX6_assign_0 : decode cX6_assign 0 = .ok (.iconst 2, 1) := by decide +kernel
theorem dX6_assign_1 : decode cX6_assign 1 = .ok (.iload_n 1, 1) := by decide +kernel
theorem dX6_assign_2 : decode cX6_assign 2 = .ok (.imul, 1) := by decide +kernel
theorem dX6_assign_3 : decode cX6_assign 3 = .ok (.istore 4, 2) := by decide +kernel
theorem dX6_assign_5 : decode cX6_assign 5 = .ok (.iload_n 2, 1) := by decide +kernel
theorem dX6_assign_6 : decode cX6_assign 6 = .ok (.iload 4, 2) := by decide +kernel
theorem dX6_assign_8 : decode cX6_assign 8 = .ok (.iconst 1, 1) := by decide +kernel
theorem dX6_assign_9 : decode cX6_assign 9 = .ok (.iadd, 1) := by decide +kernel
theorem dX6_assign_10 : decode cX6_assign 10 = .ok (.if_icmp .ne 8, 3) := by decide +kernel
theorem dX6_assign_13 : decode cX6_assign 13 = .ok (.aload_n 0, 1) := by decide +kernel
theorem dX6_assign_14 : decode cX6_assign 14 = .ok (.iload_n 1, 1) := by decide +kernel
theorem dX6_assign_15 : decode cX6_assign 15 = .ok (.invokevirtual 46, 3) := by decide +kernel
theorem dX6_assign_18 : decode cX6_assign 18 = .ok (.iload_n 2, 1) := by decide +kernel
theorem dX6_assign_19 : decode cX6_assign 19 = .ok (.iconst 2, 1) := by decide +kernel
theorem dX6_assign_20 : decode cX6_assign 20 = .ok (.idiv, 1) := by decide +kernel
theorem dX6_assign_21 : decode cX6_assign 21 = .ok (.iload_n 1, 1) := by decide +kernel
theorem dX6_assign_22 : decode cX6_assign 22 = .ok (.if_icmp .ne 12, 3) := by decide +kernel
theorem dX6_assign_25 : decode cX6_assign 25 = .ok (.aload_n 0, 1) := by decide +kernel
theorem dX6_assign_26 : decode cX6_assign 26 = .ok (.iload_n 1, 1) := by decide +kernel
theorem dX6_assign_27 : decode cX6_assign 27 = .ok (.iload_n 3, 1) := by decide +kernel
theorem dX6_assign_28 : decode cX6_assign 28 = .ok (.invokevirtual 49, 3) := by decide +kernel
theorem dX6_assign_31 : decode cX6_assign 31 = .ok (.goto 29, 3) := by decide +kernel
theorem dX6_assign_34 : decode cX6_assign 34 = .ok (.aload_n 0, 1) := by decide +kernel
theorem dX6_assign_35 : decode cX6_assign 35 = .ok (.iload_n 1, 1) := by decide +kernel
theorem dX6_assign_36 : decode cX6_assign 36 = .ok (.invokevirtual 53, 3) := by decide +kernel
theorem dX6_assign_39 : decode cX6_assign 39 = .ok (.aload_n 0, 1) := by decide +kernel
theorem dX6_assign_40 : decode cX6_assign 40 = .ok (.iload 4, 2) := by decide +kernel
theorem dX6_assign_42 : decode cX6_assign 42 = .ok (.iload_n 2, 1) := by decide +kernel
theorem dX6_assign_43 : decode cX6_assign 43 = .ok (.iconst 1, 1) := by decide +kernel
theorem dX6_assign_44 : decode cX6_assign 44 = .ok (.ixor, 1) := by decide +kernel
theorem dX6_assign_45 : decode cX6_assign 45 = .ok (.iload_n 3, 1) := by decide +kernel
theorem dX6_assign_46 : decode cX6_assign 46 = .ok (.invokevirtual 43, 3) := by decide +kernel
theorem dX6_assign_49 : decode cX6_assign 49 = .ok (.aload_n 0, 1) := by decide +kernel
theorem dX6_assign_50 : decode cX6_assign 50 = .ok (.iload 4, 2) := by decide +kernel
theorem dX6_assign_52 : decode cX6_assign 52 = .ok (.iconst 1, 1) := by decide +kernel
theorem dX6_assign_53 : decode cX6_assign 53 = .ok (.iadd, 1) := by decide +kernel
theorem dX6_assign_54 : decode cX6_assign 54 = .ok (.iload_n 2, 1) := by decide +kernel
theorem dX6_assign_55 : decode cX6_assign 55 = .ok (.iload_n 3, 1) := by decide +kernel
theorem dX6_assign_56 : decode cX6_assign 56 = .ok (.ineg, 1) := by decide +kernel
theorem dX6_assign_57 : decode cX6_assign 57 = .ok (.invokevirtual 43, 3) := by decide +kernel
theorem dX6_assign_60 : decode cX6_assign 60 = .ok (.return_, 1) := by decide +kernel
theorem dX6_turn_0 : decode cX6_turn 0 = .ok (.iconst 2, 1) := by decide +kernel
theorem dX6_turn_1 : decode cX6_turn 1 = .ok (.iload_n 1, 1) := by decide +kernel
theorem dX6_turn_2 : decode cX6_turn 2 = .ok (.imul, 1) := by decide +kernel
theorem dX6_turn_3 : decode cX6_turn 3 = .ok (.istore_n 2, 1) := by decide +kernel
theorem dX6_turn_4 : decode cX6_turn 4 = .ok (.iload_n 2, 1) := by decide +kernel
theorem dX6_turn_5 : decode cX6_turn 5 = .ok (.iconst 1, 1) := by decide +kernel
theorem dX6_turn_6 : decode cX6_turn 6 = .ok (.iadd, 1) := by decide +kernel
theorem dX6_turn_7 : decode cX6_turn 7 = .ok (.istore_n 3, 1) := by decide +kernel
theorem dX6_turn_8 : decode cX6_turn 8 = .ok (.aload_n 0, 1) := by decide +kernel
theorem dX6_turn_9 : decode cX6_turn 9 = .ok (.iload_n 2, 1) := by decide +kernel
theorem dX6_turn_10 : decode cX6_turn 10 = .ok (.iload_n 2, 1) := by decide +kernel
theorem dX6_turn_11 : decode cX6_turn 11 = .ok (.invokevirtual 31, 3) := by decide +kernel
theorem dX6_turn_14 : decode cX6_turn 14 = .ok (.istore 4, 2) := by decide +kernel
theorem dX6_turn_16 : decode cX6_turn 16 = .ok (.aload_n 0, 1) := by decide +kernel
theorem dX6_turn_17 : decode cX6_turn 17 = .ok (.iload_n 2, 1) := by decide +kernel
theorem dX6_turn_18 : decode cX6_turn 18 = .ok (.iload_n 2, 1) := by decide +kernel
theorem dX6_turn_19 : decode cX6_turn 19 = .ok (.aload_n 0, 1) := by decide +kernel
theorem dX6_turn_20 : decode cX6_turn 20 = .ok (.iload_n 3, 1) := by decide +kernel
theorem dX6_turn_21 : decode cX6_turn 21 = .ok (.iload_n 3, 1) := by decide +kernel
theorem dX6_turn_22 : decode cX6_turn 22 = .ok (.invokevirtual 31, 3) := by decide +kernel
theorem dX6_turn_25 : decode cX6_turn 25 = .ok (.invokevirtual 35, 3) := by decide +kernel
theorem dX6_turn_28 : decode cX6_turn 28 = .ok (.aload_n 0, 1) := by decide +kernel
theorem dX6_turn_29 : decode cX6_turn 29 = .ok (.iload_n 3, 1) := by decide +kernel
theorem dX6_turn_30 : decode cX6_turn 30 = .ok (.iload_n 3, 1) := by decide +kernel
theorem dX6_turn_31 : decode cX6_turn 31 = .ok (.iload 4, 2) := by decide +kernel
theorem dX6_turn_33 : decode cX6_turn 33 = .ok (.invokevirtual 35, 3) := by decide +kernel
theorem dX6_turn_36 : decode cX6_turn 36 = .ok (.iconst 0, 1) := by decide +kernel
theorem dX6_turn_37 : decode cX6_turn 37 = .ok (.istore 5, 2) := by decide +kernel
theorem dX6_turn_39 : decode cX6_turn 39 = .ok (.iload 5, 2) := by decide +kernel
theorem dX6_turn_41 : decode cX6_turn 41 = .ok (.bipush 6, 2) := by decide +kernel
theorem dX6_turn_43 : decode cX6_turn 43 = .ok (.if_icmp .ge 52, 3) := by decide +kernel
theorem dX6_turn_46 : decode cX6_turn 46 = .ok (.iload 5, 2) := by decide +kernel
theorem dX6_turn_48 : decode cX6_turn 48 = .ok (.iconst 2, 1) := by decide +kernel
theorem dX6_turn_49 : decode cX6_turn 49 = .ok (.idiv, 1) := by decide +kernel
theorem dX6_turn_50 : decode cX6_turn 50 = .ok (.iload_n 1, 1) := by decide +kernel
theorem dX6_turn_51 : decode cX6_turn 51 = .ok (.if_icmp .ne 6, 3) := by decide +kernel
theorem dX6_turn_54 : decode cX6_turn 54 = .ok (.goto 35, 3) := by decide +kernel
theorem dX6_turn_57 : decode cX6_turn 57 = .ok (.aload_n 0, 1) := by decide +kernel
theorem dX6_turn_58 : decode cX6_turn 58 = .ok (.iload_n 2, 1) := by decide +kernel
theorem dX6_turn_59 : decode cX6_turn 59 = .ok (.iload 5, 2) := by decide +kernel
theorem dX6_turn_61 : decode cX6_turn 61 = .ok (.invokevirtual 31, 3) := by decide +kernel
theorem dX6_turn_64 : decode cX6_turn 64 = .ok (.istore 6, 2) := by decide +kernel
theorem dX6_turn_66 : decode cX6_turn 66 = .ok (.aload_n 0, 1) := by decide +kernel
theorem dX6_turn_67 : decode cX6_turn 67 = .ok (.iload_n 2, 1) := by decide +kernel
theorem dX6_turn_68 : decode cX6_turn 68 = .ok (.iload 5, 2) := by decide +kernel
theorem dX6_turn_70 : decode cX6_turn 70 = .ok (.aload_n 0, 1) := by decide +kernel
theorem dX6_turn_71 : decode cX6_turn 71 = .ok (.iload_n 3, 1) := by decide +kernel
theorem dX6_turn_72 : decode cX6_turn 72 = .ok (.iload 5, 2) := by decide +kernel
theorem dX6_turn_74 : decode cX6_turn 74 = .ok (.invokevirtual 31, 3) := by decide +kernel
theorem dX6_turn_77 : decode cX6_turn 77 = .ok (.invokevirtual 35, 3) := by decide +kernel
theorem dX6_turn_80 : decode cX6_turn 80 = .ok (.aload_n 0, 1) := by decide +kernel
theorem dX6_turn_81 : decode cX6_turn 81 = .ok (.iload_n 3, 1) := by decide +kernel
theorem dX6_turn_82 : decode cX6_turn 82 = .ok (.iload 5, 2) := by decide +kernel
theorem dX6_turn_84 : decode cX6_turn 84 = .ok (.iload 6, 2) := by decide +kernel
theorem dX6_turn_86 : decode cX6_turn 86 = .ok (.invokevirtual 35, 3) := by decide +kernel
theorem dX6_turn_89 : decode cX6_turn 89 = .ok (.iinc 5 1, 3) := by decide +kernel
theorem dX6_turn_92 : decode cX6_turn 92 = .ok (.goto (-53), 3) := by decide +kernel
theorem dX6_turn_95 : decode cX6_turn 95 = .ok (.return_, 1) := by decide +kernel
theorem dX6_shift_0 : decode cX6_shift 0 = .ok (.iconst 2, 1) := by decide +kernel
theorem dX6_shift_1 : decode cX6_shift 1 = .ok (.iload_n 1, 1) := by decide +kernel
theorem dX6_shift_2 : decode cX6_shift 2 = .ok (.imul, 1) := by decide +kernel
theorem dX6_shift_3 : decode cX6_shift 3 = .ok (.istore_n 3, 1) := by decide +kernel
theorem dX6_shift_4 : decode cX6_shift 4 = .ok (.iload_n 3, 1) := by decide +kernel
theorem dX6_shift_5 : decode cX6_shift 5 = .ok (.iconst 1, 1) := by decide +kernel
theorem dX6_shift_6 : decode cX6_shift 6 = .ok (.iadd, 1) := by decide +kernel
theorem dX6_shift_7 : decode cX6_shift 7 = .ok (.istore 4, 2) := by decide +kernel
theorem dX6_shift_9 : decode cX6_shift 9 = .ok (.iconst 0, 1) := by decide +kernel
theorem dX6_shift_10 : decode cX6_shift 10 = .ok (.istore 5, 2) := by decide +kernel
theorem dX6_shift_12 : decode cX6_shift 12 = .ok (.iload 5, 2) := by decide +kernel
theorem dX6_shift_14 : decode cX6_shift 14 = .ok (.bipush 6, 2) := by decide +kernel
theorem dX6_shift_16 : decode cX6_shift 16 = .ok (.if_icmp .ge 54, 3) := by decide +kernel
theorem dX6_shift_19 : decode cX6_shift 19 = .ok (.iload 5, 2) := by decide +kernel
theorem dX6_shift_21 : decode cX6_shift 21 = .ok (.iconst 2, 1) := by decide +kernel
theorem dX6_shift_22 : decode cX6_shift 22 = .ok (.idiv, 1) := by decide +kernel
theorem dX6_shift_23 : decode cX6_shift 23 = .ok (.iload_n 1, 1) := by decide +kernel
theorem dX6_shift_24 : decode cX6_shift 24 = .ok (.if_icmp .ne 6, 3) := by decide +kernel
theorem dX6_shift_27 : decode cX6_shift 27 = .ok (.goto 37, 3) := by decide +kernel
theorem dX6_shift_30 : decode cX6_shift 30 = .ok (.aload_n 0, 1) := by decide +kernel
theorem dX6_shift_31 : decode cX6_shift 31 = .ok (.iload_n 3, 1) := by decide +kernel
theorem dX6_shift_32 : decode cX6_shift 32 = .ok (.iload 5, 2) := by decide +kernel
theorem dX6_shift_34 : decode cX6_shift 34 = .ok (.aload_n 0, 1) := by decide +kernel
theorem dX6_shift_35 : decode cX6_shift 35 = .ok (.iload_n 3, 1) := by decide +kernel
theorem dX6_shift_36 : decode cX6_shift 36 = .ok (.iload 5, 2) := by decide +kernel
theorem dX6_shift_38 : decode cX6_shift 38 = .ok (.invokevirtual 31, 3) := by decide +kernel
theorem dX6_shift_41 : decode cX6_shift 41 = .ok (.iload_n 2, 1) := by decide +kernel
theorem dX6_shift_42 : decode cX6_shift 42 = .ok (.iadd, 1) := by decide +kernel
theorem dX6_shift_43 : decode cX6_shift 43 = .ok (.invokevirtual 35, 3) := by decide +kernel
theorem dX6_shift_46 : decode cX6_shift 46 = .ok (.aload_n 0, 1) := by decide +kernel
theorem dX6_shift_47 : decode cX6_shift 47 = .ok (.iload 4, 2) := by decide +kernel
theorem dX6_shift_49 : decode cX6_shift 49 = .ok (.iload 5, 2) := by decide +kernel
theorem dX6_shift_51 : decode cX6_shift 51 = .ok (.aload_n 0, 1) := by decide +kernel
theorem dX6_shift_52 : decode cX6_shift 52 = .ok (.iload 4, 2) := by decide +kernel
theorem dX6_shift_54 : decode cX6_shift 54 = .ok (.iload 5, 2) := by decide +kernel
theorem dX6_shift_56 : decode cX6_shift 56 = .ok (.invokevirtual 31, 3) := by decide +kernel
theorem dX6_shift_59 : decode cX6_shift 59 = .ok (.iload_n 2, 1) := by decide +kernel
theorem dX6_shift_60 : decode cX6_shift 60 = .ok (.isub, 1) := by decide +kernel
theorem dX6_shift_61 : decode cX6_shift 61 = .ok (.invokevirtual 35, 3) := by decide +kernel
theorem dX6_shift_64 : decode cX6_shift 64 = .ok (.iinc 5 1, 3) := by decide +kernel
theorem dX6_shift_67 : decode cX6_shift 67 = .ok (.goto (-55), 3) := by decide +kernel
theorem dX6_shift_70 : decode cX6_shift 70 = .ok (.aload_n 0, 1) := by decide +kernel
theorem dX6_shift_71 : decode cX6_shift 71 = .ok (.iload_n 3, 1) := by decide +kernel
theorem dX6_shift_72 : decode cX6_shift 72 = .ok (.iload_n 3, 1) := by decide +kernel
theorem dX6_shift_73 : decode cX6_shift 73 = .ok (.aload_n 0, 1) := by decide +kernel
theorem dX6_shift_74 : decode cX6_shift 74 = .ok (.iload_n 3, 1) := by decide +kernel
theorem dX6_shift_75 : decode cX6_shift 75 = .ok (.iload_n 3, 1) := by decide +kernel
theorem dX6_shift_76 : decode cX6_shift 76 = .ok (.invokevirtual 31, 3) := by decide +kernel
theorem dX6_shift_79 : decode cX6_shift 79 = .ok (.iconst 2, 1) := by decide +kernel
theorem dX6_shift_80 : decode cX6_shift 80 = .ok (.iload_n 2, 1) := by decide +kernel
theorem dX6_shift_81 : decode cX6_shift 81 = .ok (.imul, 1) := by decide +kernel
theorem dX6_shift_82 : decode cX6_shift 82 = .ok (.iadd, 1) := by decide +kernel
theorem dX6_shift_83 : decode cX6_shift 83 = .ok (.bipush 16, 2) := by decide +kernel
theorem dX6_shift_85 : decode cX6_shift 85 = .ok (.invokestatic 56, 3) := by decide +kernel
theorem dX6_shift_88 : decode cX6_shift 88 = .ok (.invokevirtual 35, 3) := by decide +kernel
theorem dX6_shift_91 : decode cX6_shift 91 = .ok (.aload_n 0, 1) := by decide +kernel
theorem dX6_shift_92 : decode cX6_shift 92 = .ok (.iload 4, 2) := by decide +kernel
theorem dX6_shift_94 : decode cX6_shift 94 = .ok (.iload 4, 2) := by decide +kernel
theorem dX6_shift_96 : decode cX6_shift 96 = .ok (.aload_n 0, 1) := by decide +kernel
theorem dX6_shift_97 : decode cX6_shift 97 = .ok (.iload 4, 2) := by decide +kernel
theorem dX6_shift_99 : decode cX6_shift 99 = .ok (.iload 4, 2) := by decide +kernel
theorem dX6_shift_101 : decode cX6_shift 101 = .ok (.invokevirtual 31, 3) := by decide +kernel
theorem dX6_shift_104 : decode cX6_shift 104 = .ok (.iconst 2, 1) := by decide +kernel
theorem dX6_shift_105 : decode cX6_shift 105 = .ok (.iload_n 2, 1) := by decide +kernel
theorem dX6_shift_106 : decode cX6_shift 106 = .ok (.imul, 1) := by decide +kernel
theorem dX6_shift_107 : decode cX6_shift 107 = .ok (.isub, 1) := by decide +kernel
theorem dX6_shift_108 : decode cX6_shift 108 = .ok (.bipush 16, 2) := by decide +kernel
theorem dX6_shift_110 : decode cX6_shift 110 = .ok (.invokestatic 56, 3) := by decide +kernel
theorem dX6_shift_113 : decode cX6_shift 113 = .ok (.invokevirtual 35, 3) := by decide +kernel
theorem dX6_shift_116 : decode cX6_shift 116 = .ok (.return_, 1) := by decide +kernel
theorem dX6_join_0 : decode cX6_join 0 = .ok (.aload_n 1, 1) := by decide +kernel
theorem dX6_join_1 : decode cX6_join 1 = .ok (.getfield 15, 3) := by decide +kernel
theorem dX6_join_4 : decode cX6_join 4 = .ok (.ifCond .eq 4, 3) := by decide +kernel
theorem dX6_join_7 : decode cX6_join 7 = .ok (.return_, 1) := by decide +kernel
theorem dX6_join_8 : decode cX6_join 8 = .ok (.aload_n 0, 1) := by decide +kernel
theorem dX6_join_9 : decode cX6_join 9 = .ok (.getfield 15, 3) := by decide +kernel
theorem dX6_join_12 : decode cX6_join 12 = .ok (.ifCond .eq 9, 3) := by decide +kernel
theorem dX6_join_15 : decode cX6_join 15 = .ok (.aload_n 0, 1) := by decide +kernel
theorem dX6_join_16 : decode cX6_join 16 = .ok (.aload_n 1, 1) := by decide +kernel
theorem dX6_join_17 : decode cX6_join 17 = .ok (.invokevirtual 61, 3) := by decide +kernel
theorem dX6_join_20 : decode cX6_join 20 = .ok (.return_, 1) := by decide +kernel
theorem dX6_join_21 : decode cX6_join 21 = .ok (.iconst 0, 1) := by decide +kernel
theorem dX6_join_22 : decode cX6_join 22 = .ok (.istore_n 2, 1) := by decide +kernel
theorem dX6_join_23 : decode cX6_join 23 = .ok (.iload_n 2, 1) := by decide +kernel
theorem dX6_join_24 : decode cX6_join 24 = .ok (.aload_n 0, 1) := by decide +kernel
theorem dX6_join_25 : decode cX6_join 25 = .ok (.getfield 9, 3) := by decide +kernel
theorem dX6_join_28 : decode cX6_join 28 = .ok (.arraylength, 1) := by decide +kernel
theorem dX6_join_29 : decode cX6_join 29 = .ok (.if_icmp .ge 30, 3) := by decide +kernel
theorem dX6_join_32 : decode cX6_join 32 = .ok (.aload_n 0, 1) := by decide +kernel
theorem dX6_join_33 : decode cX6_join 33 = .ok (.getfield 9, 3) := by decide +kernel
theorem dX6_join_36 : decode cX6_join 36 = .ok (.iload_n 2, 1) := by decide +kernel
theorem dX6_join_37 : decode cX6_join 37 = .ok (.aload_n 0, 1) := by decide +kernel
theorem dX6_join_38 : decode cX6_join 38 = .ok (.getfield 9, 3) := by decide +kernel
theorem dX6_join_41 : decode cX6_join 41 = .ok (.iload_n 2, 1) := by decide +kernel
theorem dX6_join_42 : decode cX6_join 42 = .ok (.iaload, 1) := by decide +kernel
theorem dX6_join_43 : decode cX6_join 43 = .ok (.aload_n 1, 1) := by decide +kernel
theorem dX6_join_44 : decode cX6_join 44 = .ok (.getfield 9, 3) := by decide +kernel
theorem dX6_join_47 : decode cX6_join 47 = .ok (.iload_n 2, 1) := by decide +kernel
theorem dX6_join_48 : decode cX6_join 48 = .ok (.iaload, 1) := by decide +kernel
theorem dX6_join_49 : decode cX6_join 49 = .ok (.invokestatic 65, 3) := by decide +kernel
theorem dX6_join_52 : decode cX6_join 52 = .ok (.iastore, 1) := by decide +kernel
theorem dX6_join_53 : decode cX6_join 53 = .ok (.iinc 2 1, 3) := by decide +kernel
theorem dX6_join_56 : decode cX6_join 56 = .ok (.goto (-33), 3) := by decide +kernel
theorem dX6_join_59 : decode cX6_join 59 = .ok (.return_, 1) := by decide +kernel
theorem dX6_meet_0 : decode cX6_meet 0 = .ok (.aload_n 0, 1) := by decide +kernel
theorem dX6_meet_1 : decode cX6_meet 1 = .ok (.aload_n 0, 1) := by decide +kernel
theorem dX6_meet_2 : decode cX6_meet 2 = .ok (.getfield 15, 3) := by decide +kernel
theorem dX6_meet_5 : decode cX6_meet 5 = .ok (.ifCond .ne 10, 3) := by decide +kernel
theorem dX6_meet_8 : decode cX6_meet 8 = .ok (.aload_n 1, 1) := by decide +kernel
theorem dX6_meet_9 : decode cX6_meet 9 = .ok (.getfield 15, 3) := by decide +kernel
theorem dX6_meet_12 : decode cX6_meet 12 = .ok (.ifCond .eq 7, 3) := by decide +kernel
theorem dX6_meet_15 : decode cX6_meet 15 = .ok (.iconst 1, 1) := by decide +kernel
theorem dX6_meet_16 : decode cX6_meet 16 = .ok (.goto 4, 3) := by decide +kernel
theorem dX6_meet_19 : decode cX6_meet 19 = .ok (.iconst 0, 1) := by decide +kernel
theorem dX6_meet_20 : decode cX6_meet 20 = .ok (.putfield 15, 3) := by decide +kernel
theorem dX6_meet_23 : decode cX6_meet 23 = .ok (.iconst 0, 1) := by decide +kernel
theorem dX6_meet_24 : decode cX6_meet 24 = .ok (.istore_n 2, 1) := by decide +kernel
theorem dX6_meet_25 : decode cX6_meet 25 = .ok (.iload_n 2, 1) := by decide +kernel
theorem dX6_meet_26 : decode cX6_meet 26 = .ok (.aload_n 0, 1) := by decide +kernel
theorem dX6_meet_27 : decode cX6_meet 27 = .ok (.getfield 9, 3) := by decide +kernel
theorem dX6_meet_30 : decode cX6_meet 30 = .ok (.arraylength, 1) := by decide +kernel
theorem dX6_meet_31 : decode cX6_meet 31 = .ok (.if_icmp .ge 30, 3) := by decide +kernel
theorem dX6_meet_34 : decode cX6_meet 34 = .ok (.aload_n 0, 1) := by decide +kernel
theorem dX6_meet_35 : decode cX6_meet 35 = .ok (.getfield 9, 3) := by decide +kernel
theorem dX6_meet_38 : decode cX6_meet 38 = .ok (.iload_n 2, 1) := by decide +kernel
theorem dX6_meet_39 : decode cX6_meet 39 = .ok (.aload_n 0, 1) := by decide +kernel
theorem dX6_meet_40 : decode cX6_meet 40 = .ok (.getfield 9, 3) := by decide +kernel
theorem dX6_meet_43 : decode cX6_meet 43 = .ok (.iload_n 2, 1) := by decide +kernel
theorem dX6_meet_44 : decode cX6_meet 44 = .ok (.iaload, 1) := by decide +kernel
theorem dX6_meet_45 : decode cX6_meet 45 = .ok (.aload_n 1, 1) := by decide +kernel
theorem dX6_meet_46 : decode cX6_meet 46 = .ok (.getfield 9, 3) := by decide +kernel
theorem dX6_meet_49 : decode cX6_meet 49 = .ok (.iload_n 2, 1) := by decide +kernel
theorem dX6_meet_50 : decode cX6_meet 50 = .ok (.iaload, 1) := by decide +kernel
theorem dX6_meet_51 : decode cX6_meet 51 = .ok (.invokestatic 56, 3) := by decide +kernel
theorem dX6_meet_54 : decode cX6_meet 54 = .ok (.iastore, 1) := by decide +kernel
theorem dX6_meet_55 : decode cX6_meet 55 = .ok (.iinc 2 1, 3) := by decide +kernel
theorem dX6_meet_58 : decode cX6_meet 58 = .ok (.goto (-33), 3) := by decide +kernel
theorem dX6_meet_61 : decode cX6_meet 61 = .ok (.aload_n 0, 1) := by decide +kernel
theorem dX6_meet_62 : decode cX6_meet 62 = .ok (.invokevirtual 68, 3) := by decide +kernel
theorem dX6_meet_65 : decode cX6_meet 65 = .ok (.return_, 1) := by decide +kernel
theorem dX6_widen_0 : decode cX6_widen 0 = .ok (.aload_n 0, 1) := by decide +kernel
theorem dX6_widen_1 : decode cX6_widen 1 = .ok (.getfield 15, 3) := by decide +kernel
theorem dX6_widen_4 : decode cX6_widen 4 = .ok (.ifCond .eq 9, 3) := by decide +kernel
theorem dX6_widen_7 : decode cX6_widen 7 = .ok (.aload_n 0, 1) := by decide +kernel
theorem dX6_widen_8 : decode cX6_widen 8 = .ok (.aload_n 1, 1) := by decide +kernel
theorem dX6_widen_9 : decode cX6_widen 9 = .ok (.invokevirtual 61, 3) := by decide +kernel
theorem dX6_widen_12 : decode cX6_widen 12 = .ok (.return_, 1) := by decide +kernel
theorem dX6_widen_13 : decode cX6_widen 13 = .ok (.iconst 0, 1) := by decide +kernel
theorem dX6_widen_14 : decode cX6_widen 14 = .ok (.istore_n 2, 1) := by decide +kernel
theorem dX6_widen_15 : decode cX6_widen 15 = .ok (.iload_n 2, 1) := by decide +kernel
theorem dX6_widen_16 : decode cX6_widen 16 = .ok (.aload_n 0, 1) := by decide +kernel
theorem dX6_widen_17 : decode cX6_widen 17 = .ok (.getfield 9, 3) := by decide +kernel
theorem dX6_widen_20 : decode cX6_widen 20 = .ok (.arraylength, 1) := by decide +kernel
theorem dX6_widen_21 : decode cX6_widen 21 = .ok (.if_icmp .ge 32, 3) := by decide +kernel
theorem dX6_widen_24 : decode cX6_widen 24 = .ok (.aload_n 0, 1) := by decide +kernel
theorem dX6_widen_25 : decode cX6_widen 25 = .ok (.getfield 9, 3) := by decide +kernel
theorem dX6_widen_28 : decode cX6_widen 28 = .ok (.iload_n 2, 1) := by decide +kernel
theorem dX6_widen_29 : decode cX6_widen 29 = .ok (.iaload, 1) := by decide +kernel
theorem dX6_widen_30 : decode cX6_widen 30 = .ok (.aload_n 1, 1) := by decide +kernel
theorem dX6_widen_31 : decode cX6_widen 31 = .ok (.getfield 9, 3) := by decide +kernel
theorem dX6_widen_34 : decode cX6_widen 34 = .ok (.iload_n 2, 1) := by decide +kernel
theorem dX6_widen_35 : decode cX6_widen 35 = .ok (.iaload, 1) := by decide +kernel
theorem dX6_widen_36 : decode cX6_widen 36 = .ok (.if_icmp .ge 11, 3) := by decide +kernel
theorem dX6_widen_39 : decode cX6_widen 39 = .ok (.aload_n 0, 1) := by decide +kernel
theorem dX6_widen_40 : decode cX6_widen 40 = .ok (.getfield 9, 3) := by decide +kernel
theorem dX6_widen_43 : decode cX6_widen 43 = .ok (.iload_n 2, 1) := by decide +kernel
theorem dX6_widen_44 : decode cX6_widen 44 = .ok (.bipush 16, 2) := by decide +kernel
theorem dX6_widen_46 : decode cX6_widen 46 = .ok (.iastore, 1) := by decide +kernel
theorem dX6_widen_47 : decode cX6_widen 47 = .ok (.iinc 2 1, 3) := by decide +kernel
theorem dX6_widen_50 : decode cX6_widen 50 = .ok (.goto (-35), 3) := by decide +kernel
theorem dX6_widen_53 : decode cX6_widen 53 = .ok (.return_, 1) := by decide +kernel
theorem dX6_isWithin_0 : decode cX6_isWithin 0 = .ok (.aload_n 0, 1) := by decide +kernel
theorem dX6_isWithin_1 : decode cX6_isWithin 1 = .ok (.getfield 15, 3) := by decide +kernel
theorem dX6_isWithin_4 : decode cX6_isWithin 4 = .ok (.ifCond .ne 10, 3) := by decide +kernel
theorem dX6_isWithin_7 : decode cX6_isWithin 7 = .ok (.aload_n 1, 1) := by decide +kernel
theorem dX6_isWithin_8 : decode cX6_isWithin 8 = .ok (.getfield 15, 3) := by decide +kernel
theorem dX6_isWithin_11 : decode cX6_isWithin 11 = .ok (.ifCond .eq 8, 3) := by decide +kernel
theorem dX6_isWithin_14 : decode cX6_isWithin 14 = .ok (.aload_n 0, 1) := by decide +kernel
theorem dX6_isWithin_15 : decode cX6_isWithin 15 = .ok (.getfield 15, 3) := by decide +kernel
theorem dX6_isWithin_18 : decode cX6_isWithin 18 = .ok (.ireturn, 1) := by decide +kernel
theorem dX6_isWithin_19 : decode cX6_isWithin 19 = .ok (.iconst 0, 1) := by decide +kernel
theorem dX6_isWithin_20 : decode cX6_isWithin 20 = .ok (.istore_n 2, 1) := by decide +kernel
theorem dX6_isWithin_21 : decode cX6_isWithin 21 = .ok (.iload_n 2, 1) := by decide +kernel
theorem dX6_isWithin_22 : decode cX6_isWithin 22 = .ok (.aload_n 0, 1) := by decide +kernel
theorem dX6_isWithin_23 : decode cX6_isWithin 23 = .ok (.getfield 9, 3) := by decide +kernel
theorem dX6_isWithin_26 : decode cX6_isWithin 26 = .ok (.arraylength, 1) := by decide +kernel
theorem dX6_isWithin_27 : decode cX6_isWithin 27 = .ok (.if_icmp .ge 26, 3) := by decide +kernel
theorem dX6_isWithin_30 : decode cX6_isWithin 30 = .ok (.aload_n 0, 1) := by decide +kernel
theorem dX6_isWithin_31 : decode cX6_isWithin 31 = .ok (.getfield 9, 3) := by decide +kernel
theorem dX6_isWithin_34 : decode cX6_isWithin 34 = .ok (.iload_n 2, 1) := by decide +kernel
theorem dX6_isWithin_35 : decode cX6_isWithin 35 = .ok (.iaload, 1) := by decide +kernel
theorem dX6_isWithin_36 : decode cX6_isWithin 36 = .ok (.aload_n 1, 1) := by decide +kernel
theorem dX6_isWithin_37 : decode cX6_isWithin 37 = .ok (.getfield 9, 3) := by decide +kernel
theorem dX6_isWithin_40 : decode cX6_isWithin 40 = .ok (.iload_n 2, 1) := by decide +kernel
theorem dX6_isWithin_41 : decode cX6_isWithin 41 = .ok (.iaload, 1) := by decide +kernel
theorem dX6_isWithin_42 : decode cX6_isWithin 42 = .ok (.if_icmp .le 5, 3) := by decide +kernel
theorem dX6_isWithin_45 : decode cX6_isWithin 45 = .ok (.iconst 0, 1) := by decide +kernel
theorem dX6_isWithin_46 : decode cX6_isWithin 46 = .ok (.ireturn, 1) := by decide +kernel
theorem dX6_isWithin_47 : decode cX6_isWithin 47 = .ok (.iinc 2 1, 3) := by decide +kernel
theorem dX6_isWithin_50 : decode cX6_isWithin 50 = .ok (.goto (-29), 3) := by decide +kernel
theorem dX6_isWithin_53 : decode cX6_isWithin 53 = .ok (.iconst 1, 1) := by decide +kernel
theorem dX6_isWithin_54 : decode cX6_isWithin 54 = .ok (.ireturn, 1) := by decide +kernel
theorem dX6_contains_0 : decode cX6_contains 0 = .ok (.aload_n 0, 1) := by decide +kernel
theorem dX6_contains_1 : decode cX6_contains 1 = .ok (.getfield 15, 3) := by decide +kernel
theorem dX6_contains_4 : decode cX6_contains 4 = .ok (.ifCond .ne 39, 3) := by decide +kernel
theorem dX6_contains_7 : decode cX6_contains 7 = .ok (.aload_n 0, 1) := by decide +kernel
theorem dX6_contains_8 : decode cX6_contains 8 = .ok (.iload_n 1, 1) := by decide +kernel
theorem dX6_contains_9 : decode cX6_contains 9 = .ok (.iload_n 2, 1) := by decide +kernel
theorem dX6_contains_10 : decode cX6_contains 10 = .ok (.invokevirtual 71, 3) := by decide +kernel
theorem dX6_contains_13 : decode cX6_contains 13 = .ok (.ifCond .eq 30, 3) := by decide +kernel
theorem dX6_contains_16 : decode cX6_contains 16 = .ok (.iload_n 3, 1) := by decide +kernel
theorem dX6_contains_17 : decode cX6_contains 17 = .ok (.aload_n 0, 1) := by decide +kernel
theorem dX6_contains_18 : decode cX6_contains 18 = .ok (.iconst 4, 1) := by decide +kernel
theorem dX6_contains_19 : decode cX6_contains 19 = .ok (.iload_n 1, 1) := by decide +kernel
theorem dX6_contains_20 : decode cX6_contains 20 = .ok (.iload_n 2, 1) := by decide +kernel
theorem dX6_contains_21 : decode cX6_contains 21 = .ok (.invokevirtual 75, 3) := by decide +kernel
theorem dX6_contains_24 : decode cX6_contains 24 = .ok (.if_icmp .gt 19, 3) := by decide +kernel
theorem dX6_contains_27 : decode cX6_contains 27 = .ok (.iload_n 3, 1) := by decide +kernel
theorem dX6_contains_28 : decode cX6_contains 28 = .ok (.ineg, 1) := by decide +kernel
theorem dX6_contains_29 : decode cX6_contains 29 = .ok (.aload_n 0, 1) := by decide +kernel
theorem dX6_contains_30 : decode cX6_contains 30 = .ok (.iconst 5, 1) := by decide +kernel
theorem dX6_contains_31 : decode cX6_contains 31 = .ok (.iload_n 1, 1) := by decide +kernel
theorem dX6_contains_32 : decode cX6_contains 32 = .ok (.iload_n 2, 1) := by decide +kernel
theorem dX6_contains_33 : decode cX6_contains 33 = .ok (.invokevirtual 75, 3) := by decide +kernel
theorem dX6_contains_36 : decode cX6_contains 36 = .ok (.if_icmp .gt 7, 3) := by decide +kernel
theorem dX6_contains_39 : decode cX6_contains 39 = .ok (.iconst 1, 1) := by decide +kernel
theorem dX6_contains_40 : decode cX6_contains 40 = .ok (.goto 4, 3) := by decide +kernel
theorem dX6_contains_43 : decode cX6_contains 43 = .ok (.iconst 0, 1) := by decide +kernel
theorem dX6_contains_44 : decode cX6_contains 44 = .ok (.ireturn, 1) := by decide +kernel
theorem dX6_countPoints_0 : decode cX6_countPoints 0 = .ok (.aload_n 0, 1) := by decide +kernel
theorem dX6_countPoints_1 : decode cX6_countPoints 1 = .ok (.getfield 15, 3) := by decide +kernel
theorem dX6_countPoints_4 : decode cX6_countPoints 4 = .ok (.ifCond .eq 5, 3) := by decide +kernel
theorem dX6_countPoints_7 : decode cX6_countPoints 7 = .ok (.iconst 0, 1) := by decide +kernel
theorem dX6_countPoints_8 : decode cX6_countPoints 8 = .ok (.ireturn, 1) := by decide +kernel
theorem dX6_countPoints_9 : decode cX6_countPoints 9 = .ok (.iconst 0, 1) := by decide +kernel
theorem dX6_countPoints_10 : decode cX6_countPoints 10 = .ok (.istore_n 1, 1) := by decide +kernel
theorem dX6_countPoints_11 : decode cX6_countPoints 11 = .ok (.bipush (-8), 2) := by decide +kernel
theorem dX6_countPoints_13 : decode cX6_countPoints 13 = .ok (.istore_n 2, 1) := by decide +kernel
theorem dX6_countPoints_14 : decode cX6_countPoints 14 = .ok (.iload_n 2, 1) := by decide +kernel
theorem dX6_countPoints_15 : decode cX6_countPoints 15 = .ok (.bipush 8, 2) := by decide +kernel
theorem dX6_countPoints_17 : decode cX6_countPoints 17 = .ok (.if_icmp .gt 60, 3) := by decide +kernel
theorem dX6_countPoints_20 : decode cX6_countPoints 20 = .ok (.bipush (-8), 2) := by decide +kernel
theorem dX6_countPoints_22 : decode cX6_countPoints 22 = .ok (.istore_n 3, 1) := by decide +kernel
theorem dX6_countPoints_23 : decode cX6_countPoints 23 = .ok (.iload_n 3, 1) := by decide +kernel
theorem dX6_countPoints_24 : decode cX6_countPoints 24 = .ok (.bipush 8, 2) := by decide +kernel
theorem dX6_countPoints_26 : decode cX6_countPoints 26 = .ok (.if_icmp .gt 45, 3) := by decide +kernel
theorem dX6_countPoints_29 : decode cX6_countPoints 29 = .ok (.aload_n 0, 1) := by decide +kernel
theorem dX6_countPoints_30 : decode cX6_countPoints 30 = .ok (.iload_n 2, 1) := by decide +kernel
theorem dX6_countPoints_31 : decode cX6_countPoints 31 = .ok (.iload_n 3, 1) := by decide +kernel
theorem dX6_countPoints_32 : decode cX6_countPoints 32 = .ok (.invokevirtual 71, 3) := by decide +kernel
theorem dX6_countPoints_35 : decode cX6_countPoints 35 = .ok (.ifCond .ne 6, 3) := by decide +kernel
theorem dX6_countPoints_38 : decode cX6_countPoints 38 = .ok (.goto 27, 3) := by decide +kernel
theorem dX6_countPoints_41 : decode cX6_countPoints 41 = .ok (.iload_n 1, 1) := by decide +kernel
theorem dX6_countPoints_42 : decode cX6_countPoints 42 = .ok (.iconst 0, 1) := by decide +kernel
theorem dX6_countPoints_43 : decode cX6_countPoints 43 = .ok (.aload_n 0, 1) := by decide +kernel
theorem dX6_countPoints_44 : decode cX6_countPoints 44 = .ok (.iconst 4, 1) := by decide +kernel
theorem dX6_countPoints_45 : decode cX6_countPoints 45 = .ok (.iload_n 2, 1) := by decide +kernel
theorem dX6_countPoints_46 : decode cX6_countPoints 46 = .ok (.iload_n 3, 1) := by decide +kernel
theorem dX6_countPoints_47 : decode cX6_countPoints 47 = .ok (.invokevirtual 75, 3) := by decide +kernel
theorem dX6_countPoints_50 : decode cX6_countPoints 50 = .ok (.aload_n 0, 1) := by decide +kernel
theorem dX6_countPoints_51 : decode cX6_countPoints 51 = .ok (.iconst 5, 1) := by decide +kernel
theorem dX6_countPoints_52 : decode cX6_countPoints 52 = .ok (.iload_n 2, 1) := by decide +kernel
theorem dX6_countPoints_53 : decode cX6_countPoints 53 = .ok (.iload_n 3, 1) := by decide +kernel
theorem dX6_countPoints_54 : decode cX6_countPoints 54 = .ok (.invokevirtual 75, 3) := by decide +kernel
theorem dX6_countPoints_57 : decode cX6_countPoints 57 = .ok (.iadd, 1) := by decide +kernel
theorem dX6_countPoints_58 : decode cX6_countPoints 58 = .ok (.iconst 1, 1) := by decide +kernel
theorem dX6_countPoints_59 : decode cX6_countPoints 59 = .ok (.iadd, 1) := by decide +kernel
theorem dX6_countPoints_60 : decode cX6_countPoints 60 = .ok (.invokestatic 65, 3) := by decide +kernel
theorem dX6_countPoints_63 : decode cX6_countPoints 63 = .ok (.iadd, 1) := by decide +kernel
theorem dX6_countPoints_64 : decode cX6_countPoints 64 = .ok (.istore_n 1, 1) := by decide +kernel
theorem dX6_countPoints_65 : decode cX6_countPoints 65 = .ok (.iinc 3 1, 3) := by decide +kernel
theorem dX6_countPoints_68 : decode cX6_countPoints 68 = .ok (.goto (-45), 3) := by decide +kernel
theorem dX6_countPoints_71 : decode cX6_countPoints 71 = .ok (.iinc 2 1, 3) := by decide +kernel
theorem dX6_countPoints_74 : decode cX6_countPoints 74 = .ok (.goto (-60), 3) := by decide +kernel
theorem dX6_countPoints_77 : decode cX6_countPoints 77 = .ok (.iload_n 1, 1) := by decide +kernel
theorem dX6_countPoints_78 : decode cX6_countPoints 78 = .ok (.ireturn, 1) := by decide +kernel
