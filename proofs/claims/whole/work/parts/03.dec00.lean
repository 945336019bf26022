theorem dX0_init_0 : decode cX0_init 0 = .ok (.aload_n 0, 1) := by decide +kernel
theorem dX0_init_1 : decode cX0_init 1 = .ok (.invokespecial 3, 3) := by decide +kernel
theorem dX0_init_4 : decode cX0_init 4 = .ok (.return_, 1) := by decide +kernel
theorem dX0_draw_0 : decode cX0_draw 0 = .ok (.aload_n 0, 1) := by decide +kernel
theorem dX0_draw_1 : decode cX0_draw 1 = .ok (.ldc2_w 9, 3) := by decide +kernel
theorem dX0_draw_4 : decode cX0_draw 4 = .ok (.aload_n 0, 1) := by decide +kernel
theorem dX0_draw_5 : decode cX0_draw 5 = .ok (.getfield 11, 3) := by decide +kernel
theorem dX0_draw_8 : decode cX0_draw 8 = .ok (.i2l, 1) := by decide +kernel
theorem dX0_draw_9 : decode cX0_draw 9 = .ok (.lmul, 1) := by decide +kernel
theorem dX0_draw_10 : decode cX0_draw 10 = .ok (.ldc2_w 17, 3) := by decide +kernel
theorem dX0_draw_13 : decode cX0_draw 13 = .ok (.ladd, 1) := by decide +kernel
theorem dX0_draw_14 : decode cX0_draw 14 = .ok (.ldc2_w 19, 3) := by decide +kernel
theorem dX0_draw_17 : decode cX0_draw 17 = .ok (.land, 1) := by decide +kernel
theorem dX0_draw_18 : decode cX0_draw 18 = .ok (.l2i, 1) := by decide +kernel
theorem dX0_draw_19 : decode cX0_draw 19 = .ok (.putfield 11, 3) := by decide +kernel
theorem dX0_draw_22 : decode cX0_draw 22 = .ok (.aload_n 0, 1) := by decide +kernel
theorem dX0_draw_23 : decode cX0_draw 23 = .ok (.getfield 11, 3) := by decide +kernel
theorem dX0_draw_26 : decode cX0_draw 26 = .ok (.ldc 21, 2) := by decide +kernel
theorem dX0_draw_28 : decode cX0_draw 28 = .ok (.idiv, 1) := by decide +kernel
theorem dX0_draw_29 : decode cX0_draw 29 = .ok (.iload_n 1, 1) := by decide +kernel
theorem dX0_draw_30 : decode cX0_draw 30 = .ok (.invokestatic 22, 3) := by decide +kernel
theorem dX0_draw_33 : decode cX0_draw 33 = .ok (.ireturn, 1) := by decide +kernel
theorem dX0_shapeOfFourTests_0 : decode cX0_shapeOfFourTests 0 = .ok (.aload_n 1, 1) := by decide +kernel
theorem dX0_shapeOfFourTests_1 : decode cX0_shapeOfFourTests 1 = .ok (.invokevirtual 28, 3) := by decide +kernel
theorem dX0_shapeOfFourTests_4 : decode cX0_shapeOfFourTests 4 = .ok (.iconst 0, 1) := by decide +kernel
theorem dX0_shapeOfFourTests_5 : decode cX0_shapeOfFourTests 5 = .ok (.istore_n 2, 1) := by decide +kernel
theorem dX0_shapeOfFourTests_6 : decode cX0_shapeOfFourTests 6 = .ok (.iload_n 2, 1) := by decide +kernel
theorem dX0_shapeOfFourTests_7 : decode cX0_shapeOfFourTests 7 = .ok (.iconst 4, 1) := by decide +kernel
theorem dX0_shapeOfFourTests_8 : decode cX0_shapeOfFourTests 8 = .ok (.if_icmp .ge 43, 3) := by decide +kernel
theorem dX0_shapeOfFourTests_11 : decode cX0_shapeOfFourTests 11 = .ok (.aload_n 0, 1) := by decide +kernel
theorem dX0_shapeOfFourTests_12 : decode cX0_shapeOfFourTests 12 = .ok (.bipush 6, 2) := by decide +kernel
theorem dX0_shapeOfFourTests_14 : decode cX0_shapeOfFourTests 14 = .ok (.invokevirtual 33, 3) := by decide +kernel
theorem dX0_shapeOfFourTests_17 : decode cX0_shapeOfFourTests 17 = .ok (.istore_n 3, 1) := by decide +kernel
theorem dX0_shapeOfFourTests_18 : decode cX0_shapeOfFourTests 18 = .ok (.aload_n 0, 1) := by decide +kernel
theorem dX0_shapeOfFourTests_19 : decode cX0_shapeOfFourTests 19 = .ok (.bipush 6, 2) := by decide +kernel
theorem dX0_shapeOfFourTests_21 : decode cX0_shapeOfFourTests 21 = .ok (.invokevirtual 33, 3) := by decide +kernel
theorem dX0_shapeOfFourTests_24 : decode cX0_shapeOfFourTests 24 = .ok (.istore 4, 2) := by decide +kernel
theorem dX0_shapeOfFourTests_26 : decode cX0_shapeOfFourTests 26 = .ok (.aload_n 0, 1) := by decide +kernel
theorem dX0_shapeOfFourTests_27 : decode cX0_shapeOfFourTests 27 = .ok (.bipush 12, 2) := by decide +kernel
theorem dX0_shapeOfFourTests_29 : decode cX0_shapeOfFourTests 29 = .ok (.invokevirtual 33, 3) := by decide +kernel
theorem dX0_shapeOfFourTests_32 : decode cX0_shapeOfFourTests 32 = .ok (.iconst 4, 1) := by decide +kernel
theorem dX0_shapeOfFourTests_33 : decode cX0_shapeOfFourTests 33 = .ok (.isub, 1) := by decide +kernel
theorem dX0_shapeOfFourTests_34 : decode cX0_shapeOfFourTests 34 = .ok (.istore 5, 2) := by decide +kernel
theorem dX0_shapeOfFourTests_36 : decode cX0_shapeOfFourTests 36 = .ok (.aload_n 1, 1) := by decide +kernel
theorem dX0_shapeOfFourTests_37 : decode cX0_shapeOfFourTests 37 = .ok (.iload_n 3, 1) := by decide +kernel
theorem dX0_shapeOfFourTests_38 : decode cX0_shapeOfFourTests 38 = .ok (.iload 4, 2) := by decide +kernel
theorem dX0_shapeOfFourTests_40 : decode cX0_shapeOfFourTests 40 = .ok (.iload 5, 2) := by decide +kernel
theorem dX0_shapeOfFourTests_42 : decode cX0_shapeOfFourTests 42 = .ok (.invokevirtual 37, 3) := by decide +kernel
theorem dX0_shapeOfFourTests_45 : decode cX0_shapeOfFourTests 45 = .ok (.iinc 2 1, 3) := by decide +kernel
theorem dX0_shapeOfFourTests_48 : decode cX0_shapeOfFourTests 48 = .ok (.goto (-42), 3) := by decide +kernel
theorem dX0_shapeOfFourTests_51 : decode cX0_shapeOfFourTests 51 = .ok (.aload_n 1, 1) := by decide +kernel
theorem dX0_shapeOfFourTests_52 : decode cX0_shapeOfFourTests 52 = .ok (.invokevirtual 41, 3) := by decide +kernel
theorem dX0_shapeOfFourTests_55 : decode cX0_shapeOfFourTests 55 = .ok (.return_, 1) := by decide +kernel
theorem dX1_init_0 : decode cX1_init 0 = .ok (.aload_n 0, 1) := by decide +kernel
theorem dX1_init_1 : decode cX1_init 1 = .ok (.invokespecial 3, 3) := by decide +kernel
theorem dX1_init_4 : decode cX1_init 4 = .ok (.aload_n 0, 1) := by decide +kernel
theorem dX1_init_5 : decode cX1_init 5 = .ok (.bipush 36, 2) := by decide +kernel
theorem dX1_init_7 : decode cX1_init 7 = .ok (.newarray .int, 2) := by decide +kernel
theorem dX1_init_9 : decode cX1_init 9 = .ok (.putfield 9, 3) := by decide +kernel
theorem dX1_init_12 : decode cX1_init 12 = .ok (.return_, 1) := by decide +kernel
theorem dX1_append_0 : decode cX1_append 0 = .ok (.aload_n 0, 1) := by decide +kernel
theorem dX1_append_1 : decode cX1_append 1 = .ok (.getfield 9, 3) := by decide +kernel
theorem dX1_append_4 : decode cX1_append 4 = .ok (.aload_n 0, 1) := by decide +kernel
theorem dX1_append_5 : decode cX1_append 5 = .ok (.getfield 15, 3) := by decide +kernel
theorem dX1_append_8 : decode cX1_append 8 = .ok (.iload_n 1, 1) := by decide +kernel
theorem dX1_append_9 : decode cX1_append 9 = .ok (.iastore, 1) := by decide +kernel
theorem dX1_append_10 : decode cX1_append 10 = .ok (.aload_n 0, 1) := by decide +kernel
theorem dX1_append_11 : decode cX1_append 11 = .ok (.dup, 1) := by decide +kernel
theorem dX1_append_12 : decode cX1_append 12 = .ok (.getfield 15, 3) := by decide +kernel
theorem dX1_append_15 : decode cX1_append 15 = .ok (.iconst 1, 1) := by decide +kernel
theorem dX1_append_16 : decode cX1_append 16 = .ok (.iadd, 1) := by decide +kernel
theorem dX1_append_17 : decode cX1_append 17 = .ok (.putfield 15, 3) := by decide +kernel
theorem dX1_append_20 : decode cX1_append 20 = .ok (.return_, 1) := by decide +kernel
theorem dX2_init_0 : decode cX2_init 0 = .ok (.aload_n 0, 1) := by decide +kernel
theorem dX2_init_1 : decode cX2_init 1 = .ok (.invokespecial 3, 3) := by decide +kernel
theorem dX2_init_4 : decode cX2_init 4 = .ok (.aload_n 0, 1) := by decide +kernel
theorem dX2_init_5 : decode cX2_init 5 = .ok (.bipush 15, 2) := by decide +kernel
theorem dX2_init_7 : decode cX2_init 7 = .ok (.newarray .int, 2) := by decide +kernel
theorem dX2_init_9 : decode cX2_init 9 = .ok (.putfield 9, 3) := by decide +kernel
theorem dX2_init_12 : decode cX2_init 12 = .ok (.aload_n 0, 1) := by decide +kernel
theorem dX2_init_13 : decode cX2_init 13 = .ok (.iconst 5, 1) := by decide +kernel
theorem dX2_init_14 : decode cX2_init 14 = .ok (.newarray .int, 2) := by decide +kernel
theorem dX2_init_16 : decode cX2_init 16 = .ok (.putfield 15, 3) := by decide +kernel
theorem dX2_init_19 : decode cX2_init 19 = .ok (.return_, 1) := by decide +kernel
theorem dX2_clear_0 : decode cX2_clear 0 = .ok (.aload_n 0, 1) := by decide +kernel
theorem dX2_clear_1 : decode cX2_clear 1 = .ok (.getfield 15, 3) := by decide +kernel
theorem dX2_clear_4 : decode cX2_clear 4 = .ok (.iconst 0, 1) := by decide +kernel
theorem dX2_clear_5 : decode cX2_clear 5 = .ok (.invokestatic 18, 3) := by decide +kernel
theorem dX2_clear_8 : decode cX2_clear 8 = .ok (.return_, 1) := by decide +kernel
theorem dX2_lay_0 : decode cX2_lay 0 = .ok (.aload_n 0, 1) := by decide +kernel
theorem dX2_lay_1 : decode cX2_lay 1 = .ok (.getfield 9, 3) := by decide +kernel
theorem dX2_lay_4 : decode cX2_lay 4 = .ok (.iload_n 1, 1) := by decide +kernel
theorem dX2_lay_5 : decode cX2_lay 5 = .ok (.iconst 3, 1) := by decide +kernel
theorem dX2_lay_6 : decode cX2_lay 6 = .ok (.imul, 1) := by decide +kernel
theorem dX2_lay_7 : decode cX2_lay 7 = .ok (.aload_n 0, 1) := by decide +kernel
theorem dX2_lay_8 : decode cX2_lay 8 = .ok (.getfield 15, 3) := by decide +kernel
theorem dX2_lay_11 : decode cX2_lay 11 = .ok (.iload_n 1, 1) := by decide +kernel
theorem dX2_lay_12 : decode cX2_lay 12 = .ok (.iaload, 1) := by decide +kernel
theorem dX2_lay_13 : decode cX2_lay 13 = .ok (.iadd, 1) := by decide +kernel
theorem dX2_lay_14 : decode cX2_lay 14 = .ok (.iload_n 2, 1) := by decide +kernel
theorem dX2_lay_15 : decode cX2_lay 15 = .ok (.iastore, 1) := by decide +kernel
theorem dX2_lay_16 : decode cX2_lay 16 = .ok (.aload_n 0, 1) := by decide +kernel
theorem dX2_lay_17 : decode cX2_lay 17 = .ok (.getfield 15, 3) := by decide +kernel
theorem dX2_lay_20 : decode cX2_lay 20 = .ok (.iload_n 1, 1) := by decide +kernel
theorem dX2_lay_21 : decode cX2_lay 21 = .ok (.dup2, 1) := by decide +kernel
theorem dX2_lay_22 : decode cX2_lay 22 = .ok (.iaload, 1) := by decide +kernel
theorem dX2_lay_23 : decode cX2_lay 23 = .ok (.iconst 1, 1) := by decide +kernel
theorem dX2_lay_24 : decode cX2_lay 24 = .ok (.iadd, 1) := by decide +kernel
theorem dX2_lay_25 : decode cX2_lay 25 = .ok (.iastore, 1) := by decide +kernel
theorem dX2_lay_26 : decode cX2_lay 26 = .ok (.aload_n 0, 1) := by decide +kernel
theorem dX2_lay_27 : decode cX2_lay 27 = .ok (.getfield 15, 3) := by decide +kernel
theorem dX2_lay_30 : decode cX2_lay 30 = .ok (.iload_n 1, 1) := by decide +kernel
theorem dX2_lay_31 : decode cX2_lay 31 = .ok (.iaload, 1) := by decide +kernel
theorem dX2_lay_32 : decode cX2_lay 32 = .ok (.ireturn, 1) := by decide +kernel
theorem dX2_stepAt_0 : decode cX2_stepAt 0 = .ok (.iload_n 2, 1) := by decide +kernel
theorem dX2_stepAt_1 : decode cX2_stepAt 1 = .ok (.aload_n 0, 1) := by decide +kernel
theorem dX2_stepAt_2 : decode cX2_stepAt 2 = .ok (.getfield 15, 3) := by decide +kernel
theorem dX2_stepAt_5 : decode cX2_stepAt 5 = .ok (.iload_n 1, 1) := by decide +kernel
theorem dX2_stepAt_6 : decode cX2_stepAt 6 = .ok (.iaload, 1) := by decide +kernel
theorem dX2_stepAt_7 : decode cX2_stepAt 7 = .ok (.if_icmp .ge 16, 3) := by decide +kernel
theorem dX2_stepAt_10 : decode cX2_stepAt 10 = .ok (.aload_n 0, 1) := by decide +kernel
theorem dX2_stepAt_11 : decode cX2_stepAt 11 = .ok (.getfield 9, 3) := by decide +kernel
theorem dX2_stepAt_14 : decode cX2_stepAt 14 = .ok (.iload_n 1, 1) := by decide +kernel
theorem dX2_stepAt_15 : decode cX2_stepAt 15 = .ok (.iconst 3, 1) := by decide +kernel
theorem dX2_stepAt_16 : decode cX2_stepAt 16 = .ok (.imul, 1) := by decide +kernel
theorem dX2_stepAt_17 : decode cX2_stepAt 17 = .ok (.iload_n 2, 1) := by decide +kernel
theorem dX2_stepAt_18 : decode cX2_stepAt 18 = .ok (.iadd, 1) := by decide +kernel
theorem dX2_stepAt_19 : decode cX2_stepAt 19 = .ok (.iaload, 1) := by decide +kernel
theorem dX2_stepAt_20 : decode cX2_stepAt 20 = .ok (.goto 4, 3) := by decide +kernel
theorem dX2_stepAt_23 : decode cX2_stepAt 23 = .ok (.iconst (-1), 1) := by decide +kernel
theorem dX2_stepAt_24 : decode cX2_stepAt 24 = .ok (.ireturn, 1) := by decide +kernel
theorem dX2_countAll_0 : decode cX2_countAll 0 = .ok (.iconst 0, 1) := by decide +kernel
theorem dX2_countAll_1 : decode cX2_countAll 1 = .ok (.istore_n 1, 1) := by decide +kernel
theorem dX2_countAll_2 : decode cX2_countAll 2 = .ok (.iconst 0, 1) := by decide +kernel
theorem dX2_countAll_3 : decode cX2_countAll 3 = .ok (.istore_n 2, 1) := by decide +kernel
theorem dX2_countAll_4 : decode cX2_countAll 4 = .ok (.iload_n 2, 1) := by decide +kernel
theorem dX2_countAll_5 : decode cX2_countAll 5 = .ok (.iconst 5, 1) := by decide +kernel
theorem dX2_countAll_6 : decode cX2_countAll 6 = .ok (.if_icmp .ge 18, 3) := by decide +kernel
theorem dX2_countAll_9 : decode cX2_countAll 9 = .ok (.iload_n 1, 1) := by decide +kernel
theorem dX2_countAll_10 : decode cX2_countAll 10 = .ok (.aload_n 0, 1) := by decide +kernel
theorem dX2_countAll_11 : decode cX2_countAll 11 = .ok (.getfield 15, 3) := by decide +kernel
theorem dX2_countAll_14 : decode cX2_countAll 14 = .ok (.iload_n 2, 1) := by decide +kernel
theorem dX2_countAll_15 : decode cX2_countAll 15 = .ok (.iaload, 1) := by decide +kernel
theorem dX2_countAll_16 : decode cX2_countAll 16 = .ok (.iadd, 1) := by decide +kernel
theorem dX2_countAll_17 : decode cX2_countAll 17 = .ok (.istore_n 1, 1) := by decide +kernel
theorem dX2_countAll_18 : decode cX2_countAll 18 = .ok (.iinc 2 1, 3) := by decide +kernel
theorem dX2_countAll_21 : decode cX2_countAll 21 = .ok (.goto (-17), 3) := by decide +kernel
theorem dX2_countAll_24 : decode cX2_countAll 24 = .ok (.iload_n 1, 1) := by decide +kernel
theorem dX2_countAll_25 : decode cX2_countAll 25 = .ok (.ireturn, 1) := by decide +kernel
theorem dX3_init_0 : decode cX3_init 0 = .ok (.aload_n 0, 1) := by decide +kernel
theorem dX3_init_1 : decode cX3_init 1 = .ok (.invokespecial 3, 3) := by decide +kernel
theorem dX3_init_4 : decode cX3_init 4 = .ok (.aload_n 0, 1) := by decide +kernel
theorem dX3_init_5 : decode cX3_init 5 = .ok (.new 9, 3) := by decide +kernel
theorem dX3_init_8 : decode cX3_init 8 = .ok (.dup, 1) := by decide +kernel
theorem dX3_init_9 : decode cX3_init 9 = .ok (.invokespecial 11, 3) := by decide +kernel
theorem dX3_init_12 : decode cX3_init 12 = .ok (.putfield 12, 3) := by decide +kernel
theorem dX3_init_15 : decode cX3_init 15 = .ok (.return_, 1) := by decide +kernel
theorem dX3_faultOf_0 : decode cX3_faultOf 0 = .ok (.aload_n 0, 1) := by decide +kernel
theorem dX3_faultOf_1 : decode cX3_faultOf 1 = .ok (.getfield 12, 3) := by decide +kernel
theorem dX3_faultOf_4 : decode cX3_faultOf 4 = .ok (.iconst 0, 1) := by decide +kernel
theorem dX3_faultOf_5 : decode cX3_faultOf 5 = .ok (.putfield 18, 3) := by decide +kernel
theorem dX3_faultOf_8 : decode cX3_faultOf 8 = .ok (.aload_n 0, 1) := by decide +kernel
theorem dX3_faultOf_9 : decode cX3_faultOf 9 = .ok (.iconst (-1), 1) := by decide +kernel
theorem dX3_faultOf_10 : decode cX3_faultOf 10 = .ok (.putfield 22, 3) := by decide +kernel
theorem dX3_faultOf_13 : decode cX3_faultOf 13 = .ok (.iconst 0, 1) := by decide +kernel
theorem dX3_faultOf_14 : decode cX3_faultOf 14 = .ok (.istore_n 2, 1) := by decide +kernel
theorem dX3_faultOf_15 : decode cX3_faultOf 15 = .ok (.iload_n 2, 1) := by decide +kernel
theorem dX3_faultOf_16 : decode cX3_faultOf 16 = .ok (.aload_n 1, 1) := by decide +kernel
theorem dX3_faultOf_17 : decode cX3_faultOf 17 = .ok (.getfield 25, 3) := by decide +kernel
theorem dX3_faultOf_20 : decode cX3_faultOf 20 = .ok (.if_icmp .ge 24, 3) := by decide +kernel
theorem dX3_faultOf_23 : decode cX3_faultOf 23 = .ok (.aload_n 0, 1) := by decide +kernel
theorem dX3_faultOf_24 : decode cX3_faultOf 24 = .ok (.aload_n 1, 1) := by decide +kernel
theorem dX3_faultOf_25 : decode cX3_faultOf 25 = .ok (.getfield 28, 3) := by decide +kernel
theorem dX3_faultOf_28 : decode cX3_faultOf 28 = .ok (.iload_n 2, 1) := by decide +kernel
theorem dX3_faultOf_29 : decode cX3_faultOf 29 = .ok (.iaload, 1) := by decide +kernel
theorem dX3_faultOf_30 : decode cX3_faultOf 30 = .ok (.invokevirtual 32, 3) := by decide +kernel
theorem dX3_faultOf_33 : decode cX3_faultOf 33 = .ok (.ifCond .ne 5, 3) := by decide +kernel
theorem dX3_faultOf_36 : decode cX3_faultOf 36 = .ok (.iload_n 2, 1) := by decide +kernel
theorem dX3_faultOf_37 : decode cX3_faultOf 37 = .ok (.ireturn, 1) := by decide +kernel
theorem dX3_faultOf_38 : decode cX3_faultOf 38 = .ok (.iinc 2 1, 3) := by decide +kernel
theorem dX3_faultOf_41 : decode cX3_faultOf 41 = .ok (.goto (-26), 3) := by decide +kernel
theorem dX3_faultOf_44 : decode cX3_faultOf 44 = .ok (.aload_n 1, 1) := by decide +kernel
theorem dX3_faultOf_45 : decode cX3_faultOf 45 = .ok (.getfield 25, 3) := by decide +kernel
theorem dX3_faultOf_48 : decode cX3_faultOf 48 = .ok (.ireturn, 1) := by decide +kernel
theorem dX3_atAnEnd_0 : decode cX3_atAnEnd 0 = .ok (.aload_n 0, 1) := by decide +kernel
theorem dX3_atAnEnd_1 : decode cX3_atAnEnd 1 = .ok (.getfield 22, 3) := by decide +kernel
theorem dX3_atAnEnd_4 : decode cX3_atAnEnd 4 = .ok (.iconst (-1), 1) := by decide +kernel
theorem dX3_atAnEnd_5 : decode cX3_atAnEnd 5 = .ok (.if_icmp .eq 24, 3) := by decide +kernel
theorem dX3_atAnEnd_8 : decode cX3_atAnEnd 8 = .ok (.aload_n 0, 1) := by decide +kernel
theorem dX3_atAnEnd_9 : decode cX3_atAnEnd 9 = .ok (.getfield 36, 3) := by decide +kernel
theorem dX3_atAnEnd_12 : decode cX3_atAnEnd 12 = .ok (.aload_n 0, 1) := by decide +kernel
theorem dX3_atAnEnd_13 : decode cX3_atAnEnd 13 = .ok (.getfield 22, 3) := by decide +kernel
theorem dX3_atAnEnd_16 : decode cX3_atAnEnd 16 = .ok (.invokestatic 39, 3) := by decide +kernel
theorem dX3_atAnEnd_19 : decode cX3_atAnEnd 19 = .ok (.invokevirtual 43, 3) := by decide +kernel
theorem dX3_atAnEnd_22 : decode cX3_atAnEnd 22 = .ok (.if_icmp .ne 7, 3) := by decide +kernel
theorem dX3_atAnEnd_25 : decode cX3_atAnEnd 25 = .ok (.iconst 1, 1) := by decide +kernel
theorem dX3_atAnEnd_26 : decode cX3_atAnEnd 26 = .ok (.goto 4, 3) := by decide +kernel
theorem dX3_atAnEnd_29 : decode cX3_atAnEnd 29 = .ok (.iconst 0, 1) := by decide +kernel
theorem dX3_atAnEnd_30 : decode cX3_atAnEnd 30 = .ok (.ireturn, 1) := by decide +kernel
theorem dX3_accepts_0 : decode cX3_accepts 0 = .ok (.aload_n 0, 1) := by decide +kernel
theorem dX3_accepts_1 : decode cX3_accepts 1 = .ok (.getfield 22, 3) := by decide +kernel
theorem dX3_accepts_4 : decode cX3_accepts 4 = .ok (.iconst (-1), 1) := by decide +kernel
theorem dX3_accepts_5 : decode cX3_accepts 5 = .ok (.if_icmp .ne 9, 3) := by decide +kernel
theorem dX3_accepts_8 : decode cX3_accepts 8 = .ok (.aload_n 0, 1) := by decide +kernel
theorem dX3_accepts_9 : decode cX3_accepts 9 = .ok (.iload_n 1, 1) := by decide +kernel
theorem dX3_accepts_10 : decode cX3_accepts 10 = .ok (.invokevirtual 49, 3) := by decide +kernel
theorem dX3_accepts_13 : decode cX3_accepts 13 = .ok (.ireturn, 1) := by decide +kernel
theorem dX3_accepts_14 : decode cX3_accepts 14 = .ok (.aload_n 0, 1) := by decide +kernel
theorem dX3_accepts_15 : decode cX3_accepts 15 = .ok (.getfield 22, 3) := by decide +kernel
theorem dX3_accepts_18 : decode cX3_accepts 18 = .ok (.invokestatic 39, 3) := by decide +kernel
theorem dX3_accepts_21 : decode cX3_accepts 21 = .ok (.astore_n 2, 1) := by decide +kernel
theorem dX3_accepts_22 : decode cX3_accepts 22 = .ok (.aload_n 0, 1) := by decide +kernel
theorem dX3_accepts_23 : decode cX3_accepts 23 = .ok (.getfield 36, 3) := by decide +kernel
theorem dX3_accepts_26 : decode cX3_accepts 26 = .ok (.aload_n 2, 1) := by decide +kernel
theorem dX3_accepts_27 : decode cX3_accepts 27 = .ok (.invokevirtual 43, 3) := by decide +kernel
theorem dX3_accepts_30 : decode cX3_accepts 30 = .ok (.if_icmp .lt 9, 3) := by decide +kernel
theorem dX3_accepts_33 : decode cX3_accepts 33 = .ok (.aload_n 0, 1) := by decide +kernel
theorem dX3_accepts_34 : decode cX3_accepts 34 = .ok (.iload_n 1, 1) := by decide +kernel
theorem dX3_accepts_35 : decode cX3_accepts 35 = .ok (.invokevirtual 52, 3) := by decide +kernel
theorem dX3_accepts_38 : decode cX3_accepts 38 = .ok (.ireturn, 1) := by decide +kernel
theorem dX3_accepts_39 : decode cX3_accepts 39 = .ok (.aload_n 2, 1) := by decide +kernel
theorem dX3_accepts_40 : decode cX3_accepts 40 = .ok (.aload_n 0, 1) := by decide +kernel
theorem dX3_accepts_41 : decode cX3_accepts 41 = .ok (.getfield 36, 3) := by decide +kernel
theorem dX3_accepts_44 : decode cX3_accepts 44 = .ok (.invokevirtual 55, 3) := by decide +kernel
theorem dX3_accepts_47 : decode cX3_accepts 47 = .ok (.istore_n 3, 1) := by decide +kernel
theorem dX3_accepts_48 : decode cX3_accepts 48 = .ok (.aload_n 0, 1) := by decide +kernel
theorem dX3_accepts_49 : decode cX3_accepts 49 = .ok (.iload_n 3, 1) := by decide +kernel
theorem dX3_accepts_50 : decode cX3_accepts 50 = .ok (.iload_n 1, 1) := by decide +kernel
theorem dX3_accepts_51 : decode cX3_accepts 51 = .ok (.invokevirtual 59, 3) := by decide +kernel
theorem dX3_accepts_54 : decode cX3_accepts 54 = .ok (.ifCond .ne 5, 3) := by decide +kernel
theorem dX3_accepts_57 : decode cX3_accepts 57 = .ok (.iconst 0, 1) := by decide +kernel
theorem dX3_accepts_58 : decode cX3_accepts 58 = .ok (.ireturn, 1) := by decide +kernel
theorem dX3_accepts_59 : decode cX3_accepts 59 = .ok (.aload_n 0, 1) := by decide +kernel
theorem dX3_accepts_60 : decode cX3_accepts 60 = .ok (.iload_n 3, 1) := by decide +kernel
theorem dX3_accepts_61 : decode cX3_accepts 61 = .ok (.iload_n 1, 1) := by decide +kernel
theorem dX3_accepts_62 : decode cX3_accepts 62 = .ok (.invokevirtual 63, 3) := by decide +kernel
theorem dX3_accepts_65 : decode cX3_accepts 65 = .ok (.aload_n 0, 1) := by decide +kernel
theorem dX3_accepts_66 : decode cX3_accepts 66 = .ok (.dup, 1) := by decide +kernel
theorem dX3_accepts_67 : decode cX3_accepts 67 = .ok (.getfield 36, 3) := by decide +kernel
theorem dX3_accepts_70 : decode cX3_accepts 70 = .ok (.iconst 1, 1) := by decide +kernel
theorem dX3_accepts_71 : decode cX3_accepts 71 = .ok (.iadd, 1) := by decide +kernel
theorem dX3_accepts_72 : decode cX3_accepts 72 = .ok (.putfield 36, 3) := by decide +kernel
theorem dX3_accepts_75 : decode cX3_accepts 75 = .ok (.aload_n 0, 1) := by decide +kernel
theorem dX3_accepts_76 : decode cX3_accepts 76 = .ok (.getfield 36, 3) := by decide +kernel
theorem dX3_accepts_79 : decode cX3_accepts 79 = .ok (.aload_n 2, 1) := by decide +kernel
theorem dX3_accepts_80 : decode cX3_accepts 80 = .ok (.invokevirtual 43, 3) := by decide +kernel
theorem dX3_accepts_83 : decode cX3_accepts 83 = .ok (.if_icmp .ne 33, 3) := by decide +kernel
theorem dX3_accepts_86 : decode cX3_accepts 86 = .ok (.aload_n 0, 1) := by decide +kernel
theorem dX3_accepts_87 : decode cX3_accepts 87 = .ok (.getfield 12, 3) := by decide +kernel
theorem dX3_accepts_90 : decode cX3_accepts 90 = .ok (.aload_n 0, 1) := by decide +kernel
theorem dX3_accepts_91 : decode cX3_accepts 91 = .ok (.getfield 12, 3) := by decide +kernel
theorem dX3_accepts_94 : decode cX3_accepts 94 = .ok (.getfield 18, 3) := by decide +kernel
theorem dX3_accepts_97 : decode cX3_accepts 97 = .ok (.aload_n 0, 1) := by decide +kernel
theorem dX3_accepts_98 : decode cX3_accepts 98 = .ok (.getfield 22, 3) := by decide +kernel
theorem dX3_accepts_101 : decode cX3_accepts 101 = .ok (.aload_n 0, 1) := by decide +kernel
theorem dX3_accepts_102 : decode cX3_accepts 102 = .ok (.getfield 67, 3) := by decide +kernel
theorem dX3_accepts_105 : decode cX3_accepts 105 = .ok (.aload_n 0, 1) := by decide +kernel
theorem dX3_accepts_106 : decode cX3_accepts 106 = .ok (.getfield 70, 3) := by decide +kernel
theorem dX3_accepts_109 : decode cX3_accepts 109 = .ok (.aload_n 0, 1) := by decide +kernel
theorem dX3_accepts_110 : decode cX3_accepts 110 = .ok (.getfield 73, 3) := by decide +kernel
theorem dX3_accepts_113 : decode cX3_accepts 113 = .ok (.invokevirtual 76, 3) := by decide +kernel
theorem dX3_accepts_116 : decode cX3_accepts 116 = .ok (.iconst 1, 1) := by decide +kernel
theorem dX3_accepts_117 : decode cX3_accepts 117 = .ok (.ireturn, 1) := by decide +kernel
theorem dX3_beginsStep_0 : decode cX3_beginsStep 0 = .ok (.ldc 80, 2) := by decide +kernel
theorem dX3_beginsStep_2 : decode cX3_beginsStep 2 = .ok (.iload_n 1, 1) := by decide +kernel
theorem dX3_beginsStep_3 : decode cX3_beginsStep 3 = .ok (.i2c, 1) := by decide +kernel
theorem dX3_beginsStep_4 : decode cX3_beginsStep 4 = .ok (.invokevirtual 82, 3) := by decide +kernel
theorem dX3_beginsStep_7 : decode cX3_beginsStep 7 = .ok (.istore_n 2, 1) := by decide +kernel
theorem dX3_beginsStep_8 : decode cX3_beginsStep 8 = .ok (.iload_n 2, 1) := by decide +kernel
theorem dX3_beginsStep_9 : decode cX3_beginsStep 9 = .ok (.ifCond .ge 5, 3) := by decide +kernel
theorem dX3_beginsStep_12 : decode cX3_beginsStep 12 = .ok (.iconst 0, 1) := by decide +kernel
theorem dX3_beginsStep_13 : decode cX3_beginsStep 13 = .ok (.ireturn, 1) := by decide +kernel
theorem dX3_beginsStep_14 : decode cX3_beginsStep 14 = .ok (.iload_n 2, 1) := by decide +kernel
theorem dX3_beginsStep_15 : decode cX3_beginsStep 15 = .ok (.iconst 4, 1) := by decide +kernel
theorem dX3_beginsStep_16 : decode cX3_beginsStep 16 = .ok (.if_icmp .ne 22, 3) := by decide +kernel
theorem dX3_beginsStep_19 : decode cX3_beginsStep 19 = .ok (.aload_n 0, 1) := by decide +kernel
theorem dX3_beginsStep_20 : decode cX3_beginsStep 20 = .ok (.getfield 12, 3) := by decide +kernel
theorem dX3_beginsStep_23 : decode cX3_beginsStep 23 = .ok (.invokevirtual 86, 3) := by decide +kernel
theorem dX3_beginsStep_26 : decode cX3_beginsStep 26 = .ok (.aload_n 0, 1) := by decide +kernel
theorem dX3_beginsStep_27 : decode cX3_beginsStep 27 = .ok (.getfield 12, 3) := by decide +kernel
theorem dX3_beginsStep_30 : decode cX3_beginsStep 30 = .ok (.getfield 18, 3) := by decide +kernel
theorem dX3_beginsStep_33 : decode cX3_beginsStep 33 = .ok (.if_icmp .lt 5, 3) := by decide +kernel
theorem dX3_beginsStep_36 : decode cX3_beginsStep 36 = .ok (.iconst 0, 1) := by decide +kernel
theorem dX3_beginsStep_37 : decode cX3_beginsStep 37 = .ok (.ireturn, 1) := by decide +kernel
theorem dX3_beginsStep_38 : decode cX3_beginsStep 38 = .ok (.aload_n 0, 1) := by decide +kernel
theorem dX3_beginsStep_39 : decode cX3_beginsStep 39 = .ok (.iload_n 2, 1) := by decide +kernel
theorem dX3_beginsStep_40 : decode cX3_beginsStep 40 = .ok (.putfield 22, 3) := by decide +kernel
theorem dX3_beginsStep_43 : decode cX3_beginsStep 43 = .ok (.aload_n 0, 1) := by decide +kernel
theorem dX3_beginsStep_44 : decode cX3_beginsStep 44 = .ok (.iconst 0, 1) := by decide +kernel
theorem dX3_beginsStep_45 : decode cX3_beginsStep 45 = .ok (.putfield 36, 3) := by decide +kernel
theorem dX3_beginsStep_48 : decode cX3_beginsStep 48 = .ok (.aload_n 0, 1) := by decide +kernel
theorem dX3_beginsStep_49 : decode cX3_beginsStep 49 = .ok (.iconst (-1), 1) := by decide +kernel
theorem dX3_beginsStep_50 : decode cX3_beginsStep 50 = .ok (.putfield 67, 3) := by decide +kernel
theorem dX3_beginsStep_53 : decode cX3_beginsStep 53 = .ok (.aload_n 0, 1) := by decide +kernel
theorem dX3_beginsStep_54 : decode cX3_beginsStep 54 = .ok (.iconst (-1), 1) := by decide +kernel
theorem dX3_beginsStep_55 : decode cX3_beginsStep 55 = .ok (.putfield 70, 3) := by decide +kernel
theorem dX3_beginsStep_58 : decode cX3_beginsStep 58 = .ok (.aload_n 0, 1) := by decide +kernel
theorem dX3_beginsStep_59 : decode cX3_beginsStep 59 = .ok (.iconst 0, 1) := by decide +kernel
theorem dX3_beginsStep_60 : decode cX3_beginsStep 60 = .ok (.putfield 73, 3) := by decide +kernel
theorem dX3_beginsStep_63 : decode cX3_beginsStep 63 = .ok (.aload_n 0, 1) := by decide +kernel
theorem dX3_beginsStep_64 : decode cX3_beginsStep 64 = .ok (.iconst 0, 1) := by decide +kernel
theorem dX3_beginsStep_65 : decode cX3_beginsStep 65 = .ok (.putfield 89, 3) := by decide +kernel
theorem dX3_beginsStep_68 : decode cX3_beginsStep 68 = .ok (.iconst 1, 1) := by decide +kernel
theorem dX3_beginsStep_69 : decode cX3_beginsStep 69 = .ok (.ireturn, 1) := by decide +kernel
theorem dX3_goesOn_0 : decode cX3_goesOn 0 = .ok (.iload_n 1, 1) := by decide +kernel
theorem dX3_goesOn_1 : decode cX3_goesOn 1 = .ok (.bipush 44, 2) := by decide +kernel
theorem dX3_goesOn_3 : decode cX3_goesOn 3 = .ok (.if_icmp .ne 15, 3) := by decide +kernel
theorem dX3_goesOn_6 : decode cX3_goesOn 6 = .ok (.aload_n 0, 1) := by decide +kernel
theorem dX3_goesOn_7 : decode cX3_goesOn 7 = .ok (.getfield 12, 3) := by decide +kernel
theorem dX3_goesOn_10 : decode cX3_goesOn 10 = .ok (.getfield 18, 3) := by decide +kernel
theorem dX3_goesOn_13 : decode cX3_goesOn 13 = .ok (.bipush 6, 2) := by decide +kernel
theorem dX3_goesOn_15 : decode cX3_goesOn 15 = .ok (.if_icmp .lt 5, 3) := by decide +kernel
theorem dX3_goesOn_18 : decode cX3_goesOn 18 = .ok (.iconst 0, 1) := by decide +kernel
theorem dX3_goesOn_19 : decode cX3_goesOn 19 = .ok (.ireturn, 1) := by decide +kernel
theorem dX3_goesOn_20 : decode cX3_goesOn 20 = .ok (.aload_n 0, 1) := by decide +kernel
theorem dX3_goesOn_21 : decode cX3_goesOn 21 = .ok (.iconst (-1), 1) := by decide +kernel
theorem dX3_goesOn_22 : decode cX3_goesOn 22 = .ok (.putfield 22, 3) := by decide +kernel
theorem dX3_goesOn_25 : decode cX3_goesOn 25 = .ok (.iconst 1, 1) := by decide +kernel
theorem dX3_goesOn_26 : decode cX3_goesOn 26 = .ok (.ireturn, 1) := by decide +kernel
theorem dX3_formOf_0 : decode cX3_formOf 0 = .ok (.iload_n 0, 1) := by decide +kernel
theorem dX3_formOf_1 : decode cX3_formOf 1 = .ok (.tableswitch 43 0 3 #[31, 34, 37, 40], 31) := by decide +kernel
theorem dX3_formOf_32 : decode cX3_formOf 32 = .ok (.ldc 93, 2) := by decide +kernel
theorem dX3_formOf_34 : decode cX3_formOf 34 = .ok (.areturn, 1) := by decide +kernel
theorem dX3_formOf_35 : decode cX3_formOf 35 = .ok (.ldc 95, 2) := by decide +kernel
theorem dX3_formOf_37 : decode cX3_formOf 37 = .ok (.areturn, 1) := by decide +kernel
theorem dX3_formOf_38 : decode cX3_formOf 38 = .ok (.ldc 97, 2) := by decide +kernel
theorem dX3_formOf_40 : decode cX3_formOf 40 = .ok (.areturn, 1) := by decide +kernel
theorem dX3_formOf_41 : decode cX3_formOf 41 = .ok (.ldc 99, 2) := by decide +kernel
theorem dX3_formOf_43 : decode cX3_formOf 43 = .ok (.areturn, 1) := by decide +kernel
theorem dX3_formOf_44 : decode cX3_formOf 44 = .ok (.ldc 101, 2) := by decide +kernel
theorem dX3_formOf_46 : decode cX3_formOf 46 = .ok (.areturn, 1) := by decide +kernel
theorem dX3_fits_0 : decode cX3_fits 0 = .ok (.iload_n 2, 1) := by decide +kernel
theorem dX3_fits_1 : decode cX3_fits 1 = .ok (.bipush 48, 2) := by decide +kernel
theorem dX3_fits_3 : decode cX3_fits 3 = .ok (.isub, 1) := by decide +kernel
theorem dX3_fits_4 : decode cX3_fits 4 = .ok (.istore_n 3, 1) := by decide +kernel
theorem dX3_fits_5 : decode cX3_fits 5 = .ok (.iload_n 1, 1) := by decide +kernel
theorem dX3_fits_6 : decode cX3_fits 6 = .ok (.lookupswitch 106 #[(100, 62), (107, 78), (110, 47), (120, 42)], 42) := by decide +kernel
theorem dX3_fits_48 : decode cX3_fits 48 = .ok (.iload_n 3, 1) := by decide +kernel
theorem dX3_fits_49 : decode cX3_fits 49 = .ok (.invokestatic 103, 3) := by decide +kernel
theorem dX3_fits_52 : decode cX3_fits 52 = .ok (.ireturn, 1) := by decide +kernel
theorem dX3_fits_53 : decode cX3_fits 53 = .ok (.iload_n 3, 1) := by decide +kernel
theorem dX3_fits_54 : decode cX3_fits 54 = .ok (.ifCond .lt 12, 3) := by decide +kernel
theorem dX3_fits_57 : decode cX3_fits 57 = .ok (.iload_n 3, 1) := by decide +kernel
theorem dX3_fits_58 : decode cX3_fits 58 = .ok (.iconst 3, 1) := by decide +kernel
theorem dX3_fits_59 : decode cX3_fits 59 = .ok (.if_icmp .ge 7, 3) := by decide +kernel
theorem dX3_fits_62 : decode cX3_fits 62 = .ok (.iconst 1, 1) := by decide +kernel
theorem dX3_fits_63 : decode cX3_fits 63 = .ok (.goto 4, 3) := by decide +kernel
theorem dX3_fits_66 : decode cX3_fits 66 = .ok (.iconst 0, 1) := by decide +kernel
theorem dX3_fits_67 : decode cX3_fits 67 = .ok (.ireturn, 1) := by decide +kernel
theorem dX3_fits_68 : decode cX3_fits 68 = .ok (.iload_n 3, 1) := by decide +kernel
theorem dX3_fits_69 : decode cX3_fits 69 = .ok (.ifCond .lt 13, 3) := by decide +kernel
theorem dX3_fits_72 : decode cX3_fits 72 = .ok (.iload_n 3, 1) := by decide +kernel
theorem dX3_fits_73 : decode cX3_fits 73 = .ok (.bipush 9, 2) := by decide +kernel
theorem dX3_fits_75 : decode cX3_fits 75 = .ok (.if_icmp .gt 7, 3) := by decide +kernel
theorem dX3_fits_78 : decode cX3_fits 78 = .ok (.iconst 1, 1) := by decide +kernel
theorem dX3_fits_79 : decode cX3_fits 79 = .ok (.goto 4, 3) := by decide +kernel
theorem dX3_fits_82 : decode cX3_fits 82 = .ok (.iconst 0, 1) := by decide +kernel
theorem dX3_fits_83 : decode cX3_fits 83 = .ok (.ireturn, 1) := by decide +kernel
theorem dX3_fits_84 : decode cX3_fits 84 = .ok (.iload_n 3, 1) := by decide +kernel
theorem dX3_fits_85 : decode cX3_fits 85 = .ok (.aload_n 0, 1) := by decide +kernel
theorem dX3_fits_86 : decode cX3_fits 86 = .ok (.getfield 12, 3) := by decide +kernel
theorem dX3_fits_89 : decode cX3_fits 89 = .ok (.invokevirtual 86, 3) := by decide +kernel
theorem dX3_fits_92 : decode cX3_fits 92 = .ok (.if_icmp .lt 18, 3) := by decide +kernel
theorem dX3_fits_95 : decode cX3_fits 95 = .ok (.iload_n 3, 1) := by decide +kernel
theorem dX3_fits_96 : decode cX3_fits 96 = .ok (.aload_n 0, 1) := by decide +kernel
theorem dX3_fits_97 : decode cX3_fits 97 = .ok (.getfield 12, 3) := by decide +kernel
theorem dX3_fits_100 : decode cX3_fits 100 = .ok (.getfield 18, 3) := by decide +kernel
theorem dX3_fits_103 : decode cX3_fits 103 = .ok (.if_icmp .ge 7, 3) := by decide +kernel
theorem dX3_fits_106 : decode cX3_fits 106 = .ok (.iconst 1, 1) := by decide +kernel
theorem dX3_fits_107 : decode cX3_fits 107 = .ok (.goto 4, 3) := by decide +kernel
theorem dX3_fits_110 : decode cX3_fits 110 = .ok (.iconst 0, 1) := by decide +kernel
theorem dX3_fits_111 : decode cX3_fits 111 = .ok (.ireturn, 1) := by decide +kernel
theorem dX3_fits_112 : decode cX3_fits 112 = .ok (.iload_n 2, 1) := by decide +kernel
theorem dX3_fits_113 : decode cX3_fits 113 = .ok (.bipush 43, 2) := by decide +kernel
theorem dX3_fits_115 : decode cX3_fits 115 = .ok (.if_icmp .eq 9, 3) := by decide +kernel
theorem dX3_fits_118 : decode cX3_fits 118 = .ok (.iload_n 2, 1) := by decide +kernel
theorem dX3_fits_119 : decode cX3_fits 119 = .ok (.bipush 45, 2) := by decide +kernel
theorem dX3_fits_121 : decode cX3_fits 121 = .ok (.if_icmp .ne 7, 3) := by decide +kernel
theorem dX3_fits_124 : decode cX3_fits 124 = .ok (.iconst 1, 1) := by decide +kernel
theorem dX3_fits_125 : decode cX3_fits 125 = .ok (.goto 4, 3) := by decide +kernel
theorem dX3_fits_128 : decode cX3_fits 128 = .ok (.iconst 0, 1) := by decide +kernel
theorem dX3_fits_129 : decode cX3_fits 129 = .ok (.ireturn, 1) := by decide +kernel
theorem dX3_keep_0 : decode cX3_keep 0 = .ok (.iload_n 2, 1) := by decide +kernel
theorem dX3_keep_1 : decode cX3_keep 1 = .ok (.bipush 48, 2) := by decide +kernel
theorem dX3_keep_3 : decode cX3_keep 3 = .ok (.isub, 1) := by decide +kernel
theorem dX3_keep_4 : decode cX3_keep 4 = .ok (.istore_n 3, 1) := by decide +kernel
theorem dX3_keep_5 : decode cX3_keep 5 = .ok (.iload_n 1, 1) := by decide +kernel
theorem dX3_keep_6 : decode cX3_keep 6 = .ok (.bipush 43, 2) := by decide +kernel
theorem dX3_keep_8 : decode cX3_keep 8 = .ok (.if_icmp .ne 21, 3) := by decide +kernel
theorem dX3_keep_11 : decode cX3_keep 11 = .ok (.aload_n 0, 1) := by decide +kernel
theorem dX3_keep_12 : decode cX3_keep 12 = .ok (.iload_n 2, 1) := by decide +kernel
theorem dX3_keep_13 : decode cX3_keep 13 = .ok (.bipush 45, 2) := by decide +kernel
theorem dX3_keep_15 : decode cX3_keep 15 = .ok (.if_icmp .ne 7, 3) := by decide +kernel
theorem dX3_keep_18 : decode cX3_keep 18 = .ok (.iconst 1, 1) := by decide +kernel
theorem dX3_keep_19 : decode cX3_keep 19 = .ok (.goto 4, 3) := by decide +kernel
theorem dX3_keep_22 : decode cX3_keep 22 = .ok (.iconst 0, 1) := by decide +kernel
theorem dX3_keep_23 : decode cX3_keep 23 = .ok (.putfield 89, 3) := by decide +kernel
theorem dX3_keep_26 : decode cX3_keep 26 = .ok (.goto 49, 3) := by decide +kernel
theorem dX3_keep_29 : decode cX3_keep 29 = .ok (.iload_n 1, 1) := by decide +kernel
theorem dX3_keep_30 : decode cX3_keep 30 = .ok (.bipush 100, 2) := by decide +kernel
theorem dX3_keep_32 : decode cX3_keep 32 = .ok (.if_icmp .ne 23, 3) := by decide +kernel
theorem dX3_keep_35 : decode cX3_keep 35 = .ok (.aload_n 0, 1) := by decide +kernel
theorem dX3_keep_36 : decode cX3_keep 36 = .ok (.aload_n 0, 1) := by decide +kernel
theorem dX3_keep_37 : decode cX3_keep 37 = .ok (.getfield 89, 3) := by decide +kernel
theorem dX3_keep_40 : decode cX3_keep 40 = .ok (.ifCond .eq 8, 3) := by decide +kernel
theorem dX3_keep_43 : decode cX3_keep 43 = .ok (.iload_n 3, 1) := by decide +kernel
theorem dX3_keep_44 : decode cX3_keep 44 = .ok (.ineg, 1) := by decide +kernel
theorem dX3_keep_45 : decode cX3_keep 45 = .ok (.goto 4, 3) := by decide +kernel
theorem dX3_keep_48 : decode cX3_keep 48 = .ok (.iload_n 3, 1) := by decide +kernel
theorem dX3_keep_49 : decode cX3_keep 49 = .ok (.putfield 73, 3) := by decide +kernel
theorem dX3_keep_52 : decode cX3_keep 52 = .ok (.goto 23, 3) := by decide +kernel
theorem dX3_keep_55 : decode cX3_keep 55 = .ok (.aload_n 0, 1) := by decide +kernel
theorem dX3_keep_56 : decode cX3_keep 56 = .ok (.getfield 36, 3) := by decide +kernel
theorem dX3_keep_59 : decode cX3_keep 59 = .ok (.ifCond .ne 11, 3) := by decide +kernel
theorem dX3_keep_62 : decode cX3_keep 62 = .ok (.aload_n 0, 1) := by decide +kernel
theorem dX3_keep_63 : decode cX3_keep 63 = .ok (.iload_n 3, 1) := by decide +kernel
theorem dX3_keep_64 : decode cX3_keep 64 = .ok (.putfield 67, 3) := by decide +kernel
theorem dX3_keep_67 : decode cX3_keep 67 = .ok (.goto 8, 3) := by decide +kernel
theorem dX3_keep_70 : decode cX3_keep 70 = .ok (.aload_n 0, 1) := by decide +kernel
theorem dX3_keep_71 : decode cX3_keep 71 = .ok (.iload_n 3, 1) := by decide +kernel
theorem dX3_keep_72 : decode cX3_keep 72 = .ok (.putfield 70, 3) := by decide +kernel
theorem dX3_keep_75 : decode cX3_keep 75 = .ok (.return_, 1) := by decide +kernel
theorem dX4_init_0 : decode cX4_init 0 = .ok (.aload_n 0, 1) := by decide +kernel
theorem dX4_init_1 : decode cX4_init 1 = .ok (.invokespecial 3, 3) := by decide +kernel
theorem dX4_init_4 : decode cX4_init 4 = .ok (.aload_n 0, 1) := by decide +kernel
theorem dX4_init_5 : decode cX4_init 5 = .ok (.bipush 7, 2) := by decide +kernel
theorem dX4_init_7 : decode cX4_init 7 = .ok (.anewarray 9, 3) := by decide +kernel
theorem dX4_init_10 : decode cX4_init 10 = .ok (.putfield 11, 3) := by decide +kernel
theorem dX4_init_13 : decode cX4_init 13 = .ok (.aload_n 0, 1) := by decide +kernel
theorem dX4_init_14 : decode cX4_init 14 = .ok (.bipush 7, 2) := by decide +kernel
theorem dX4_init_16 : decode cX4_init 16 = .ok (.newarray .int, 2) := by decide +kernel
theorem dX4_init_18 : decode cX4_init 18 = .ok (.putfield 17, 3) := by decide +kernel
theorem dX4_init_21 : decode cX4_init 21 = .ok (.aload_n 0, 1) := by decide +kernel
theorem dX4_init_22 : decode cX4_init 22 = .ok (.new 9, 3) := by decide +kernel
theorem dX4_init_25 : decode cX4_init 25 = .ok (.dup, 1) := by decide +kernel
theorem dX4_init_26 : decode cX4_init 26 = .ok (.invokespecial 21, 3) := by decide +kernel
theorem dX4_init_29 : decode cX4_init 29 = .ok (.putfield 22, 3) := by decide +kernel
theorem dX4_init_32 : decode cX4_init 32 = .ok (.aload_n 0, 1) := by decide +kernel
theorem dX4_init_33 : decode cX4_init 33 = .ok (.new 9, 3) := by decide +kernel
theorem dX4_init_36 : decode cX4_init 36 = .ok (.dup, 1) := by decide +kernel
theorem dX4_init_37 : decode cX4_init 37 = .ok (.invokespecial 21, 3) := by decide +kernel
theorem dX4_init_40 : decode cX4_init 40 = .ok (.putfield 26, 3) := by decide +kernel
theorem dX4_init_43 : decode cX4_init 43 = .ok (.aload_n 0, 1) := by decide +kernel
theorem dX4_init_44 : decode cX4_init 44 = .ok (.new 9, 3) := by decide +kernel
theorem dX4_init_47 : decode cX4_init 47 = .ok (.dup, 1) := by decide +kernel
theorem dX4_init_48 : decode cX4_init 48 = .ok (.invokespecial 21, 3) := by decide +kernel
theorem dX4_init_51 : decode cX4_init 51 = .ok (.putfield 29, 3) := by decide +kernel
theorem dX4_init_54 : decode cX4_init 54 = .ok (.iconst 0, 1) := by decide +kernel
theorem dX4_init_55 : decode cX4_init 55 = .ok (.istore_n 1, 1) := by decide +kernel
theorem dX4_init_56 : decode cX4_init 56 = .ok (.iload_n 1, 1) := by decide +kernel
theorem dX4_init_57 : decode cX4_init 57 = .ok (.bipush 6, 2) := by decide +kernel
theorem dX4_init_59 : decode cX4_init 59 = .ok (.if_icmp .gt 22, 3) := by decide +kernel
theorem dX4_init_62 : decode cX4_init 62 = .ok (.aload_n 0, 1) := by decide +kernel
theorem dX4_init_63 : decode cX4_init 63 = .ok (.getfield 11, 3) := by decide +kernel
theorem dX4_init_66 : decode cX4_init 66 = .ok (.iload_n 1, 1) := by decide +kernel
theorem dX4_init_67 : decode cX4_init 67 = .ok (.new 9, 3) := by decide +kernel
theorem dX4_init_70 : decode cX4_init 70 = .ok (.dup, 1) := by decide +kernel
theorem dX4_init_71 : decode cX4_init 71 = .ok (.invokespecial 21, 3) := by decide +kernel
theorem dX4_init_74 : decode cX4_init 74 = .ok (.aastore, 1) := by decide +kernel
theorem dX4_init_75 : decode cX4_init 75 = .ok (.iinc 1 1, 3) := by decide +kernel
theorem dX4_init_78 : decode cX4_init 78 = .ok (.goto (-22), 3) := by decide +kernel
theorem dX4_init_81 : decode cX4_init 81 = .ok (.return_, 1) := by decide +kernel
theorem dX4_begin_0 : decode cX4_begin 0 = .ok (.aload_n 0, 1) := by decide +kernel
theorem dX4_begin_1 : decode cX4_begin 1 = .ok (.iconst 0, 1) := by decide +kernel
theorem dX4_begin_2 : decode cX4_begin 2 = .ok (.putfield 32, 3) := by decide +kernel
theorem dX4_begin_5 : decode cX4_begin 5 = .ok (.aload_n 0, 1) := by decide +kernel
theorem dX4_begin_6 : decode cX4_begin 6 = .ok (.getfield 17, 3) := by decide +kernel
theorem dX4_begin_9 : decode cX4_begin 9 = .ok (.iconst (-1), 1) := by decide +kernel
theorem dX4_begin_10 : decode cX4_begin 10 = .ok (.invokestatic 36, 3) := by decide +kernel
theorem dX4_begin_13 : decode cX4_begin 13 = .ok (.aload_n 0, 1) := by decide +kernel
theorem dX4_begin_14 : decode cX4_begin 14 = .ok (.getfield 11, 3) := by decide +kernel
theorem dX4_begin_17 : decode cX4_begin 17 = .ok (.iconst 0, 1) := by decide +kernel
theorem dX4_begin_18 : decode cX4_begin 18 = .ok (.aaload, 1) := by decide +kernel
theorem dX4_begin_19 : decode cX4_begin 19 = .ok (.invokevirtual 42, 3) := by decide +kernel
theorem dX4_begin_22 : decode cX4_begin 22 = .ok (.return_, 1) := by decide +kernel
theorem dX4_doStep_0 : decode cX4_doStep 0 = .ok (.aload_n 0, 1) := by decide +kernel
theorem dX4_doStep_1 : decode cX4_doStep 1 = .ok (.getfield 11, 3) := by decide +kernel
theorem dX4_doStep_4 : decode cX4_doStep 4 = .ok (.iload_n 2, 1) := by decide +kernel
theorem dX4_doStep_5 : decode cX4_doStep 5 = .ok (.iconst 1, 1) := by decide +kernel
theorem dX4_doStep_6 : decode cX4_doStep 6 = .ok (.iadd, 1) := by decide +kernel
theorem dX4_doStep_7 : decode cX4_doStep 7 = .ok (.aaload, 1) := by decide +kernel
theorem dX4_doStep_8 : decode cX4_doStep 8 = .ok (.astore_n 3, 1) := by decide +kernel
theorem dX4_doStep_9 : decode cX4_doStep 9 = .ok (.aload_n 3, 1) := by decide +kernel
theorem dX4_doStep_10 : decode cX4_doStep 10 = .ok (.aload_n 0, 1) := by decide +kernel
theorem dX4_doStep_11 : decode cX4_doStep 11 = .ok (.getfield 11, 3) := by decide +kernel
theorem dX4_doStep_14 : decode cX4_doStep 14 = .ok (.iload_n 2, 1) := by decide +kernel
theorem dX4_doStep_15 : decode cX4_doStep 15 = .ok (.aaload, 1) := by decide +kernel
theorem dX4_doStep_16 : decode cX4_doStep 16 = .ok (.invokevirtual 44, 3) := by decide +kernel
theorem dX4_doStep_19 : decode cX4_doStep 19 = .ok (.aload_n 3, 1) := by decide +kernel
theorem dX4_doStep_20 : decode cX4_doStep 20 = .ok (.getfield 48, 3) := by decide +kernel
theorem dX4_doStep_23 : decode cX4_doStep 23 = .ok (.ifCond .eq 4, 3) := by decide +kernel
theorem dX4_doStep_26 : decode cX4_doStep 26 = .ok (.return_, 1) := by decide +kernel
theorem dX4_doStep_27 : decode cX4_doStep 27 = .ok (.aload_n 1, 1) := by decide +kernel
theorem dX4_doStep_28 : decode cX4_doStep 28 = .ok (.getfield 52, 3) := by decide +kernel
theorem dX4_doStep_31 : decode cX4_doStep 31 = .ok (.iload_n 2, 1) := by decide +kernel
theorem dX4_doStep_32 : decode cX4_doStep 32 = .ok (.iaload, 1) := by decide +kernel
theorem dX4_doStep_33 : decode cX4_doStep 33 = .ok (.istore 4, 2) := by decide +kernel
theorem dX4_doStep_35 : decode cX4_doStep 35 = .ok (.aload_n 1, 1) := by decide +kernel
theorem dX4_doStep_36 : decode cX4_doStep 36 = .ok (.getfield 57, 3) := by decide +kernel
theorem dX4_doStep_39 : decode cX4_doStep 39 = .ok (.iload_n 2, 1) := by decide +kernel
theorem dX4_doStep_40 : decode cX4_doStep 40 = .ok (.iaload, 1) := by decide +kernel
theorem dX4_doStep_41 : decode cX4_doStep 41 = .ok (.tableswitch 101 0 3 #[31, 52, 73, 82], 31) := by decide +kernel
theorem dX4_doStep_72 : decode cX4_doStep 72 = .ok (.aload_n 3, 1) := by decide +kernel
theorem dX4_doStep_73 : decode cX4_doStep 73 = .ok (.iload 4, 2) := by decide +kernel
theorem dX4_doStep_75 : decode cX4_doStep 75 = .ok (.aload_n 1, 1) := by decide +kernel
theorem dX4_doStep_76 : decode cX4_doStep 76 = .ok (.getfield 60, 3) := by decide +kernel
theorem dX4_doStep_79 : decode cX4_doStep 79 = .ok (.iload_n 2, 1) := by decide +kernel
theorem dX4_doStep_80 : decode cX4_doStep 80 = .ok (.iaload, 1) := by decide +kernel
theorem dX4_doStep_81 : decode cX4_doStep 81 = .ok (.aload_n 1, 1) := by decide +kernel
theorem dX4_doStep_82 : decode cX4_doStep 82 = .ok (.getfield 63, 3) := by decide +kernel
theorem dX4_doStep_85 : decode cX4_doStep 85 = .ok (.iload_n 2, 1) := by decide +kernel
theorem dX4_doStep_86 : decode cX4_doStep 86 = .ok (.iaload, 1) := by decide +kernel
theorem dX4_doStep_87 : decode cX4_doStep 87 = .ok (.invokevirtual 66, 3) := by decide +kernel
theorem dX4_doStep_90 : decode cX4_doStep 90 = .ok (.goto 52, 3) := by decide +kernel
theorem dX4_doStep_93 : decode cX4_doStep 93 = .ok (.aload_n 3, 1) := by decide +kernel
theorem dX4_doStep_94 : decode cX4_doStep 94 = .ok (.iload 4, 2) := by decide +kernel
theorem dX4_doStep_96 : decode cX4_doStep 96 = .ok (.aload_n 1, 1) := by decide +kernel
theorem dX4_doStep_97 : decode cX4_doStep 97 = .ok (.getfield 60, 3) := by decide +kernel
theorem dX4_doStep_100 : decode cX4_doStep 100 = .ok (.iload_n 2, 1) := by decide +kernel
theorem dX4_doStep_101 : decode cX4_doStep 101 = .ok (.iaload, 1) := by decide +kernel
theorem dX4_doStep_102 : decode cX4_doStep 102 = .ok (.aload_n 1, 1) := by decide +kernel
theorem dX4_doStep_103 : decode cX4_doStep 103 = .ok (.getfield 63, 3) := by decide +kernel
theorem dX4_doStep_106 : decode cX4_doStep 106 = .ok (.iload_n 2, 1) := by decide +kernel
theorem dX4_doStep_107 : decode cX4_doStep 107 = .ok (.iaload, 1) := by decide +kernel
theorem dX4_doStep_108 : decode cX4_doStep 108 = .ok (.invokevirtual 70, 3) := by decide +kernel
theorem dX4_doStep_111 : decode cX4_doStep 111 = .ok (.goto 31, 3) := by decide +kernel
theorem dX4_doStep_114 : decode cX4_doStep 114 = .ok (.aload_n 3, 1) := by decide +kernel
theorem dX4_doStep_115 : decode cX4_doStep 115 = .ok (.iload 4, 2) := by decide +kernel
theorem dX4_doStep_117 : decode cX4_doStep 117 = .ok (.invokevirtual 73, 3) := by decide +kernel
theorem dX4_doStep_120 : decode cX4_doStep 120 = .ok (.goto 22, 3) := by decide +kernel
theorem dX4_doStep_123 : decode cX4_doStep 123 = .ok (.aload_n 3, 1) := by decide +kernel
theorem dX4_doStep_124 : decode cX4_doStep 124 = .ok (.iload 4, 2) := by decide +kernel
theorem dX4_doStep_126 : decode cX4_doStep 126 = .ok (.iconst 2, 1) := by decide +kernel
theorem dX4_doStep_127 : decode cX4_doStep 127 = .ok (.iload 4, 2) := by decide +kernel
theorem dX4_doStep_129 : decode cX4_doStep 129 = .ok (.imul, 1) := by decide +kernel
theorem dX4_doStep_130 : decode cX4_doStep 130 = .ok (.aload_n 1, 1) := by decide +kernel
theorem dX4_doStep_131 : decode cX4_doStep 131 = .ok (.getfield 63, 3) := by decide +kernel
theorem dX4_doStep_134 : decode cX4_doStep 134 = .ok (.iload_n 2, 1) := by decide +kernel
theorem dX4_doStep_135 : decode cX4_doStep 135 = .ok (.iaload, 1) := by decide +kernel
theorem dX4_doStep_136 : decode cX4_doStep 136 = .ok (.invokevirtual 70, 3) := by decide +kernel
theorem dX4_doStep_139 : decode cX4_doStep 139 = .ok (.goto 3, 3) := by decide +kernel
theorem dX4_doStep_142 : decode cX4_doStep 142 = .ok (.aload_n 3, 1) := by decide +kernel
theorem dX4_doStep_143 : decode cX4_doStep 143 = .ok (.invokevirtual 77, 3) := by decide +kernel
theorem dX4_doStep_146 : decode cX4_doStep 146 = .ok (.return_, 1) := by decide +kernel
theorem dX4_goRound_0 : decode cX4_goRound 0 = .ok (.aload_n 0, 1) := by decide +kernel
theorem dX4_goRound_1 : decode cX4_goRound 1 = .ok (.getfield 11, 3) := by decide +kernel
theorem dX4_goRound_4 : decode cX4_goRound 4 = .ok (.iload_n 2, 1) := by decide +kernel
theorem dX4_goRound_5 : decode cX4_goRound 5 = .ok (.aaload, 1) := by decide +kernel
theorem dX4_goRound_6 : decode cX4_goRound 6 = .ok (.astore 4, 2) := by decide +kernel
theorem dX4_goRound_8 : decode cX4_goRound 8 = .ok (.aload_n 0, 1) := by decide +kernel
theorem dX4_goRound_9 : decode cX4_goRound 9 = .ok (.getfield 11, 3) := by decide +kernel
theorem dX4_goRound_12 : decode cX4_goRound 12 = .ok (.iload_n 3, 1) := by decide +kernel
theorem dX4_goRound_13 : decode cX4_goRound 13 = .ok (.aaload, 1) := by decide +kernel
theorem dX4_goRound_14 : decode cX4_goRound 14 = .ok (.astore 5, 2) := by decide +kernel
theorem dX4_goRound_16 : decode cX4_goRound 16 = .ok (.aload_n 0, 1) := by decide +kernel
theorem dX4_goRound_17 : decode cX4_goRound 17 = .ok (.getfield 22, 3) := by decide +kernel
theorem dX4_goRound_20 : decode cX4_goRound 20 = .ok (.aload 4, 2) := by decide +kernel
theorem dX4_goRound_22 : decode cX4_goRound 22 = .ok (.invokevirtual 44, 3) := by decide +kernel
theorem dX4_goRound_25 : decode cX4_goRound 25 = .ok (.aload_n 0, 1) := by decide +kernel
theorem dX4_goRound_26 : decode cX4_goRound 26 = .ok (.getfield 29, 3) := by decide +kernel
theorem dX4_goRound_29 : decode cX4_goRound 29 = .ok (.aload 4, 2) := by decide +kernel
theorem dX4_goRound_31 : decode cX4_goRound 31 = .ok (.invokevirtual 44, 3) := by decide +kernel
theorem dX4_goRound_34 : decode cX4_goRound 34 = .ok (.iconst 0, 1) := by decide +kernel
theorem dX4_goRound_35 : decode cX4_goRound 35 = .ok (.istore 6, 2) := by decide +kernel
theorem dX4_goRound_37 : decode cX4_goRound 37 = .ok (.iload 6, 2) := by decide +kernel
theorem dX4_goRound_39 : decode cX4_goRound 39 = .ok (.sipush 1000, 3) := by decide +kernel
theorem dX4_goRound_42 : decode cX4_goRound 42 = .ok (.if_icmp .ge 99, 3) := by decide +kernel
theorem dX4_goRound_45 : decode cX4_goRound 45 = .ok (.iload_n 2, 1) := by decide +kernel
theorem dX4_goRound_46 : decode cX4_goRound 46 = .ok (.istore 7, 2) := by decide +kernel
theorem dX4_goRound_48 : decode cX4_goRound 48 = .ok (.iload 7, 2) := by decide +kernel
theorem dX4_goRound_50 : decode cX4_goRound 50 = .ok (.iload_n 3, 1) := by decide +kernel
theorem dX4_goRound_51 : decode cX4_goRound 51 = .ok (.if_icmp .ge 16, 3) := by decide +kernel
theorem dX4_goRound_54 : decode cX4_goRound 54 = .ok (.aload_n 0, 1) := by decide +kernel
theorem dX4_goRound_55 : decode cX4_goRound 55 = .ok (.aload_n 1, 1) := by decide +kernel
theorem dX4_goRound_56 : decode cX4_goRound 56 = .ok (.iload 7, 2) := by decide +kernel
theorem dX4_goRound_58 : decode cX4_goRound 58 = .ok (.invokevirtual 80, 3) := by decide +kernel
theorem dX4_goRound_61 : decode cX4_goRound 61 = .ok (.iinc 7 1, 3) := by decide +kernel
theorem dX4_goRound_64 : decode cX4_goRound 64 = .ok (.goto (-16), 3) := by decide +kernel
theorem dX4_goRound_67 : decode cX4_goRound 67 = .ok (.aload_n 0, 1) := by decide +kernel
theorem dX4_goRound_68 : decode cX4_goRound 68 = .ok (.getfield 26, 3) := by decide +kernel
theorem dX4_goRound_71 : decode cX4_goRound 71 = .ok (.aload 4, 2) := by decide +kernel
theorem dX4_goRound_73 : decode cX4_goRound 73 = .ok (.invokevirtual 44, 3) := by decide +kernel
theorem dX4_goRound_76 : decode cX4_goRound 76 = .ok (.aload_n 0, 1) := by decide +kernel
theorem dX4_goRound_77 : decode cX4_goRound 77 = .ok (.getfield 26, 3) := by decide +kernel
theorem dX4_goRound_80 : decode cX4_goRound 80 = .ok (.aload 5, 2) := by decide +kernel
theorem dX4_goRound_82 : decode cX4_goRound 82 = .ok (.invokevirtual 84, 3) := by decide +kernel
theorem dX4_goRound_85 : decode cX4_goRound 85 = .ok (.aload_n 0, 1) := by decide +kernel
theorem dX4_goRound_86 : decode cX4_goRound 86 = .ok (.getfield 26, 3) := by decide +kernel
theorem dX4_goRound_89 : decode cX4_goRound 89 = .ok (.aload 4, 2) := by decide +kernel
theorem dX4_goRound_91 : decode cX4_goRound 91 = .ok (.invokevirtual 87, 3) := by decide +kernel
theorem dX4_goRound_94 : decode cX4_goRound 94 = .ok (.ifCond .eq 6, 3) := by decide +kernel
theorem dX4_goRound_97 : decode cX4_goRound 97 = .ok (.goto 44, 3) := by decide +kernel
theorem dX4_goRound_100 : decode cX4_goRound 100 = .ok (.aload_n 0, 1) := by decide +kernel
theorem dX4_goRound_101 : decode cX4_goRound 101 = .ok (.dup, 1) := by decide +kernel
theorem dX4_goRound_102 : decode cX4_goRound 102 = .ok (.getfield 32, 3) := by decide +kernel
theorem dX4_goRound_105 : decode cX4_goRound 105 = .ok (.iconst 1, 1) := by decide +kernel
theorem dX4_goRound_106 : decode cX4_goRound 106 = .ok (.iadd, 1) := by decide +kernel
theorem dX4_goRound_107 : decode cX4_goRound 107 = .ok (.putfield 32, 3) := by decide +kernel
theorem dX4_goRound_110 : decode cX4_goRound 110 = .ok (.aload_n 0, 1) := by decide +kernel
theorem dX4_goRound_111 : decode cX4_goRound 111 = .ok (.getfield 29, 3) := by decide +kernel
theorem dX4_goRound_114 : decode cX4_goRound 114 = .ok (.aload_n 0, 1) := by decide +kernel
theorem dX4_goRound_115 : decode cX4_goRound 115 = .ok (.getfield 26, 3) := by decide +kernel
theorem dX4_goRound_118 : decode cX4_goRound 118 = .ok (.invokevirtual 91, 3) := by decide +kernel
theorem dX4_goRound_121 : decode cX4_goRound 121 = .ok (.aload 4, 2) := by decide +kernel
theorem dX4_goRound_123 : decode cX4_goRound 123 = .ok (.aload_n 0, 1) := by decide +kernel
theorem dX4_goRound_124 : decode cX4_goRound 124 = .ok (.getfield 29, 3) := by decide +kernel
theorem dX4_goRound_127 : decode cX4_goRound 127 = .ok (.invokevirtual 44, 3) := by decide +kernel
theorem dX4_goRound_130 : decode cX4_goRound 130 = .ok (.aload 4, 2) := by decide +kernel
theorem dX4_goRound_132 : decode cX4_goRound 132 = .ok (.invokevirtual 77, 3) := by decide +kernel
theorem dX4_goRound_135 : decode cX4_goRound 135 = .ok (.iinc 6 1, 3) := by decide +kernel
theorem dX4_goRound_138 : decode cX4_goRound 138 = .ok (.goto (-101), 3) := by decide +kernel
theorem dX4_goRound_141 : decode cX4_goRound 141 = .ok (.aload 4, 2) := by decide +kernel
theorem dX4_goRound_143 : decode cX4_goRound 143 = .ok (.aload_n 0, 1) := by decide +kernel
theorem dX4_goRound_144 : decode cX4_goRound 144 = .ok (.getfield 22, 3) := by decide +kernel
theorem dX4_goRound_147 : decode cX4_goRound 147 = .ok (.invokevirtual 44, 3) := by decide +kernel
theorem dX4_goRound_150 : decode cX4_goRound 150 = .ok (.aload 4, 2) := by decide +kernel
theorem dX4_goRound_152 : decode cX4_goRound 152 = .ok (.aload 5, 2) := by decide +kernel
theorem dX4_goRound_154 : decode cX4_goRound 154 = .ok (.invokevirtual 84, 3) := by decide +kernel
theorem dX4_goRound_157 : decode cX4_goRound 157 = .ok (.iload_n 2, 1) := by decide +kernel
theorem dX4_goRound_158 : decode cX4_goRound 158 = .ok (.istore 6, 2) := by decide +kernel
theorem dX4_goRound_160 : decode cX4_goRound 160 = .ok (.iload 6, 2) := by decide +kernel
theorem dX4_goRound_162 : decode cX4_goRound 162 = .ok (.iload_n 3, 1) := by decide +kernel
theorem dX4_goRound_163 : decode cX4_goRound 163 = .ok (.if_icmp .ge 16, 3) := by decide +kernel
theorem dX4_goRound_166 : decode cX4_goRound 166 = .ok (.aload_n 0, 1) := by decide +kernel
theorem dX4_goRound_167 : decode cX4_goRound 167 = .ok (.aload_n 1, 1) := by decide +kernel
theorem dX4_goRound_168 : decode cX4_goRound 168 = .ok (.iload 6, 2) := by decide +kernel
theorem dX4_goRound_170 : decode cX4_goRound 170 = .ok (.invokevirtual 80, 3) := by decide +kernel
theorem dX4_goRound_173 : decode cX4_goRound 173 = .ok (.iinc 6 1, 3) := by decide +kernel
theorem dX4_goRound_176 : decode cX4_goRound 176 = .ok (.goto (-16), 3) := by decide +kernel
theorem dX4_goRound_179 : decode cX4_goRound 179 = .ok (.aload_n 0, 1) := by decide +kernel
theorem dX4_goRound_180 : decode cX4_goRound 180 = .ok (.getfield 11, 3) := by decide +kernel
theorem dX4_goRound_183 : decode cX4_goRound 183 = .ok (.iload_n 3, 1) := by decide +kernel
theorem dX4_goRound_184 : decode cX4_goRound 184 = .ok (.iconst 1, 1) := by decide +kernel
theorem dX4_goRound_185 : decode cX4_goRound 185 = .ok (.iadd, 1) := by decide +kernel
theorem dX4_goRound_186 : decode cX4_goRound 186 = .ok (.aaload, 1) := by decide +kernel
theorem dX4_goRound_187 : decode cX4_goRound 187 = .ok (.aload 4, 2) := by decide +kernel
theorem dX4_goRound_189 : decode cX4_goRound 189 = .ok (.invokevirtual 44, 3) := by decide +kernel
theorem dX4_goRound_192 : decode cX4_goRound 192 = .ok (.return_, 1) := by decide +kernel
theorem dX4_pointsAhead_0 : decode cX4_pointsAhead 0 = .ok (.aload_n 0, 1) := by decide +kernel
theorem dX4_pointsAhead_1 : decode cX4_pointsAhead 1 = .ok (.getfield 17, 3) := by decide +kernel
theorem dX4_pointsAhead_4 : decode cX4_pointsAhead 4 = .ok (.iload_n 1, 1) := by decide +kernel
theorem dX4_pointsAhead_5 : decode cX4_pointsAhead 5 = .ok (.iaload, 1) := by decide +kernel
theorem dX4_pointsAhead_6 : decode cX4_pointsAhead 6 = .ok (.iconst (-1), 1) := by decide +kernel
theorem dX4_pointsAhead_7 : decode cX4_pointsAhead 7 = .ok (.if_icmp .ne 18, 3) := by decide +kernel
theorem dX4_pointsAhead_10 : decode cX4_pointsAhead 10 = .ok (.aload_n 0, 1) := by decide +kernel
theorem dX4_pointsAhead_11 : decode cX4_pointsAhead 11 = .ok (.getfield 17, 3) := by decide +kernel
theorem dX4_pointsAhead_14 : decode cX4_pointsAhead 14 = .ok (.iload_n 1, 1) := by decide +kernel
theorem dX4_pointsAhead_15 : decode cX4_pointsAhead 15 = .ok (.aload_n 0, 1) := by decide +kernel
theorem dX4_pointsAhead_16 : decode cX4_pointsAhead 16 = .ok (.getfield 11, 3) := by decide +kernel
theorem dX4_pointsAhead_19 : decode cX4_pointsAhead 19 = .ok (.iload_n 1, 1) := by decide +kernel
theorem dX4_pointsAhead_20 : decode cX4_pointsAhead 20 = .ok (.aaload, 1) := by decide +kernel
theorem dX4_pointsAhead_21 : decode cX4_pointsAhead 21 = .ok (.invokevirtual 94, 3) := by decide +kernel
theorem dX4_pointsAhead_24 : decode cX4_pointsAhead 24 = .ok (.iastore, 1) := by decide +kernel
theorem dX4_pointsAhead_25 : decode cX4_pointsAhead 25 = .ok (.aload_n 0, 1) := by decide +kernel
theorem dX4_pointsAhead_26 : decode cX4_pointsAhead 26 = .ok (.getfield 17, 3) := by decide +kernel
theorem dX4_pointsAhead_29 : decode cX4_pointsAhead 29 = .ok (.iload_n 1, 1) := by decide +kernel
theorem dX4_pointsAhead_30 : decode cX4_pointsAhead 30 = .ok (.iaload, 1) := by decide +kernel
theorem dX4_pointsAhead_31 : decode cX4_pointsAhead 31 = .ok (.ireturn, 1) := by decide +kernel
theorem dX4_isDead_0 : decode cX4_isDead 0 = .ok (.aload_n 0, 1) := by decide +kernel
theorem dX4_isDead_1 : decode cX4_isDead 1 = .ok (.getfield 11, 3) := by decide +kernel
theorem dX4_isDead_4 : decode cX4_isDead 4 = .ok (.iload_n 1, 1) := by decide +kernel
theorem dX4_isDead_5 : decode cX4_isDead 5 = .ok (.aaload, 1) := by decide +kernel
theorem dX4_isDead_6 : decode cX4_isDead 6 = .ok (.getfield 48, 3) := by decide +kernel
theorem dX4_isDead_9 : decode cX4_isDead 9 = .ok (.ireturn, 1) := by decide +kernel
theorem dX4_kills_0 : decode cX4_kills 0 = .ok (.aload_n 0, 1) := by decide +kernel
theorem dX4_kills_1 : decode cX4_kills 1 = .ok (.getfield 11, 3) := by decide +kernel
theorem dX4_kills_4 : decode cX4_kills 4 = .ok (.iload_n 1, 1) := by decide +kernel
theorem dX4_kills_5 : decode cX4_kills 5 = .ok (.aaload, 1) := by decide +kernel
theorem dX4_kills_6 : decode cX4_kills 6 = .ok (.getfield 48, 3) := by decide +kernel
theorem dX4_kills_9 : decode cX4_kills 9 = .ok (.ifCond .ne 21, 3) := by decide +kernel
theorem dX4_kills_12 : decode cX4_kills 12 = .ok (.aload_n 0, 1) := by decide +kernel
theorem dX4_kills_13 : decode cX4_kills 13 = .ok (.getfield 11, 3) := by decide +kernel
theorem dX4_kills_16 : decode cX4_kills 16 = .ok (.iload_n 1, 1) := by decide +kernel
theorem dX4_kills_17 : decode cX4_kills 17 = .ok (.iconst 1, 1) := by decide +kernel
theorem dX4_kills_18 : decode cX4_kills 18 = .ok (.iadd, 1) := by decide +kernel
theorem dX4_kills_19 : decode cX4_kills 19 = .ok (.aaload, 1) := by decide +kernel
theorem dX4_kills_20 : decode cX4_kills 20 = .ok (.getfield 48, 3) := by decide +kernel
theorem dX4_kills_23 : decode cX4_kills 23 = .ok (.ifCond .eq 7, 3) := by decide +kernel
theorem dX4_kills_26 : decode cX4_kills 26 = .ok (.iconst 1, 1) := by decide +kernel
theorem dX4_kills_27 : decode cX4_kills 27 = .ok (.goto 4, 3) := by decide +kernel
theorem dX4_kills_30 : decode cX4_kills 30 = .ok (.iconst 0, 1) := by decide +kernel
theorem dX4_kills_31 : decode cX4_kills 31 = .ok (.ireturn, 1) := by decide +kernel
theorem dX4_changesNothing_0 : decode cX4_changesNothing 0 = .ok (.aload_n 0, 1) := by decide +kernel
theorem dX4_changesNothing_1 : decode cX4_changesNothing 1 = .ok (.getfield 11, 3) := by decide +kernel
theorem dX4_changesNothing_4 : decode cX4_changesNothing 4 = .ok (.iload_n 1, 1) := by decide +kernel
theorem dX4_changesNothing_5 : decode cX4_changesNothing 5 = .ok (.aaload, 1) := by decide +kernel
theorem dX4_changesNothing_6 : decode cX4_changesNothing 6 = .ok (.astore_n 2, 1) := by decide +kernel
theorem dX4_changesNothing_7 : decode cX4_changesNothing 7 = .ok (.aload_n 0, 1) := by decide +kernel
theorem dX4_changesNothing_8 : decode cX4_changesNothing 8 = .ok (.getfield 11, 3) := by decide +kernel
theorem dX4_changesNothing_11 : decode cX4_changesNothing 11 = .ok (.iload_n 1, 1) := by decide +kernel
theorem dX4_changesNothing_12 : decode cX4_changesNothing 12 = .ok (.iconst 1, 1) := by decide +kernel
theorem dX4_changesNothing_13 : decode cX4_changesNothing 13 = .ok (.iadd, 1) := by decide +kernel
theorem dX4_changesNothing_14 : decode cX4_changesNothing 14 = .ok (.aaload, 1) := by decide +kernel
theorem dX4_changesNothing_15 : decode cX4_changesNothing 15 = .ok (.astore_n 3, 1) := by decide +kernel
theorem dX4_changesNothing_16 : decode cX4_changesNothing 16 = .ok (.aload_n 2, 1) := by decide +kernel
theorem dX4_changesNothing_17 : decode cX4_changesNothing 17 = .ok (.getfield 48, 3) := by decide +kernel
theorem dX4_changesNothing_20 : decode cX4_changesNothing 20 = .ok (.ifCond .ne 23, 3) := by decide +kernel
theorem dX4_changesNothing_23 : decode cX4_changesNothing 23 = .ok (.aload_n 2, 1) := by decide +kernel
theorem dX4_changesNothing_24 : decode cX4_changesNothing 24 = .ok (.aload_n 3, 1) := by decide +kernel
theorem dX4_changesNothing_25 : decode cX4_changesNothing 25 = .ok (.invokevirtual 87, 3) := by decide +kernel
theorem dX4_changesNothing_28 : decode cX4_changesNothing 28 = .ok (.ifCond .eq 15, 3) := by decide +kernel
theorem dX4_changesNothing_31 : decode cX4_changesNothing 31 = .ok (.aload_n 3, 1) := by decide +kernel
theorem dX4_changesNothing_32 : decode cX4_changesNothing 32 = .ok (.aload_n 2, 1) := by decide +kernel
theorem dX4_changesNothing_33 : decode cX4_changesNothing 33 = .ok (.invokevirtual 87, 3) := by decide +kernel
theorem dX4_changesNothing_36 : decode cX4_changesNothing 36 = .ok (.ifCond .eq 7, 3) := by decide +kernel
theorem dX4_changesNothing_39 : decode cX4_changesNothing 39 = .ok (.iconst 1, 1) := by decide +kernel
theorem dX4_changesNothing_40 : decode cX4_changesNothing 40 = .ok (.goto 4, 3) := by decide +kernel
theorem dX4_changesNothing_43 : decode cX4_changesNothing 43 = .ok (.iconst 0, 1) := by decide +kernel
theorem dX4_changesNothing_44 : decode cX4_changesNothing 44 = .ok (.ireturn, 1) := by decide +kernel
