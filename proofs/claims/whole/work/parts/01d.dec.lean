theorem dX0_init_0 : decode cX0_init 0 = .ok (.aload_n 0, 1) := by decide +kernel
theorem dX0_init_1 : decode cX0_init 1 = .ok (.invokespecial 1, 3) := by decide +kernel
theorem dX0_init_4 : decode cX0_init 4 = .ok (.return_, 1) := by decide +kernel
theorem dX0_title_0 : decode cX0_title 0 = .ok (.ldc 7, 2) := by decide +kernel
theorem dX0_title_2 : decode cX0_title 2 = .ok (.areturn, 1) := by decide +kernel
theorem dX0_costs_0 : decode cX0_costs 0 = .ok (.aload_n 0, 1) := by decide +kernel
theorem dX0_costs_1 : decode cX0_costs 1 = .ok (.iload_n 1, 1) := by decide +kernel
theorem dX0_costs_2 : decode cX0_costs 2 = .ok (.iload_n 2, 1) := by decide +kernel
theorem dX0_costs_3 : decode cX0_costs 3 = .ok (.invokespecial 9, 3) := by decide +kernel
theorem dX0_costs_6 : decode cX0_costs 6 = .ok (.iload_n 1, 1) := by decide +kernel
theorem dX0_costs_7 : decode cX0_costs 7 = .ok (.bipush 10, 2) := by decide +kernel
theorem dX0_costs_9 : decode cX0_costs 9 = .ok (.idiv, 1) := by decide +kernel
theorem dX0_costs_10 : decode cX0_costs 10 = .ok (.iadd, 1) := by decide +kernel
theorem dX0_costs_11 : decode cX0_costs 11 = .ok (.ireturn, 1) := by decide +kernel
theorem dX0_meets_0 : decode cX0_meets 0 = .ok (.aload_n 0, 1) := by decide +kernel
theorem dX0_meets_1 : decode cX0_meets 1 = .ok (.iload_n 1, 1) := by decide +kernel
theorem dX0_meets_2 : decode cX0_meets 2 = .ok (.iload_n 2, 1) := by decide +kernel
theorem dX0_meets_3 : decode cX0_meets 3 = .ok (.iload_n 3, 1) := by decide +kernel
theorem dX0_meets_4 : decode cX0_meets 4 = .ok (.invokespecial 13, 3) := by decide +kernel
theorem dX0_meets_7 : decode cX0_meets 7 = .ok (.istore 4, 2) := by decide +kernel
theorem dX0_meets_9 : decode cX0_meets 9 = .ok (.iload_n 3, 1) := by decide +kernel
theorem dX0_meets_10 : decode cX0_meets 10 = .ok (.bipush 50, 2) := by decide +kernel
theorem dX0_meets_12 : decode cX0_meets 12 = .ok (.if_icmp .le 10, 3) := by decide +kernel
theorem dX0_meets_15 : decode cX0_meets 15 = .ok (.iload 4, 2) := by decide +kernel
theorem dX0_meets_17 : decode cX0_meets 17 = .ok (.iconst 4, 1) := by decide +kernel
theorem dX0_meets_18 : decode cX0_meets 18 = .ok (.isub, 1) := by decide +kernel
theorem dX0_meets_19 : decode cX0_meets 19 = .ok (.goto 5, 3) := by decide +kernel
theorem dX0_meets_22 : decode cX0_meets 22 = .ok (.iload 4, 2) := by decide +kernel
theorem dX0_meets_24 : decode cX0_meets 24 = .ok (.ireturn, 1) := by decide +kernel
theorem dX0_leaves_0 : decode cX0_leaves 0 = .ok (.iload_n 1, 1) := by decide +kernel
theorem dX0_leaves_1 : decode cX0_leaves 1 = .ok (.bipush 50, 2) := by decide +kernel
theorem dX0_leaves_3 : decode cX0_leaves 3 = .ok (.if_icmp .le 8, 3) := by decide +kernel
theorem dX0_leaves_6 : decode cX0_leaves 6 = .ok (.bipush (-5), 2) := by decide +kernel
theorem dX0_leaves_8 : decode cX0_leaves 8 = .ok (.goto 8, 3) := by decide +kernel
theorem dX0_leaves_11 : decode cX0_leaves 11 = .ok (.aload_n 0, 1) := by decide +kernel
theorem dX0_leaves_12 : decode cX0_leaves 12 = .ok (.iload_n 1, 1) := by decide +kernel
theorem dX0_leaves_13 : decode cX0_leaves 13 = .ok (.invokespecial 17, 3) := by decide +kernel
theorem dX0_leaves_16 : decode cX0_leaves 16 = .ok (.ireturn, 1) := by decide +kernel
theorem dX0_gains_0 : decode cX0_gains 0 = .ok (.aload_n 0, 1) := by decide +kernel
theorem dX0_gains_1 : decode cX0_gains 1 = .ok (.iload_n 1, 1) := by decide +kernel
theorem dX0_gains_2 : decode cX0_gains 2 = .ok (.invokespecial 21, 3) := by decide +kernel
theorem dX0_gains_5 : decode cX0_gains 5 = .ok (.iconst 2, 1) := by decide +kernel
theorem dX0_gains_6 : decode cX0_gains 6 = .ok (.iadd, 1) := by decide +kernel
theorem dX0_gains_7 : decode cX0_gains 7 = .ok (.ireturn, 1) := by decide +kernel
theorem dX1_init_0 : decode cX1_init 0 = .ok (.aload_n 0, 1) := by decide +kernel
theorem dX1_init_1 : decode cX1_init 1 = .ok (.invokespecial 1, 3) := by decide +kernel
theorem dX1_init_4 : decode cX1_init 4 = .ok (.return_, 1) := by decide +kernel
theorem dX1_title_0 : decode cX1_title 0 = .ok (.ldc 7, 2) := by decide +kernel
theorem dX1_title_2 : decode cX1_title 2 = .ok (.areturn, 1) := by decide +kernel
theorem dX1_costs_0 : decode cX1_costs 0 = .ok (.iconst 2, 1) := by decide +kernel
theorem dX1_costs_1 : decode cX1_costs 1 = .ok (.aload_n 0, 1) := by decide +kernel
theorem dX1_costs_2 : decode cX1_costs 2 = .ok (.iload_n 1, 1) := by decide +kernel
theorem dX1_costs_3 : decode cX1_costs 3 = .ok (.iload_n 2, 1) := by decide +kernel
theorem dX1_costs_4 : decode cX1_costs 4 = .ok (.invokespecial 9, 3) := by decide +kernel
theorem dX1_costs_7 : decode cX1_costs 7 = .ok (.imul, 1) := by decide +kernel
theorem dX1_costs_8 : decode cX1_costs 8 = .ok (.ireturn, 1) := by decide +kernel
theorem dX1_meets_0 : decode cX1_meets 0 = .ok (.aload_n 0, 1) := by decide +kernel
theorem dX1_meets_1 : decode cX1_meets 1 = .ok (.iload_n 1, 1) := by decide +kernel
theorem dX1_meets_2 : decode cX1_meets 2 = .ok (.iload_n 2, 1) := by decide +kernel
theorem dX1_meets_3 : decode cX1_meets 3 = .ok (.iload_n 3, 1) := by decide +kernel
theorem dX1_meets_4 : decode cX1_meets 4 = .ok (.invokespecial 13, 3) := by decide +kernel
theorem dX1_meets_7 : decode cX1_meets 7 = .ok (.istore 4, 2) := by decide +kernel
theorem dX1_meets_9 : decode cX1_meets 9 = .ok (.iload_n 1, 1) := by decide +kernel
theorem dX1_meets_10 : decode cX1_meets 10 = .ok (.bipush 20, 2) := by decide +kernel
theorem dX1_meets_12 : decode cX1_meets 12 = .ok (.if_icmp .le 11, 3) := by decide +kernel
theorem dX1_meets_15 : decode cX1_meets 15 = .ok (.iload 4, 2) := by decide +kernel
theorem dX1_meets_17 : decode cX1_meets 17 = .ok (.bipush 10, 2) := by decide +kernel
theorem dX1_meets_19 : decode cX1_meets 19 = .ok (.iadd, 1) := by decide +kernel
theorem dX1_meets_20 : decode cX1_meets 20 = .ok (.goto 5, 3) := by decide +kernel
theorem dX1_meets_23 : decode cX1_meets 23 = .ok (.iload 4, 2) := by decide +kernel
theorem dX1_meets_25 : decode cX1_meets 25 = .ok (.ireturn, 1) := by decide +kernel
theorem dX1_leaves_0 : decode cX1_leaves 0 = .ok (.aload_n 0, 1) := by decide +kernel
theorem dX1_leaves_1 : decode cX1_leaves 1 = .ok (.iload_n 1, 1) := by decide +kernel
theorem dX1_leaves_2 : decode cX1_leaves 2 = .ok (.invokespecial 17, 3) := by decide +kernel
theorem dX1_leaves_5 : decode cX1_leaves 5 = .ok (.iconst 1, 1) := by decide +kernel
theorem dX1_leaves_6 : decode cX1_leaves 6 = .ok (.iadd, 1) := by decide +kernel
theorem dX1_leaves_7 : decode cX1_leaves 7 = .ok (.ireturn, 1) := by decide +kernel
theorem dX1_gains_0 : decode cX1_gains 0 = .ok (.iload_n 1, 1) := by decide +kernel
theorem dX1_gains_1 : decode cX1_gains 1 = .ok (.ifCond .eq 7, 3) := by decide +kernel
theorem dX1_gains_4 : decode cX1_gains 4 = .ok (.iconst 0, 1) := by decide +kernel
theorem dX1_gains_5 : decode cX1_gains 5 = .ok (.goto 8, 3) := by decide +kernel
theorem dX1_gains_8 : decode cX1_gains 8 = .ok (.aload_n 0, 1) := by decide +kernel
theorem dX1_gains_9 : decode cX1_gains 9 = .ok (.iload_n 1, 1) := by decide +kernel
theorem dX1_gains_10 : decode cX1_gains 10 = .ok (.invokespecial 21, 3) := by decide +kernel
theorem dX1_gains_13 : decode cX1_gains 13 = .ok (.ireturn, 1) := by decide +kernel
theorem dX2_init_0 : decode cX2_init 0 = .ok (.aload_n 0, 1) := by decide +kernel
theorem dX2_init_1 : decode cX2_init 1 = .ok (.invokespecial 1, 3) := by decide +kernel
theorem dX2_init_4 : decode cX2_init 4 = .ok (.return_, 1) := by decide +kernel
theorem dX2_title_0 : decode cX2_title 0 = .ok (.ldc 7, 2) := by decide +kernel
theorem dX2_title_2 : decode cX2_title 2 = .ok (.areturn, 1) := by decide +kernel
theorem dX2_costs_0 : decode cX2_costs 0 = .ok (.iconst 5, 1) := by decide +kernel
theorem dX2_costs_1 : decode cX2_costs 1 = .ok (.ireturn, 1) := by decide +kernel
theorem dX2_meets_0 : decode cX2_meets 0 = .ok (.iload_n 2, 1) := by decide +kernel
theorem dX2_meets_1 : decode cX2_meets 1 = .ok (.ifCond .eq 10, 3) := by decide +kernel
theorem dX2_meets_4 : decode cX2_meets 4 = .ok (.iload_n 1, 1) := by decide +kernel
theorem dX2_meets_5 : decode cX2_meets 5 = .ok (.bipush 10, 2) := by decide +kernel
theorem dX2_meets_7 : decode cX2_meets 7 = .ok (.idiv, 1) := by decide +kernel
theorem dX2_meets_8 : decode cX2_meets 8 = .ok (.goto 4, 3) := by decide +kernel
theorem dX2_meets_11 : decode cX2_meets 11 = .ok (.iconst 0, 1) := by decide +kernel
theorem dX2_meets_12 : decode cX2_meets 12 = .ok (.ireturn, 1) := by decide +kernel
theorem dX2_leaves_0 : decode cX2_leaves 0 = .ok (.iconst 3, 1) := by decide +kernel
theorem dX2_leaves_1 : decode cX2_leaves 1 = .ok (.ireturn, 1) := by decide +kernel
theorem dX2_gains_0 : decode cX2_gains 0 = .ok (.iconst 1, 1) := by decide +kernel
theorem dX2_gains_1 : decode cX2_gains 1 = .ok (.ireturn, 1) := by decide +kernel
theorem dX3_init_0 : decode cX3_init 0 = .ok (.aload_n 0, 1) := by decide +kernel
theorem dX3_init_1 : decode cX3_init 1 = .ok (.invokespecial 1, 3) := by decide +kernel
theorem dX3_init_4 : decode cX3_init 4 = .ok (.return_, 1) := by decide +kernel
theorem dX3_title_0 : decode cX3_title 0 = .ok (.ldc 7, 2) := by decide +kernel
theorem dX3_title_2 : decode cX3_title 2 = .ok (.areturn, 1) := by decide +kernel
theorem dX3_costs_0 : decode cX3_costs 0 = .ok (.iconst 2, 1) := by decide +kernel
theorem dX3_costs_1 : decode cX3_costs 1 = .ok (.ireturn, 1) := by decide +kernel
theorem dX3_meets_0 : decode cX3_meets 0 = .ok (.aload_n 0, 1) := by decide +kernel
theorem dX3_meets_1 : decode cX3_meets 1 = .ok (.iload_n 1, 1) := by decide +kernel
theorem dX3_meets_2 : decode cX3_meets 2 = .ok (.iload_n 2, 1) := by decide +kernel
theorem dX3_meets_3 : decode cX3_meets 3 = .ok (.iload_n 3, 1) := by decide +kernel
theorem dX3_meets_4 : decode cX3_meets 4 = .ok (.invokespecial 9, 3) := by decide +kernel
theorem dX3_meets_7 : decode cX3_meets 7 = .ok (.iconst 1, 1) := by decide +kernel
theorem dX3_meets_8 : decode cX3_meets 8 = .ok (.iadd, 1) := by decide +kernel
theorem dX3_meets_9 : decode cX3_meets 9 = .ok (.ireturn, 1) := by decide +kernel
theorem dX3_leaves_0 : decode cX3_leaves 0 = .ok (.iconst 1, 1) := by decide +kernel
theorem dX3_leaves_1 : decode cX3_leaves 1 = .ok (.ireturn, 1) := by decide +kernel
theorem dX3_gains_0 : decode cX3_gains 0 = .ok (.iconst 0, 1) := by decide +kernel
theorem dX3_gains_1 : decode cX3_gains 1 = .ok (.ireturn, 1) := by decide +kernel
theorem dX4_init_0 : decode cX4_init 0 = .ok (.aload_n 0, 1) := by decide +kernel
theorem dX4_init_1 : decode cX4_init 1 = .ok (.invokespecial 1, 3) := by decide +kernel
theorem dX4_init_4 : decode cX4_init 4 = .ok (.return_, 1) := by decide +kernel
theorem dX4_title_0 : decode cX4_title 0 = .ok (.ldc 7, 2) := by decide +kernel
theorem dX4_title_2 : decode cX4_title 2 = .ok (.areturn, 1) := by decide +kernel
theorem dX4_costs_0 : decode cX4_costs 0 = .ok (.aload_n 0, 1) := by decide +kernel
theorem dX4_costs_1 : decode cX4_costs 1 = .ok (.iload_n 1, 1) := by decide +kernel
theorem dX4_costs_2 : decode cX4_costs 2 = .ok (.iload_n 2, 1) := by decide +kernel
theorem dX4_costs_3 : decode cX4_costs 3 = .ok (.invokespecial 9, 3) := by decide +kernel
theorem dX4_costs_6 : decode cX4_costs 6 = .ok (.iload_n 2, 1) := by decide +kernel
theorem dX4_costs_7 : decode cX4_costs 7 = .ok (.bipush 50, 2) := by decide +kernel
theorem dX4_costs_9 : decode cX4_costs 9 = .ok (.idiv, 1) := by decide +kernel
theorem dX4_costs_10 : decode cX4_costs 10 = .ok (.iadd, 1) := by decide +kernel
theorem dX4_costs_11 : decode cX4_costs 11 = .ok (.ireturn, 1) := by decide +kernel
theorem dX4_meets_0 : decode cX4_meets 0 = .ok (.iconst 2, 1) := by decide +kernel
theorem dX4_meets_1 : decode cX4_meets 1 = .ok (.aload_n 0, 1) := by decide +kernel
theorem dX4_meets_2 : decode cX4_meets 2 = .ok (.iload_n 1, 1) := by decide +kernel
theorem dX4_meets_3 : decode cX4_meets 3 = .ok (.iload_n 2, 1) := by decide +kernel
theorem dX4_meets_4 : decode cX4_meets 4 = .ok (.iload_n 3, 1) := by decide +kernel
theorem dX4_meets_5 : decode cX4_meets 5 = .ok (.invokespecial 13, 3) := by decide +kernel
theorem dX4_meets_8 : decode cX4_meets 8 = .ok (.imul, 1) := by decide +kernel
theorem dX4_meets_9 : decode cX4_meets 9 = .ok (.ireturn, 1) := by decide +kernel
theorem dX4_gains_0 : decode cX4_gains 0 = .ok (.aload_n 0, 1) := by decide +kernel
theorem dX4_gains_1 : decode cX4_gains 1 = .ok (.iload_n 1, 1) := by decide +kernel
theorem dX4_gains_2 : decode cX4_gains 2 = .ok (.invokespecial 17, 3) := by decide +kernel
theorem dX4_gains_5 : decode cX4_gains 5 = .ok (.iconst 2, 1) := by decide +kernel
theorem dX4_gains_6 : decode cX4_gains 6 = .ok (.isub, 1) := by decide +kernel
theorem dX4_gains_7 : decode cX4_gains 7 = .ok (.ireturn, 1) := by decide +kernel
theorem dX5_init_0 : decode cX5_init 0 = .ok (.aload_n 0, 1) := by decide +kernel
theorem dX5_init_1 : decode cX5_init 1 = .ok (.invokespecial 3, 3) := by decide +kernel
theorem dX5_init_4 : decode cX5_init 4 = .ok (.aload_n 0, 1) := by decide +kernel
theorem dX5_init_5 : decode cX5_init 5 = .ok (.bipush 40, 2) := by decide +kernel
theorem dX5_init_7 : decode cX5_init 7 = .ok (.newarray .long, 2) := by decide +kernel
theorem dX5_init_9 : decode cX5_init 9 = .ok (.putfield 9, 3) := by decide +kernel
theorem dX5_init_12 : decode cX5_init 12 = .ok (.return_, 1) := by decide +kernel
theorem dX5_layOut_0 : decode cX5_layOut 0 = .ok (.aload_n 0, 1) := by decide +kernel
theorem dX5_layOut_1 : decode cX5_layOut 1 = .ok (.iload_n 1, 1) := by decide +kernel
theorem dX5_layOut_2 : decode cX5_layOut 2 = .ok (.putfield 15, 3) := by decide +kernel
theorem dX5_layOut_5 : decode cX5_layOut 5 = .ok (.aload_n 0, 1) := by decide +kernel
theorem dX5_layOut_6 : decode cX5_layOut 6 = .ok (.iload_n 2, 1) := by decide +kernel
theorem dX5_layOut_7 : decode cX5_layOut 7 = .ok (.putfield 19, 3) := by decide +kernel
theorem dX5_layOut_10 : decode cX5_layOut 10 = .ok (.iconst 0, 1) := by decide +kernel
theorem dX5_layOut_11 : decode cX5_layOut 11 = .ok (.istore_n 3, 1) := by decide +kernel
theorem dX5_layOut_12 : decode cX5_layOut 12 = .ok (.iload_n 3, 1) := by decide +kernel
theorem dX5_layOut_13 : decode cX5_layOut 13 = .ok (.bipush 40, 2) := by decide +kernel
theorem dX5_layOut_15 : decode cX5_layOut 15 = .ok (.if_icmp .ge 16, 3) := by decide +kernel
theorem dX5_layOut_18 : decode cX5_layOut 18 = .ok (.aload_n 0, 1) := by decide +kernel
theorem dX5_layOut_19 : decode cX5_layOut 19 = .ok (.getfield 9, 3) := by decide +kernel
theorem dX5_layOut_22 : decode cX5_layOut 22 = .ok (.iload_n 3, 1) := by decide +kernel
theorem dX5_layOut_23 : decode cX5_layOut 23 = .ok (.lconst 0, 1) := by decide +kernel
theorem dX5_layOut_24 : decode cX5_layOut 24 = .ok (.lastore, 1) := by decide +kernel
theorem dX5_layOut_25 : decode cX5_layOut 25 = .ok (.iinc 3 1, 3) := by decide +kernel
theorem dX5_layOut_28 : decode cX5_layOut 28 = .ok (.goto (-16), 3) := by decide +kernel
theorem dX5_layOut_31 : decode cX5_layOut 31 = .ok (.return_, 1) := by decide +kernel
theorem dX5_isMissing_0 : decode cX5_isMissing 0 = .ok (.aload_n 0, 1) := by decide +kernel
theorem dX5_isMissing_1 : decode cX5_isMissing 1 = .ok (.getfield 15, 3) := by decide +kernel
theorem dX5_isMissing_4 : decode cX5_isMissing 4 = .ok (.ifCond .ne 7, 3) := by decide +kernel
theorem dX5_isMissing_7 : decode cX5_isMissing 7 = .ok (.iconst 1, 1) := by decide +kernel
theorem dX5_isMissing_8 : decode cX5_isMissing 8 = .ok (.goto 4, 3) := by decide +kernel
theorem dX5_isMissing_11 : decode cX5_isMissing 11 = .ok (.iconst 0, 1) := by decide +kernel
theorem dX5_isMissing_12 : decode cX5_isMissing 12 = .ok (.ireturn, 1) := by decide +kernel
theorem dX5_put_0 : decode cX5_put 0 = .ok (.aload_n 0, 1) := by decide +kernel
theorem dX5_put_1 : decode cX5_put 1 = .ok (.getfield 15, 3) := by decide +kernel
theorem dX5_put_4 : decode cX5_put 4 = .ok (.bipush 8, 2) := by decide +kernel
theorem dX5_put_6 : decode cX5_put 6 = .ok (.if_icmp .ne 16, 3) := by decide +kernel
theorem dX5_put_9 : decode cX5_put 9 = .ok (.aload_n 0, 1) := by decide +kernel
theorem dX5_put_10 : decode cX5_put 10 = .ok (.getfield 9, 3) := by decide +kernel
theorem dX5_put_13 : decode cX5_put 13 = .ok (.iload_n 1, 1) := by decide +kernel
theorem dX5_put_14 : decode cX5_put 14 = .ok (.lload_n 2, 1) := by decide +kernel
theorem dX5_put_15 : decode cX5_put 15 = .ok (.l2i, 1) := by decide +kernel
theorem dX5_put_16 : decode cX5_put 16 = .ok (.i2b, 1) := by decide +kernel
theorem dX5_put_17 : decode cX5_put 17 = .ok (.i2l, 1) := by decide +kernel
theorem dX5_put_18 : decode cX5_put 18 = .ok (.lastore, 1) := by decide +kernel
theorem dX5_put_19 : decode cX5_put 19 = .ok (.goto 32, 3) := by decide +kernel
theorem dX5_put_22 : decode cX5_put 22 = .ok (.aload_n 0, 1) := by decide +kernel
theorem dX5_put_23 : decode cX5_put 23 = .ok (.getfield 15, 3) := by decide +kernel
theorem dX5_put_26 : decode cX5_put 26 = .ok (.bipush 16, 2) := by decide +kernel
theorem dX5_put_28 : decode cX5_put 28 = .ok (.if_icmp .ne 16, 3) := by decide +kernel
theorem dX5_put_31 : decode cX5_put 31 = .ok (.aload_n 0, 1) := by decide +kernel
theorem dX5_put_32 : decode cX5_put 32 = .ok (.getfield 9, 3) := by decide +kernel
theorem dX5_put_35 : decode cX5_put 35 = .ok (.iload_n 1, 1) := by decide +kernel
theorem dX5_put_36 : decode cX5_put 36 = .ok (.lload_n 2, 1) := by decide +kernel
theorem dX5_put_37 : decode cX5_put 37 = .ok (.l2i, 1) := by decide +kernel
theorem dX5_put_38 : decode cX5_put 38 = .ok (.i2s, 1) := by decide +kernel
theorem dX5_put_39 : decode cX5_put 39 = .ok (.i2l, 1) := by decide +kernel
theorem dX5_put_40 : decode cX5_put 40 = .ok (.lastore, 1) := by decide +kernel
theorem dX5_put_41 : decode cX5_put 41 = .ok (.goto 10, 3) := by decide +kernel
theorem dX5_put_44 : decode cX5_put 44 = .ok (.aload_n 0, 1) := by decide +kernel
theorem dX5_put_45 : decode cX5_put 45 = .ok (.getfield 9, 3) := by decide +kernel
theorem dX5_put_48 : decode cX5_put 48 = .ok (.iload_n 1, 1) := by decide +kernel
theorem dX5_put_49 : decode cX5_put 49 = .ok (.lload_n 2, 1) := by decide +kernel
theorem dX5_put_50 : decode cX5_put 50 = .ok (.lastore, 1) := by decide +kernel
theorem dX5_put_51 : decode cX5_put 51 = .ok (.return_, 1) := by decide +kernel
theorem dX5_hasSpan_0 : decode cX5_hasSpan 0 = .ok (.iload_n 1, 1) := by decide +kernel
theorem dX5_hasSpan_1 : decode cX5_hasSpan 1 = .ok (.ifCond .lt 29, 3) := by decide +kernel
theorem dX5_hasSpan_4 : decode cX5_hasSpan 4 = .ok (.iload_n 2, 1) := by decide +kernel
theorem dX5_hasSpan_5 : decode cX5_hasSpan 5 = .ok (.ifCond .lt 25, 3) := by decide +kernel
theorem dX5_hasSpan_8 : decode cX5_hasSpan 8 = .ok (.iload_n 2, 1) := by decide +kernel
theorem dX5_hasSpan_9 : decode cX5_hasSpan 9 = .ok (.aload_n 0, 1) := by decide +kernel
theorem dX5_hasSpan_10 : decode cX5_hasSpan 10 = .ok (.getfield 19, 3) := by decide +kernel
theorem dX5_hasSpan_13 : decode cX5_hasSpan 13 = .ok (.if_icmp .gt 17, 3) := by decide +kernel
theorem dX5_hasSpan_16 : decode cX5_hasSpan 16 = .ok (.iload_n 1, 1) := by decide +kernel
theorem dX5_hasSpan_17 : decode cX5_hasSpan 17 = .ok (.aload_n 0, 1) := by decide +kernel
theorem dX5_hasSpan_18 : decode cX5_hasSpan 18 = .ok (.getfield 19, 3) := by decide +kernel
theorem dX5_hasSpan_21 : decode cX5_hasSpan 21 = .ok (.iload_n 2, 1) := by decide +kernel
theorem dX5_hasSpan_22 : decode cX5_hasSpan 22 = .ok (.isub, 1) := by decide +kernel
theorem dX5_hasSpan_23 : decode cX5_hasSpan 23 = .ok (.if_icmp .gt 7, 3) := by decide +kernel
theorem dX5_hasSpan_26 : decode cX5_hasSpan 26 = .ok (.iconst 1, 1) := by decide +kernel
theorem dX5_hasSpan_27 : decode cX5_hasSpan 27 = .ok (.goto 4, 3) := by decide +kernel
theorem dX5_hasSpan_30 : decode cX5_hasSpan 30 = .ok (.iconst 0, 1) := by decide +kernel
theorem dX5_hasSpan_31 : decode cX5_hasSpan 31 = .ok (.ireturn, 1) := by decide +kernel
theorem dX8_init_0 : decode cX8_init 0 = .ok (.aload_n 0, 1) := by decide +kernel
theorem dX8_init_1 : decode cX8_init 1 = .ok (.invokespecial 1, 3) := by decide +kernel
theorem dX8_init_4 : decode cX8_init 4 = .ok (.return_, 1) := by decide +kernel
theorem dX8_title_0 : decode cX8_title 0 = .ok (.ldc 7, 2) := by decide +kernel
theorem dX8_title_2 : decode cX8_title 2 = .ok (.areturn, 1) := by decide +kernel
theorem dX8_costs_0 : decode cX8_costs 0 = .ok (.bipush 12, 2) := by decide +kernel
theorem dX8_costs_2 : decode cX8_costs 2 = .ok (.ireturn, 1) := by decide +kernel
theorem dX8_meets_0 : decode cX8_meets 0 = .ok (.aload_n 0, 1) := by decide +kernel
theorem dX8_meets_1 : decode cX8_meets 1 = .ok (.iload_n 1, 1) := by decide +kernel
theorem dX8_meets_2 : decode cX8_meets 2 = .ok (.iload_n 2, 1) := by decide +kernel
theorem dX8_meets_3 : decode cX8_meets 3 = .ok (.iload_n 3, 1) := by decide +kernel
theorem dX8_meets_4 : decode cX8_meets 4 = .ok (.invokespecial 9, 3) := by decide +kernel
theorem dX8_meets_7 : decode cX8_meets 7 = .ok (.istore 4, 2) := by decide +kernel
theorem dX8_meets_9 : decode cX8_meets 9 = .ok (.iload 4, 2) := by decide +kernel
theorem dX8_meets_11 : decode cX8_meets 11 = .ok (.ifCond .le 8, 3) := by decide +kernel
theorem dX8_meets_14 : decode cX8_meets 14 = .ok (.iload 4, 2) := by decide +kernel
theorem dX8_meets_16 : decode cX8_meets 16 = .ok (.goto 5, 3) := by decide +kernel
theorem dX8_meets_19 : decode cX8_meets 19 = .ok (.bipush (-6), 2) := by decide +kernel
theorem dX8_meets_21 : decode cX8_meets 21 = .ok (.ireturn, 1) := by decide +kernel
theorem dX8_leaves_0 : decode cX8_leaves 0 = .ok (.aload_n 0, 1) := by decide +kernel
theorem dX8_leaves_1 : decode cX8_leaves 1 = .ok (.iload_n 1, 1) := by decide +kernel
theorem dX8_leaves_2 : decode cX8_leaves 2 = .ok (.invokespecial 13, 3) := by decide +kernel
theorem dX8_leaves_5 : decode cX8_leaves 5 = .ok (.iconst 4, 1) := by decide +kernel
theorem dX8_leaves_6 : decode cX8_leaves 6 = .ok (.iadd, 1) := by decide +kernel
theorem dX8_leaves_7 : decode cX8_leaves 7 = .ok (.ireturn, 1) := by decide +kernel
theorem dJ9_max_7cf53_0 : decode cJ9_max_7cf53 0 = .ok (.iload_n 0, 1) := by decide +kernel
theorem dJ9_max_7cf53_1 : decode cJ9_max_7cf53 1 = .ok (.iload_n 1, 1) := by decide +kernel
theorem dJ9_max_7cf53_2 : decode cJ9_max_7cf53 2 = .ok (.if_icmp .lt 7, 3) := by decide +kernel
theorem dJ9_max_7cf53_5 : decode cJ9_max_7cf53 5 = .ok (.iload_n 0, 1) := by decide +kernel
theorem dJ9_max_7cf53_6 : decode cJ9_max_7cf53 6 = .ok (.goto 4, 3) := by decide +kernel
theorem dJ9_max_7cf53_9 : decode cJ9_max_7cf53 9 = .ok (.iload_n 1, 1) := by decide +kernel
theorem dJ9_max_7cf53_10 : decode cJ9_max_7cf53 10 = .ok (.ireturn, 1) := by decide +kernel
theorem dJ9_min_7cf53_0 : decode cJ9_min_7cf53 0 = .ok (.iload_n 0, 1) := by decide +kernel
theorem dJ9_min_7cf53_1 : decode cJ9_min_7cf53 1 = .ok (.iload_n 1, 1) := by decide +kernel
theorem dJ9_min_7cf53_2 : decode cJ9_min_7cf53 2 = .ok (.if_icmp .gt 7, 3) := by decide +kernel
theorem dJ9_min_7cf53_5 : decode cJ9_min_7cf53 5 = .ok (.iload_n 0, 1) := by decide +kernel
theorem dJ9_min_7cf53_6 : decode cJ9_min_7cf53 6 = .ok (.goto 4, 3) := by decide +kernel
theorem dJ9_min_7cf53_9 : decode cJ9_min_7cf53 9 = .ok (.iload_n 1, 1) := by decide +kernel
theorem dJ9_min_7cf53_10 : decode cJ9_min_7cf53 10 = .ok (.ireturn, 1) := by decide +kernel
theorem dJ0_length_8abf5_0 : decode cJ0_length_8abf5 0 = .ok (.aload_n 0, 1) := by decide +kernel
theorem dJ0_length_8abf5_1 : decode cJ0_length_8abf5 1 = .ok (.getfield 9, 3) := by decide +kernel
theorem dJ0_length_8abf5_4 : decode cJ0_length_8abf5 4 = .ok (.arraylength, 1) := by decide +kernel
theorem dJ0_length_8abf5_5 : decode cJ0_length_8abf5 5 = .ok (.aload_n 0, 1) := by decide +kernel
theorem dJ0_length_8abf5_6 : decode cJ0_length_8abf5 6 = .ok (.invokevirtual 335, 3) := by decide +kernel
theorem dJ0_length_8abf5_9 : decode cJ0_length_8abf5 9 = .ok (.ishr, 1) := by decide +kernel
theorem dJ0_length_8abf5_10 : decode cJ0_length_8abf5 10 = .ok (.ireturn, 1) := by decide +kernel
theorem dJ0_charAt_5068e_0 : decode cJ0_charAt_5068e 0 = .ok (.aload_n 0, 1) := by decide +kernel
theorem dJ0_charAt_5068e_1 : decode cJ0_charAt_5068e 1 = .ok (.invokevirtual 492, 3) := by decide +kernel
theorem dJ0_charAt_5068e_4 : decode cJ0_charAt_5068e 4 = .ok (.ifCond .eq 12, 3) := by decide +kernel
theorem dJ0_charAt_5068e_7 : decode cJ0_charAt_5068e 7 = .ok (.aload_n 0, 1) := by decide +kernel
theorem dJ0_charAt_5068e_8 : decode cJ0_charAt_5068e 8 = .ok (.getfield 9, 3) := by decide +kernel
theorem dJ0_charAt_5068e_11 : decode cJ0_charAt_5068e 11 = .ok (.iload_n 1, 1) := by decide +kernel
theorem dJ0_charAt_5068e_12 : decode cJ0_charAt_5068e 12 = .ok (.invokestatic 495, 3) := by decide +kernel
theorem dJ0_charAt_5068e_15 : decode cJ0_charAt_5068e 15 = .ok (.ireturn, 1) := by decide +kernel
theorem dJ0_charAt_5068e_16 : decode cJ0_charAt_5068e 16 = .ok (.aload_n 0, 1) := by decide +kernel
theorem dJ0_charAt_5068e_17 : decode cJ0_charAt_5068e 17 = .ok (.getfield 9, 3) := by decide +kernel
theorem dJ0_charAt_5068e_20 : decode cJ0_charAt_5068e 20 = .ok (.iload_n 1, 1) := by decide +kernel
theorem dJ0_charAt_5068e_21 : decode cJ0_charAt_5068e 21 = .ok (.invokestatic 498, 3) := by decide +kernel
theorem dJ0_charAt_5068e_24 : decode cJ0_charAt_5068e 24 = .ok (.ireturn, 1) := by decide +kernel
theorem dJ0_coder_7d493_0 : decode cJ0_coder_7d493 0 = .ok (.getstatic 38, 3) := by decide +kernel
theorem dJ0_coder_7d493_3 : decode cJ0_coder_7d493 3 = .ok (.ifCond .eq 10, 3) := by decide +kernel
theorem dJ0_coder_7d493_6 : decode cJ0_coder_7d493 6 = .ok (.aload_n 0, 1) := by decide +kernel
theorem dJ0_coder_7d493_7 : decode cJ0_coder_7d493 7 = .ok (.getfield 15, 3) := by decide +kernel
theorem dJ0_coder_7d493_10 : decode cJ0_coder_7d493 10 = .ok (.goto 4, 3) := by decide +kernel
theorem dJ0_coder_7d493_13 : decode cJ0_coder_7d493 13 = .ok (.iconst 1, 1) := by decide +kernel
theorem dJ0_coder_7d493_14 : decode cJ0_coder_7d493 14 = .ok (.ireturn, 1) := by decide +kernel
theorem dJ0_isLatin1_aae02_0 : decode cJ0_isLatin1_aae02 0 = .ok (.getstatic 38, 3) := by decide +kernel
theorem dJ0_isLatin1_aae02_3 : decode cJ0_isLatin1_aae02 3 = .ok (.ifCond .eq 14, 3) := by decide +kernel
theorem dJ0_isLatin1_aae02_6 : decode cJ0_isLatin1_aae02 6 = .ok (.aload_n 0, 1) := by decide +kernel
theorem dJ0_isLatin1_aae02_7 : decode cJ0_isLatin1_aae02 7 = .ok (.getfield 15, 3) := by decide +kernel
theorem dJ0_isLatin1_aae02_10 : decode cJ0_isLatin1_aae02 10 = .ok (.ifCond .ne 7, 3) := by decide +kernel
theorem dJ0_isLatin1_aae02_13 : decode cJ0_isLatin1_aae02 13 = .ok (.iconst 1, 1) := by decide +kernel
theorem dJ0_isLatin1_aae02_14 : decode cJ0_isLatin1_aae02 14 = .ok (.goto 4, 3) := by decide +kernel
theorem dJ0_isLatin1_aae02_17 : decode cJ0_isLatin1_aae02 17 = .ok (.iconst 0, 1) := by decide +kernel
theorem dJ0_isLatin1_aae02_18 : decode cJ0_isLatin1_aae02 18 = .ok (.ireturn, 1) := by decide +kernel
theorem dJ0_checkIndex_df160_0 : decode cJ0_checkIndex_df160 0 = .ok (.iload_n 0, 1) := by decide +kernel
theorem dJ0_checkIndex_df160_1 : decode cJ0_checkIndex_df160 1 = .ok (.iload_n 1, 1) := by decide +kernel
theorem dJ0_checkIndex_df160_2 : decode cJ0_checkIndex_df160 2 = .ok (.getstatic 1053, 3) := by decide +kernel
theorem dJ0_checkIndex_df160_5 : decode cJ0_checkIndex_df160 5 = .ok (.invokestatic 1059, 3) := by decide +kernel
theorem dJ0_checkIndex_df160_8 : decode cJ0_checkIndex_df160 8 = .ok (.pop, 1) := by decide +kernel
theorem dJ0_checkIndex_df160_9 : decode cJ0_checkIndex_df160 9 = .ok (.return_, 1) := by decide +kernel
theorem dJ1_charAt_3b067_0 : decode cJ1_charAt_3b067 0 = .ok (.iload_n 1, 1) := by decide +kernel
theorem dJ1_charAt_3b067_1 : decode cJ1_charAt_3b067 1 = .ok (.aload_n 0, 1) := by decide +kernel
theorem dJ1_charAt_3b067_2 : decode cJ1_charAt_3b067 2 = .ok (.arraylength, 1) := by decide +kernel
theorem dJ1_charAt_3b067_3 : decode cJ1_charAt_3b067 3 = .ok (.invokestatic 9, 3) := by decide +kernel
theorem dJ1_charAt_3b067_6 : decode cJ1_charAt_3b067 6 = .ok (.aload_n 0, 1) := by decide +kernel
theorem dJ1_charAt_3b067_7 : decode cJ1_charAt_3b067 7 = .ok (.iload_n 1, 1) := by decide +kernel
theorem dJ1_charAt_3b067_8 : decode cJ1_charAt_3b067 8 = .ok (.baload, 1) := by decide +kernel
theorem dJ1_charAt_3b067_9 : decode cJ1_charAt_3b067 9 = .ok (.sipush 255, 3) := by decide +kernel
theorem dJ1_charAt_3b067_12 : decode cJ1_charAt_3b067 12 = .ok (.iand, 1) := by decide +kernel
theorem dJ1_charAt_3b067_13 : decode cJ1_charAt_3b067 13 = .ok (.i2c, 1) := by decide +kernel
theorem dJ1_charAt_3b067_14 : decode cJ1_charAt_3b067 14 = .ok (.ireturn, 1) := by decide +kernel
theorem dJ2_getChar_3b067_0 : decode cJ2_getChar_3b067 0 = .ok (.getstatic 44, 3) := by decide +kernel
theorem dJ2_getChar_3b067_3 : decode cJ2_getChar_3b067 3 = .ok (.ifCond .ne 25, 3) := by decide +kernel
theorem dJ2_getChar_3b067_6 : decode cJ2_getChar_3b067 6 = .ok (.iload_n 1, 1) := by decide +kernel
theorem dJ2_getChar_3b067_7 : decode cJ2_getChar_3b067 7 = .ok (.ifCond .lt 11, 3) := by decide +kernel
theorem dJ2_getChar_3b067_10 : decode cJ2_getChar_3b067 10 = .ok (.iload_n 1, 1) := by decide +kernel
theorem dJ2_getChar_3b067_11 : decode cJ2_getChar_3b067 11 = .ok (.aload_n 0, 1) := by decide +kernel
theorem dJ2_getChar_3b067_12 : decode cJ2_getChar_3b067 12 = .ok (.invokestatic 48, 3) := by decide +kernel
theorem dJ2_getChar_3b067_15 : decode cJ2_getChar_3b067 15 = .ok (.if_icmp .lt 13, 3) := by decide +kernel
theorem dJ2_getChar_3b067_18 : decode cJ2_getChar_3b067 18 = .ok (.new 52, 3) := by decide +kernel
theorem dJ2_getChar_3b067_21 : decode cJ2_getChar_3b067 21 = .ok (.dup, 1) := by decide +kernel
theorem dJ2_getChar_3b067_22 : decode cJ2_getChar_3b067 22 = .ok (.ldc 54, 2) := by decide +kernel
theorem dJ2_getChar_3b067_24 : decode cJ2_getChar_3b067 24 = .ok (.invokespecial 56, 3) := by decide +kernel
theorem dJ2_getChar_3b067_27 : decode cJ2_getChar_3b067 27 = .ok (.athrow, 1) := by decide +kernel
theorem dJ2_getChar_3b067_28 : decode cJ2_getChar_3b067 28 = .ok (.iload_n 1, 1) := by decide +kernel
theorem dJ2_getChar_3b067_29 : decode cJ2_getChar_3b067 29 = .ok (.iconst 1, 1) := by decide +kernel
theorem dJ2_getChar_3b067_30 : decode cJ2_getChar_3b067 30 = .ok (.ishl, 1) := by decide +kernel
theorem dJ2_getChar_3b067_31 : decode cJ2_getChar_3b067 31 = .ok (.istore_n 1, 1) := by decide +kernel
theorem dJ2_getChar_3b067_32 : decode cJ2_getChar_3b067 32 = .ok (.aload_n 0, 1) := by decide +kernel
theorem dJ2_getChar_3b067_33 : decode cJ2_getChar_3b067 33 = .ok (.iload_n 1, 1) := by decide +kernel
theorem dJ2_getChar_3b067_34 : decode cJ2_getChar_3b067 34 = .ok (.iinc 1 1, 3) := by decide +kernel
theorem dJ2_getChar_3b067_37 : decode cJ2_getChar_3b067 37 = .ok (.baload, 1) := by decide +kernel
theorem dJ2_getChar_3b067_38 : decode cJ2_getChar_3b067 38 = .ok (.sipush 255, 3) := by decide +kernel
theorem dJ2_getChar_3b067_41 : decode cJ2_getChar_3b067 41 = .ok (.iand, 1) := by decide +kernel
theorem dJ2_getChar_3b067_42 : decode cJ2_getChar_3b067 42 = .ok (.getstatic 59, 3) := by decide +kernel
theorem dJ2_getChar_3b067_45 : decode cJ2_getChar_3b067 45 = .ok (.ishl, 1) := by decide +kernel
theorem dJ2_getChar_3b067_46 : decode cJ2_getChar_3b067 46 = .ok (.aload_n 0, 1) := by decide +kernel
theorem dJ2_getChar_3b067_47 : decode cJ2_getChar_3b067 47 = .ok (.iload_n 1, 1) := by decide +kernel
theorem dJ2_getChar_3b067_48 : decode cJ2_getChar_3b067 48 = .ok (.baload, 1) := by decide +kernel
theorem dJ2_getChar_3b067_49 : decode cJ2_getChar_3b067 49 = .ok (.sipush 255, 3) := by decide +kernel
theorem dJ2_getChar_3b067_52 : decode cJ2_getChar_3b067 52 = .ok (.iand, 1) := by decide +kernel
theorem dJ2_getChar_3b067_53 : decode cJ2_getChar_3b067 53 = .ok (.getstatic 63, 3) := by decide +kernel
theorem dJ2_getChar_3b067_56 : decode cJ2_getChar_3b067 56 = .ok (.ishl, 1) := by decide +kernel
theorem dJ2_getChar_3b067_57 : decode cJ2_getChar_3b067 57 = .ok (.ior, 1) := by decide +kernel
theorem dJ2_getChar_3b067_58 : decode cJ2_getChar_3b067 58 = .ok (.i2c, 1) := by decide +kernel
theorem dJ2_getChar_3b067_59 : decode cJ2_getChar_3b067 59 = .ok (.ireturn, 1) := by decide +kernel
theorem dJ2_length_9d52b_0 : decode cJ2_length_9d52b 0 = .ok (.aload_n 0, 1) := by decide +kernel
theorem dJ2_length_9d52b_1 : decode cJ2_length_9d52b 1 = .ok (.arraylength, 1) := by decide +kernel
theorem dJ2_length_9d52b_2 : decode cJ2_length_9d52b 2 = .ok (.iconst 1, 1) := by decide +kernel
theorem dJ2_length_9d52b_3 : decode cJ2_length_9d52b 3 = .ok (.ishr, 1) := by decide +kernel
theorem dJ2_length_9d52b_4 : decode cJ2_length_9d52b 4 = .ok (.ireturn, 1) := by decide +kernel
theorem dJ2_charAt_3b067_0 : decode cJ2_charAt_3b067 0 = .ok (.iload_n 1, 1) := by decide +kernel
theorem dJ2_charAt_3b067_1 : decode cJ2_charAt_3b067 1 = .ok (.aload_n 0, 1) := by decide +kernel
theorem dJ2_charAt_3b067_2 : decode cJ2_charAt_3b067 2 = .ok (.invokestatic 67, 3) := by decide +kernel
theorem dJ2_charAt_3b067_5 : decode cJ2_charAt_3b067 5 = .ok (.aload_n 0, 1) := by decide +kernel
theorem dJ2_charAt_3b067_6 : decode cJ2_charAt_3b067 6 = .ok (.iload_n 1, 1) := by decide +kernel
theorem dJ2_charAt_3b067_7 : decode cJ2_charAt_3b067 7 = .ok (.invokestatic 71, 3) := by decide +kernel
theorem dJ2_charAt_3b067_10 : decode cJ2_charAt_3b067 10 = .ok (.ireturn, 1) := by decide +kernel
theorem dJ2_checkIndex_2214a_0 : decode cJ2_checkIndex_2214a 0 = .ok (.iload_n 0, 1) := by decide +kernel
theorem dJ2_checkIndex_2214a_1 : decode cJ2_checkIndex_2214a 1 = .ok (.aload_n 1, 1) := by decide +kernel
theorem dJ2_checkIndex_2214a_2 : decode cJ2_checkIndex_2214a 2 = .ok (.invokestatic 48, 3) := by decide +kernel
theorem dJ2_checkIndex_2214a_5 : decode cJ2_checkIndex_2214a 5 = .ok (.invokestatic 414, 3) := by decide +kernel
theorem dJ2_checkIndex_2214a_8 : decode cJ2_checkIndex_2214a 8 = .ok (.return_, 1) := by decide +kernel
theorem dJ3_checkIndex_8e157_0 : decode cJ3_checkIndex_8e157 0 = .ok (.iload_n 0, 1) := by decide +kernel
theorem dJ3_checkIndex_8e157_1 : decode cJ3_checkIndex_8e157 1 = .ok (.ifCond .lt 8, 3) := by decide +kernel
theorem dJ3_checkIndex_8e157_4 : decode cJ3_checkIndex_8e157 4 = .ok (.iload_n 0, 1) := by decide +kernel
theorem dJ3_checkIndex_8e157_5 : decode cJ3_checkIndex_8e157 5 = .ok (.iload_n 1, 1) := by decide +kernel
theorem dJ3_checkIndex_8e157_6 : decode cJ3_checkIndex_8e157 6 = .ok (.if_icmp .lt 10, 3) := by decide +kernel
theorem dJ3_checkIndex_8e157_9 : decode cJ3_checkIndex_8e157 9 = .ok (.aload_n 2, 1) := by decide +kernel
theorem dJ3_checkIndex_8e157_10 : decode cJ3_checkIndex_8e157 10 = .ok (.iload_n 0, 1) := by decide +kernel
theorem dJ3_checkIndex_8e157_11 : decode cJ3_checkIndex_8e157 11 = .ok (.iload_n 1, 1) := by decide +kernel
theorem dJ3_checkIndex_8e157_12 : decode cJ3_checkIndex_8e157 12 = .ok (.invokestatic 95, 3) := by decide +kernel
theorem dJ3_checkIndex_8e157_15 : decode cJ3_checkIndex_8e157 15 = .ok (.athrow, 1) := by decide +kernel
theorem dJ3_checkIndex_8e157_16 : decode cJ3_checkIndex_8e157 16 = .ok (.iload_n 0, 1) := by decide +kernel
theorem dJ3_checkIndex_8e157_17 : decode cJ3_checkIndex_8e157 17 = .ok (.ireturn, 1) := by decide +kernel
theorem dX7_init_0 : decode cX7_init 0 = .ok (.aload_n 0, 1) := by decide +kernel
theorem dX7_init_1 : decode cX7_init 1 = .ok (.invokespecial 3, 3) := by decide +kernel
theorem dX7_init_4 : decode cX7_init 4 = .ok (.aload_n 0, 1) := by decide +kernel
theorem dX7_init_5 : decode cX7_init 5 = .ok (.bipush 8, 2) := by decide +kernel
theorem dX7_init_7 : decode cX7_init 7 = .ok (.newarray .int, 2) := by decide +kernel
theorem dX7_init_9 : decode cX7_init 9 = .ok (.putfield 9, 3) := by decide +kernel
theorem dX7_init_12 : decode cX7_init 12 = .ok (.aload_n 0, 1) := by decide +kernel
theorem dX7_init_13 : decode cX7_init 13 = .ok (.bipush 8, 2) := by decide +kernel
theorem dX7_init_15 : decode cX7_init 15 = .ok (.newarray .int, 2) := by decide +kernel
theorem dX7_init_17 : decode cX7_init 17 = .ok (.putfield 15, 3) := by decide +kernel
theorem dX7_init_20 : decode cX7_init 20 = .ok (.aload_n 0, 1) := by decide +kernel
theorem dX7_init_21 : decode cX7_init 21 = .ok (.bipush 8, 2) := by decide +kernel
theorem dX7_init_23 : decode cX7_init 23 = .ok (.newarray .int, 2) := by decide +kernel
theorem dX7_init_25 : decode cX7_init 25 = .ok (.putfield 18, 3) := by decide +kernel
theorem dX7_init_28 : decode cX7_init 28 = .ok (.aload_n 0, 1) := by decide +kernel
theorem dX7_init_29 : decode cX7_init 29 = .ok (.bipush 8, 2) := by decide +kernel
theorem dX7_init_31 : decode cX7_init 31 = .ok (.newarray .int, 2) := by decide +kernel
theorem dX7_init_33 : decode cX7_init 33 = .ok (.putfield 21, 3) := by decide +kernel
theorem dX7_init_36 : decode cX7_init 36 = .ok (.aload_n 0, 1) := by decide +kernel
theorem dX7_init_37 : decode cX7_init 37 = .ok (.bipush 6, 2) := by decide +kernel
theorem dX7_init_39 : decode cX7_init 39 = .ok (.newarray .int, 2) := by decide +kernel
theorem dX7_init_41 : decode cX7_init 41 = .ok (.putfield 24, 3) := by decide +kernel
theorem dX7_init_44 : decode cX7_init 44 = .ok (.aload_n 0, 1) := by decide +kernel
theorem dX7_init_45 : decode cX7_init 45 = .ok (.bipush 6, 2) := by decide +kernel
theorem dX7_init_47 : decode cX7_init 47 = .ok (.newarray .int, 2) := by decide +kernel
theorem dX7_init_49 : decode cX7_init 49 = .ok (.putfield 27, 3) := by decide +kernel
theorem dX7_init_52 : decode cX7_init 52 = .ok (.aload_n 0, 1) := by decide +kernel
theorem dX7_init_53 : decode cX7_init 53 = .ok (.bipush 6, 2) := by decide +kernel
theorem dX7_init_55 : decode cX7_init 55 = .ok (.newarray .int, 2) := by decide +kernel
theorem dX7_init_57 : decode cX7_init 57 = .ok (.putfield 30, 3) := by decide +kernel
theorem dX7_init_60 : decode cX7_init 60 = .ok (.aload_n 0, 1) := by decide +kernel
theorem dX7_init_61 : decode cX7_init 61 = .ok (.bipush 6, 2) := by decide +kernel
theorem dX7_init_63 : decode cX7_init 63 = .ok (.newarray .int, 2) := by decide +kernel
theorem dX7_init_65 : decode cX7_init 65 = .ok (.putfield 33, 3) := by decide +kernel
theorem dX7_init_68 : decode cX7_init 68 = .ok (.aload_n 0, 1) := by decide +kernel
theorem dX7_init_69 : decode cX7_init 69 = .ok (.bipush 6, 2) := by decide +kernel
theorem dX7_init_71 : decode cX7_init 71 = .ok (.newarray .int, 2) := by decide +kernel
theorem dX7_init_73 : decode cX7_init 73 = .ok (.putfield 36, 3) := by decide +kernel
theorem dX7_init_76 : decode cX7_init 76 = .ok (.aload_n 0, 1) := by decide +kernel
theorem dX7_init_77 : decode cX7_init 77 = .ok (.aload_n 1, 1) := by decide +kernel
theorem dX7_init_78 : decode cX7_init 78 = .ok (.putfield 39, 3) := by decide +kernel
theorem dX7_init_81 : decode cX7_init 81 = .ok (.iconst 0, 1) := by decide +kernel
theorem dX7_init_82 : decode cX7_init 82 = .ok (.istore_n 2, 1) := by decide +kernel
theorem dX7_init_83 : decode cX7_init 83 = .ok (.iload_n 2, 1) := by decide +kernel
theorem dX7_init_84 : decode cX7_init 84 = .ok (.bipush 6, 2) := by decide +kernel
theorem dX7_init_86 : decode cX7_init 86 = .ok (.if_icmp .ge 16, 3) := by decide +kernel
theorem dX7_init_89 : decode cX7_init 89 = .ok (.aload_n 0, 1) := by decide +kernel
theorem dX7_init_90 : decode cX7_init 90 = .ok (.getfield 36, 3) := by decide +kernel
theorem dX7_init_93 : decode cX7_init 93 = .ok (.iload_n 2, 1) := by decide +kernel
theorem dX7_init_94 : decode cX7_init 94 = .ok (.iconst (-1), 1) := by decide +kernel
theorem dX7_init_95 : decode cX7_init 95 = .ok (.iastore, 1) := by decide +kernel
theorem dX7_init_96 : decode cX7_init 96 = .ok (.iinc 2 1, 3) := by decide +kernel
theorem dX7_init_99 : decode cX7_init 99 = .ok (.goto (-16), 3) := by decide +kernel
theorem dX7_init_102 : decode cX7_init 102 = .ok (.return_, 1) := by decide +kernel
theorem dX7_become_0 : decode cX7_become 0 = .ok (.aload_n 0, 1) := by decide +kernel
theorem dX7_become_1 : decode cX7_become 1 = .ok (.aload_n 1, 1) := by decide +kernel
theorem dX7_become_2 : decode cX7_become 2 = .ok (.getfield 43, 3) := by decide +kernel
theorem dX7_become_5 : decode cX7_become 5 = .ok (.putfield 43, 3) := by decide +kernel
theorem dX7_become_8 : decode cX7_become 8 = .ok (.aload_n 0, 1) := by decide +kernel
theorem dX7_become_9 : decode cX7_become 9 = .ok (.aload_n 1, 1) := by decide +kernel
theorem dX7_become_10 : decode cX7_become 10 = .ok (.getfield 47, 3) := by decide +kernel
theorem dX7_become_13 : decode cX7_become 13 = .ok (.putfield 47, 3) := by decide +kernel
theorem dX7_become_16 : decode cX7_become 16 = .ok (.aload_n 0, 1) := by decide +kernel
theorem dX7_become_17 : decode cX7_become 17 = .ok (.aload_n 1, 1) := by decide +kernel
theorem dX7_become_18 : decode cX7_become 18 = .ok (.getfield 50, 3) := by decide +kernel
theorem dX7_become_21 : decode cX7_become 21 = .ok (.putfield 50, 3) := by decide +kernel
theorem dX7_become_24 : decode cX7_become 24 = .ok (.aload_n 1, 1) := by decide +kernel
theorem dX7_become_25 : decode cX7_become 25 = .ok (.getfield 9, 3) := by decide +kernel
theorem dX7_become_28 : decode cX7_become 28 = .ok (.iconst 0, 1) := by decide +kernel
theorem dX7_become_29 : decode cX7_become 29 = .ok (.aload_n 0, 1) := by decide +kernel
theorem dX7_become_30 : decode cX7_become 30 = .ok (.getfield 9, 3) := by decide +kernel
theorem dX7_become_33 : decode cX7_become 33 = .ok (.iconst 0, 1) := by decide +kernel
theorem dX7_become_34 : decode cX7_become 34 = .ok (.bipush 8, 2) := by decide +kernel
theorem dX7_become_36 : decode cX7_become 36 = .ok (.invokestatic 53, 3) := by decide +kernel
theorem dX7_become_39 : decode cX7_become 39 = .ok (.aload_n 1, 1) := by decide +kernel
theorem dX7_become_40 : decode cX7_become 40 = .ok (.getfield 15, 3) := by decide +kernel
theorem dX7_become_43 : decode cX7_become 43 = .ok (.iconst 0, 1) := by decide +kernel
theorem dX7_become_44 : decode cX7_become 44 = .ok (.aload_n 0, 1) := by decide +kernel
theorem dX7_become_45 : decode cX7_become 45 = .ok (.getfield 15, 3) := by decide +kernel
theorem dX7_become_48 : decode cX7_become 48 = .ok (.iconst 0, 1) := by decide +kernel
theorem dX7_become_49 : decode cX7_become 49 = .ok (.bipush 8, 2) := by decide +kernel
theorem dX7_become_51 : decode cX7_become 51 = .ok (.invokestatic 53, 3) := by decide +kernel
theorem dX7_become_54 : decode cX7_become 54 = .ok (.aload_n 1, 1) := by decide +kernel
theorem dX7_become_55 : decode cX7_become 55 = .ok (.getfield 18, 3) := by decide +kernel
theorem dX7_become_58 : decode cX7_become 58 = .ok (.iconst 0, 1) := by decide +kernel
theorem dX7_become_59 : decode cX7_become 59 = .ok (.aload_n 0, 1) := by decide +kernel
theorem dX7_become_60 : decode cX7_become 60 = .ok (.getfield 18, 3) := by decide +kernel
theorem dX7_become_63 : decode cX7_become 63 = .ok (.iconst 0, 1) := by decide +kernel
theorem dX7_become_64 : decode cX7_become 64 = .ok (.bipush 8, 2) := by decide +kernel
theorem dX7_become_66 : decode cX7_become 66 = .ok (.invokestatic 53, 3) := by decide +kernel
theorem dX7_become_69 : decode cX7_become 69 = .ok (.aload_n 1, 1) := by decide +kernel
theorem dX7_become_70 : decode cX7_become 70 = .ok (.getfield 21, 3) := by decide +kernel
theorem dX7_become_73 : decode cX7_become 73 = .ok (.iconst 0, 1) := by decide +kernel
theorem dX7_become_74 : decode cX7_become 74 = .ok (.aload_n 0, 1) := by decide +kernel
theorem dX7_become_75 : decode cX7_become 75 = .ok (.getfield 21, 3) := by decide +kernel
theorem dX7_become_78 : decode cX7_become 78 = .ok (.iconst 0, 1) := by decide +kernel
theorem dX7_become_79 : decode cX7_become 79 = .ok (.bipush 8, 2) := by decide +kernel
theorem dX7_become_81 : decode cX7_become 81 = .ok (.invokestatic 53, 3) := by decide +kernel
theorem dX7_become_84 : decode cX7_become 84 = .ok (.aload_n 1, 1) := by decide +kernel
theorem dX7_become_85 : decode cX7_become 85 = .ok (.getfield 24, 3) := by decide +kernel
theorem dX7_become_88 : decode cX7_become 88 = .ok (.iconst 0, 1) := by decide +kernel
theorem dX7_become_89 : decode cX7_become 89 = .ok (.aload_n 0, 1) := by decide +kernel
theorem dX7_become_90 : decode cX7_become 90 = .ok (.getfield 24, 3) := by decide +kernel
theorem dX7_become_93 : decode cX7_become 93 = .ok (.iconst 0, 1) := by decide +kernel
theorem dX7_become_94 : decode cX7_become 94 = .ok (.bipush 6, 2) := by decide +kernel
theorem dX7_become_96 : decode cX7_become 96 = .ok (.invokestatic 53, 3) := by decide +kernel
theorem dX7_become_99 : decode cX7_become 99 = .ok (.aload_n 1, 1) := by decide +kernel
theorem dX7_become_100 : decode cX7_become 100 = .ok (.getfield 27, 3) := by decide +kernel
theorem dX7_become_103 : decode cX7_become 103 = .ok (.iconst 0, 1) := by decide +kernel
theorem dX7_become_104 : decode cX7_become 104 = .ok (.aload_n 0, 1) := by decide +kernel
theorem dX7_become_105 : decode cX7_become 105 = .ok (.getfield 27, 3) := by decide +kernel
theorem dX7_become_108 : decode cX7_become 108 = .ok (.iconst 0, 1) := by decide +kernel
theorem dX7_become_109 : decode cX7_become 109 = .ok (.bipush 6, 2) := by decide +kernel
theorem dX7_become_111 : decode cX7_become 111 = .ok (.invokestatic 53, 3) := by decide +kernel
theorem dX7_become_114 : decode cX7_become 114 = .ok (.aload_n 1, 1) := by decide +kernel
theorem dX7_become_115 : decode cX7_become 115 = .ok (.getfield 30, 3) := by decide +kernel
theorem dX7_become_118 : decode cX7_become 118 = .ok (.iconst 0, 1) := by decide +kernel
theorem dX7_become_119 : decode cX7_become 119 = .ok (.aload_n 0, 1) := by decide +kernel
theorem dX7_become_120 : decode cX7_become 120 = .ok (.getfield 30, 3) := by decide +kernel
theorem dX7_become_123 : decode cX7_become 123 = .ok (.iconst 0, 1) := by decide +kernel
theorem dX7_become_124 : decode cX7_become 124 = .ok (.bipush 6, 2) := by decide +kernel
theorem dX7_become_126 : decode cX7_become 126 = .ok (.invokestatic 53, 3) := by decide +kernel
theorem dX7_become_129 : decode cX7_become 129 = .ok (.aload_n 1, 1) := by decide +kernel
theorem dX7_become_130 : decode cX7_become 130 = .ok (.getfield 33, 3) := by decide +kernel
theorem dX7_become_133 : decode cX7_become 133 = .ok (.iconst 0, 1) := by decide +kernel
theorem dX7_become_134 : decode cX7_become 134 = .ok (.aload_n 0, 1) := by decide +kernel
theorem dX7_become_135 : decode cX7_become 135 = .ok (.getfield 33, 3) := by decide +kernel
theorem dX7_become_138 : decode cX7_become 138 = .ok (.iconst 0, 1) := by decide +kernel
theorem dX7_become_139 : decode cX7_become 139 = .ok (.bipush 6, 2) := by decide +kernel
theorem dX7_become_141 : decode cX7_become 141 = .ok (.invokestatic 53, 3) := by decide +kernel
theorem dX7_become_144 : decode cX7_become 144 = .ok (.aload_n 1, 1) := by decide +kernel
theorem dX7_become_145 : decode cX7_become 145 = .ok (.getfield 36, 3) := by decide +kernel
theorem dX7_become_148 : decode cX7_become 148 = .ok (.iconst 0, 1) := by decide +kernel
theorem dX7_become_149 : decode cX7_become 149 = .ok (.aload_n 0, 1) := by decide +kernel
theorem dX7_become_150 : decode cX7_become 150 = .ok (.getfield 36, 3) := by decide +kernel
theorem dX7_become_153 : decode cX7_become 153 = .ok (.iconst 0, 1) := by decide +kernel
theorem dX7_become_154 : decode cX7_become 154 = .ok (.bipush 6, 2) := by decide +kernel
theorem dX7_become_156 : decode cX7_become 156 = .ok (.invokestatic 53, 3) := by decide +kernel
theorem dX7_become_159 : decode cX7_become 159 = .ok (.return_, 1) := by decide +kernel
theorem dX7_addBeard_0 : decode cX7_addBeard 0 = .ok (.aload_n 0, 1) := by decide +kernel
theorem dX7_addBeard_1 : decode cX7_addBeard 1 = .ok (.getfield 47, 3) := by decide +kernel
theorem dX7_addBeard_4 : decode cX7_addBeard 4 = .ok (.bipush 8, 2) := by decide +kernel
theorem dX7_addBeard_6 : decode cX7_addBeard 6 = .ok (.if_icmp .lt 5, 3) := by decide +kernel
theorem dX7_addBeard_9 : decode cX7_addBeard 9 = .ok (.iconst (-1), 1) := by decide +kernel
theorem dX7_addBeard_10 : decode cX7_addBeard 10 = .ok (.ireturn, 1) := by decide +kernel
theorem dX7_addBeard_11 : decode cX7_addBeard 11 = .ok (.aload_n 0, 1) := by decide +kernel
theorem dX7_addBeard_12 : decode cX7_addBeard 12 = .ok (.getfield 47, 3) := by decide +kernel
theorem dX7_addBeard_15 : decode cX7_addBeard 15 = .ok (.istore_n 2, 1) := by decide +kernel
theorem dX7_addBeard_16 : decode cX7_addBeard 16 = .ok (.aload_n 0, 1) := by decide +kernel
theorem dX7_addBeard_17 : decode cX7_addBeard 17 = .ok (.dup, 1) := by decide +kernel
theorem dX7_addBeard_18 : decode cX7_addBeard 18 = .ok (.getfield 47, 3) := by decide +kernel
theorem dX7_addBeard_21 : decode cX7_addBeard 21 = .ok (.iconst 1, 1) := by decide +kernel
theorem dX7_addBeard_22 : decode cX7_addBeard 22 = .ok (.iadd, 1) := by decide +kernel
theorem dX7_addBeard_23 : decode cX7_addBeard 23 = .ok (.putfield 47, 3) := by decide +kernel
theorem dX7_addBeard_26 : decode cX7_addBeard 26 = .ok (.aload_n 0, 1) := by decide +kernel
theorem dX7_addBeard_27 : decode cX7_addBeard 27 = .ok (.getfield 9, 3) := by decide +kernel
theorem dX7_addBeard_30 : decode cX7_addBeard 30 = .ok (.iload_n 2, 1) := by decide +kernel
theorem dX7_addBeard_31 : decode cX7_addBeard 31 = .ok (.iload_n 1, 1) := by decide +kernel
theorem dX7_addBeard_32 : decode cX7_addBeard 32 = .ok (.iastore, 1) := by decide +kernel
theorem dX7_addBeard_33 : decode cX7_addBeard 33 = .ok (.aload_n 0, 1) := by decide +kernel
theorem dX7_addBeard_34 : decode cX7_addBeard 34 = .ok (.getfield 15, 3) := by decide +kernel
theorem dX7_addBeard_37 : decode cX7_addBeard 37 = .ok (.iload_n 2, 1) := by decide +kernel
theorem dX7_addBeard_38 : decode cX7_addBeard 38 = .ok (.bipush 10, 2) := by decide +kernel
theorem dX7_addBeard_40 : decode cX7_addBeard 40 = .ok (.iastore, 1) := by decide +kernel
theorem dX7_addBeard_41 : decode cX7_addBeard 41 = .ok (.aload_n 0, 1) := by decide +kernel
theorem dX7_addBeard_42 : decode cX7_addBeard 42 = .ok (.getfield 18, 3) := by decide +kernel
theorem dX7_addBeard_45 : decode cX7_addBeard 45 = .ok (.iload_n 2, 1) := by decide +kernel
theorem dX7_addBeard_46 : decode cX7_addBeard 46 = .ok (.iconst 0, 1) := by decide +kernel
theorem dX7_addBeard_47 : decode cX7_addBeard 47 = .ok (.iastore, 1) := by decide +kernel
theorem dX7_addBeard_48 : decode cX7_addBeard 48 = .ok (.aload_n 0, 1) := by decide +kernel
theorem dX7_addBeard_49 : decode cX7_addBeard 49 = .ok (.getfield 21, 3) := by decide +kernel
theorem dX7_addBeard_52 : decode cX7_addBeard 52 = .ok (.iload_n 2, 1) := by decide +kernel
theorem dX7_addBeard_53 : decode cX7_addBeard 53 = .ok (.iconst (-1), 1) := by decide +kernel
theorem dX7_addBeard_54 : decode cX7_addBeard 54 = .ok (.iastore, 1) := by decide +kernel
theorem dX7_addBeard_55 : decode cX7_addBeard 55 = .ok (.iload_n 2, 1) := by decide +kernel
theorem dX7_addBeard_56 : decode cX7_addBeard 56 = .ok (.ireturn, 1) := by decide +kernel
theorem dX7_addWearer_0 : decode cX7_addWearer 0 = .ok (.aload_n 0, 1) := by decide +kernel
theorem dX7_addWearer_1 : decode cX7_addWearer 1 = .ok (.getfield 50, 3) := by decide +kernel
theorem dX7_addWearer_4 : decode cX7_addWearer 4 = .ok (.bipush 6, 2) := by decide +kernel
theorem dX7_addWearer_6 : decode cX7_addWearer 6 = .ok (.if_icmp .lt 5, 3) := by decide +kernel
theorem dX7_addWearer_9 : decode cX7_addWearer 9 = .ok (.iconst (-1), 1) := by decide +kernel
theorem dX7_addWearer_10 : decode cX7_addWearer 10 = .ok (.ireturn, 1) := by decide +kernel
theorem dX7_addWearer_11 : decode cX7_addWearer 11 = .ok (.aload_n 0, 1) := by decide +kernel
theorem dX7_addWearer_12 : decode cX7_addWearer 12 = .ok (.getfield 50, 3) := by decide +kernel
theorem dX7_addWearer_15 : decode cX7_addWearer 15 = .ok (.istore_n 2, 1) := by decide +kernel
theorem dX7_addWearer_16 : decode cX7_addWearer 16 = .ok (.aload_n 0, 1) := by decide +kernel
theorem dX7_addWearer_17 : decode cX7_addWearer 17 = .ok (.dup, 1) := by decide +kernel
theorem dX7_addWearer_18 : decode cX7_addWearer 18 = .ok (.getfield 50, 3) := by decide +kernel
theorem dX7_addWearer_21 : decode cX7_addWearer 21 = .ok (.iconst 1, 1) := by decide +kernel
theorem dX7_addWearer_22 : decode cX7_addWearer 22 = .ok (.iadd, 1) := by decide +kernel
theorem dX7_addWearer_23 : decode cX7_addWearer 23 = .ok (.putfield 50, 3) := by decide +kernel
theorem dX7_addWearer_26 : decode cX7_addWearer 26 = .ok (.aload_n 0, 1) := by decide +kernel
theorem dX7_addWearer_27 : decode cX7_addWearer 27 = .ok (.getfield 24, 3) := by decide +kernel
theorem dX7_addWearer_30 : decode cX7_addWearer 30 = .ok (.iload_n 2, 1) := by decide +kernel
theorem dX7_addWearer_31 : decode cX7_addWearer 31 = .ok (.iload_n 1, 1) := by decide +kernel
theorem dX7_addWearer_32 : decode cX7_addWearer 32 = .ok (.iastore, 1) := by decide +kernel
theorem dX7_addWearer_33 : decode cX7_addWearer 33 = .ok (.aload_n 0, 1) := by decide +kernel
theorem dX7_addWearer_34 : decode cX7_addWearer 34 = .ok (.getfield 27, 3) := by decide +kernel
theorem dX7_addWearer_37 : decode cX7_addWearer 37 = .ok (.iload_n 2, 1) := by decide +kernel
theorem dX7_addWearer_38 : decode cX7_addWearer 38 = .ok (.iload_n 2, 1) := by decide +kernel
theorem dX7_addWearer_39 : decode cX7_addWearer 39 = .ok (.iastore, 1) := by decide +kernel
theorem dX7_addWearer_40 : decode cX7_addWearer 40 = .ok (.aload_n 0, 1) := by decide +kernel
theorem dX7_addWearer_41 : decode cX7_addWearer 41 = .ok (.getfield 30, 3) := by decide +kernel
theorem dX7_addWearer_44 : decode cX7_addWearer 44 = .ok (.iload_n 2, 1) := by decide +kernel
theorem dX7_addWearer_45 : decode cX7_addWearer 45 = .ok (.iconst (-1), 1) := by decide +kernel
theorem dX7_addWearer_46 : decode cX7_addWearer 46 = .ok (.iastore, 1) := by decide +kernel
theorem dX7_addWearer_47 : decode cX7_addWearer 47 = .ok (.iload_n 2, 1) := by decide +kernel
theorem dX7_addWearer_48 : decode cX7_addWearer 48 = .ok (.ireturn, 1) := by decide +kernel
theorem dX7_putOn_0 : decode cX7_putOn 0 = .ok (.aload_n 0, 1) := by decide +kernel
theorem dX7_putOn_1 : decode cX7_putOn 1 = .ok (.getfield 30, 3) := by decide +kernel
theorem dX7_putOn_4 : decode cX7_putOn 4 = .ok (.iload_n 1, 1) := by decide +kernel
theorem dX7_putOn_5 : decode cX7_putOn 5 = .ok (.iload_n 2, 1) := by decide +kernel
theorem dX7_putOn_6 : decode cX7_putOn 6 = .ok (.iastore, 1) := by decide +kernel
theorem dX7_putOn_7 : decode cX7_putOn 7 = .ok (.aload_n 0, 1) := by decide +kernel
theorem dX7_putOn_8 : decode cX7_putOn 8 = .ok (.getfield 21, 3) := by decide +kernel
theorem dX7_putOn_11 : decode cX7_putOn 11 = .ok (.iload_n 2, 1) := by decide +kernel
theorem dX7_putOn_12 : decode cX7_putOn 12 = .ok (.iload_n 1, 1) := by decide +kernel
theorem dX7_putOn_13 : decode cX7_putOn 13 = .ok (.iastore, 1) := by decide +kernel
theorem dX7_putOn_14 : decode cX7_putOn 14 = .ok (.return_, 1) := by decide +kernel
theorem dX7_takeOff_0 : decode cX7_takeOff 0 = .ok (.aload_n 0, 1) := by decide +kernel
theorem dX7_takeOff_1 : decode cX7_takeOff 1 = .ok (.getfield 30, 3) := by decide +kernel
theorem dX7_takeOff_4 : decode cX7_takeOff 4 = .ok (.iload_n 1, 1) := by decide +kernel
theorem dX7_takeOff_5 : decode cX7_takeOff 5 = .ok (.iconst (-1), 1) := by decide +kernel
theorem dX7_takeOff_6 : decode cX7_takeOff 6 = .ok (.iastore, 1) := by decide +kernel
theorem dX7_takeOff_7 : decode cX7_takeOff 7 = .ok (.aload_n 0, 1) := by decide +kernel
theorem dX7_takeOff_8 : decode cX7_takeOff 8 = .ok (.getfield 21, 3) := by decide +kernel
theorem dX7_takeOff_11 : decode cX7_takeOff 11 = .ok (.iload_n 2, 1) := by decide +kernel
theorem dX7_takeOff_12 : decode cX7_takeOff 12 = .ok (.iconst (-1), 1) := by decide +kernel
theorem dX7_takeOff_13 : decode cX7_takeOff 13 = .ok (.iastore, 1) := by decide +kernel
theorem dX7_takeOff_14 : decode cX7_takeOff 14 = .ok (.return_, 1) := by decide +kernel
theorem dX7_isMonday_0 : decode cX7_isMonday 0 = .ok (.aload_n 0, 1) := by decide +kernel
theorem dX7_isMonday_1 : decode cX7_isMonday 1 = .ok (.getfield 43, 3) := by decide +kernel
theorem dX7_isMonday_4 : decode cX7_isMonday 4 = .ok (.bipush 7, 2) := by decide +kernel
theorem dX7_isMonday_6 : decode cX7_isMonday 6 = .ok (.irem, 1) := by decide +kernel
theorem dX7_isMonday_7 : decode cX7_isMonday 7 = .ok (.ifCond .ne 7, 3) := by decide +kernel
theorem dX7_isMonday_10 : decode cX7_isMonday 10 = .ok (.iconst 1, 1) := by decide +kernel
theorem dX7_isMonday_11 : decode cX7_isMonday 11 = .ok (.goto 4, 3) := by decide +kernel
theorem dX7_isMonday_14 : decode cX7_isMonday 14 = .ok (.iconst 0, 1) := by decide +kernel
theorem dX7_isMonday_15 : decode cX7_isMonday 15 = .ok (.ireturn, 1) := by decide +kernel
theorem dX7_houseTonight_0 : decode cX7_houseTonight 0 = .ok (.aload_n 0, 1) := by decide +kernel
theorem dX7_houseTonight_1 : decode cX7_houseTonight 1 = .ok (.getfield 43, 3) := by decide +kernel
theorem dX7_houseTonight_4 : decode cX7_houseTonight 4 = .ok (.aload_n 0, 1) := by decide +kernel
theorem dX7_houseTonight_5 : decode cX7_houseTonight 5 = .ok (.getfield 27, 3) := by decide +kernel
theorem dX7_houseTonight_8 : decode cX7_houseTonight 8 = .ok (.iload_n 1, 1) := by decide +kernel
theorem dX7_houseTonight_9 : decode cX7_houseTonight 9 = .ok (.iaload, 1) := by decide +kernel
theorem dX7_houseTonight_10 : decode cX7_houseTonight 10 = .ok (.iadd, 1) := by decide +kernel
theorem dX7_houseTonight_11 : decode cX7_houseTonight 11 = .ok (.bipush 6, 2) := by decide +kernel
theorem dX7_houseTonight_13 : decode cX7_houseTonight 13 = .ok (.irem, 1) := by decide +kernel
theorem dX7_houseTonight_14 : decode cX7_houseTonight 14 = .ok (.ireturn, 1) := by decide +kernel
theorem dX7_costOf_0 : decode cX7_costOf 0 = .ok (.aload_n 0, 1) := by decide +kernel
theorem dX7_costOf_1 : decode cX7_costOf 1 = .ok (.getfield 39, 3) := by decide +kernel
theorem dX7_costOf_4 : decode cX7_costOf 4 = .ok (.aload_n 0, 1) := by decide +kernel
theorem dX7_costOf_5 : decode cX7_costOf 5 = .ok (.getfield 9, 3) := by decide +kernel
theorem dX7_costOf_8 : decode cX7_costOf 8 = .ok (.iload_n 1, 1) := by decide +kernel
theorem dX7_costOf_9 : decode cX7_costOf 9 = .ok (.iaload, 1) := by decide +kernel
theorem dX7_costOf_10 : decode cX7_costOf 10 = .ok (.aaload, 1) := by decide +kernel
theorem dX7_costOf_11 : decode cX7_costOf 11 = .ok (.aload_n 0, 1) := by decide +kernel
theorem dX7_costOf_12 : decode cX7_costOf 12 = .ok (.getfield 15, 3) := by decide +kernel
theorem dX7_costOf_15 : decode cX7_costOf 15 = .ok (.iload_n 1, 1) := by decide +kernel
theorem dX7_costOf_16 : decode cX7_costOf 16 = .ok (.iaload, 1) := by decide +kernel
theorem dX7_costOf_17 : decode cX7_costOf 17 = .ok (.aload_n 0, 1) := by decide +kernel
theorem dX7_costOf_18 : decode cX7_costOf 18 = .ok (.getfield 18, 3) := by decide +kernel
theorem dX7_costOf_21 : decode cX7_costOf 21 = .ok (.iload_n 1, 1) := by decide +kernel
theorem dX7_costOf_22 : decode cX7_costOf 22 = .ok (.iaload, 1) := by decide +kernel
theorem dX7_costOf_23 : decode cX7_costOf 23 = .ok (.invokevirtual 59, 3) := by decide +kernel
theorem dX7_costOf_26 : decode cX7_costOf 26 = .ok (.ireturn, 1) := by decide +kernel
theorem dX7_meetingAt_0 : decode cX7_meetingAt 0 = .ok (.aload_n 0, 1) := by decide +kernel
theorem dX7_meetingAt_1 : decode cX7_meetingAt 1 = .ok (.getfield 39, 3) := by decide +kernel
theorem dX7_meetingAt_4 : decode cX7_meetingAt 4 = .ok (.aload_n 0, 1) := by decide +kernel
theorem dX7_meetingAt_5 : decode cX7_meetingAt 5 = .ok (.getfield 9, 3) := by decide +kernel
theorem dX7_meetingAt_8 : decode cX7_meetingAt 8 = .ok (.iload_n 1, 1) := by decide +kernel
theorem dX7_meetingAt_9 : decode cX7_meetingAt 9 = .ok (.iaload, 1) := by decide +kernel
theorem dX7_meetingAt_10 : decode cX7_meetingAt 10 = .ok (.aaload, 1) := by decide +kernel
theorem dX7_meetingAt_11 : decode cX7_meetingAt 11 = .ok (.aload_n 0, 1) := by decide +kernel
theorem dX7_meetingAt_12 : decode cX7_meetingAt 12 = .ok (.getfield 33, 3) := by decide +kernel
theorem dX7_meetingAt_15 : decode cX7_meetingAt 15 = .ok (.iload_n 2, 1) := by decide +kernel
theorem dX7_meetingAt_16 : decode cX7_meetingAt 16 = .ok (.iaload, 1) := by decide +kernel
theorem dX7_meetingAt_17 : decode cX7_meetingAt 17 = .ok (.aload_n 0, 1) := by decide +kernel
theorem dX7_meetingAt_18 : decode cX7_meetingAt 18 = .ok (.getfield 36, 3) := by decide +kernel
theorem dX7_meetingAt_21 : decode cX7_meetingAt 21 = .ok (.iload_n 2, 1) := by decide +kernel
theorem dX7_meetingAt_22 : decode cX7_meetingAt 22 = .ok (.iaload, 1) := by decide +kernel
theorem dX7_meetingAt_23 : decode cX7_meetingAt 23 = .ok (.iload_n 1, 1) := by decide +kernel
theorem dX7_meetingAt_24 : decode cX7_meetingAt 24 = .ok (.if_icmp .ne 7, 3) := by decide +kernel
theorem dX7_meetingAt_27 : decode cX7_meetingAt 27 = .ok (.iconst 1, 1) := by decide +kernel
theorem dX7_meetingAt_28 : decode cX7_meetingAt 28 = .ok (.goto 4, 3) := by decide +kernel
theorem dX7_meetingAt_31 : decode cX7_meetingAt 31 = .ok (.iconst 0, 1) := by decide +kernel
theorem dX7_meetingAt_32 : decode cX7_meetingAt 32 = .ok (.aload_n 0, 1) := by decide +kernel
theorem dX7_meetingAt_33 : decode cX7_meetingAt 33 = .ok (.getfield 15, 3) := by decide +kernel
theorem dX7_meetingAt_36 : decode cX7_meetingAt 36 = .ok (.iload_n 1, 1) := by decide +kernel
theorem dX7_meetingAt_37 : decode cX7_meetingAt 37 = .ok (.iaload, 1) := by decide +kernel
theorem dX7_meetingAt_38 : decode cX7_meetingAt 38 = .ok (.invokevirtual 65, 3) := by decide +kernel
theorem dX7_meetingAt_41 : decode cX7_meetingAt 41 = .ok (.ireturn, 1) := by decide +kernel
theorem dX7_leavingOf_0 : decode cX7_leavingOf 0 = .ok (.aload_n 0, 1) := by decide +kernel
theorem dX7_leavingOf_1 : decode cX7_leavingOf 1 = .ok (.getfield 39, 3) := by decide +kernel
theorem dX7_leavingOf_4 : decode cX7_leavingOf 4 = .ok (.aload_n 0, 1) := by decide +kernel
theorem dX7_leavingOf_5 : decode cX7_leavingOf 5 = .ok (.getfield 9, 3) := by decide +kernel
theorem dX7_leavingOf_8 : decode cX7_leavingOf 8 = .ok (.iload_n 1, 1) := by decide +kernel
theorem dX7_leavingOf_9 : decode cX7_leavingOf 9 = .ok (.iaload, 1) := by decide +kernel
theorem dX7_leavingOf_10 : decode cX7_leavingOf 10 = .ok (.aaload, 1) := by decide +kernel
theorem dX7_leavingOf_11 : decode cX7_leavingOf 11 = .ok (.aload_n 0, 1) := by decide +kernel
theorem dX7_leavingOf_12 : decode cX7_leavingOf 12 = .ok (.getfield 15, 3) := by decide +kernel
theorem dX7_leavingOf_15 : decode cX7_leavingOf 15 = .ok (.iload_n 1, 1) := by decide +kernel
theorem dX7_leavingOf_16 : decode cX7_leavingOf 16 = .ok (.iaload, 1) := by decide +kernel
theorem dX7_leavingOf_17 : decode cX7_leavingOf 17 = .ok (.invokevirtual 69, 3) := by decide +kernel
theorem dX7_leavingOf_20 : decode cX7_leavingOf 20 = .ok (.ireturn, 1) := by decide +kernel
theorem dX7_gainOf_0 : decode cX7_gainOf 0 = .ok (.aload_n 0, 1) := by decide +kernel
theorem dX7_gainOf_1 : decode cX7_gainOf 1 = .ok (.getfield 39, 3) := by decide +kernel
theorem dX7_gainOf_4 : decode cX7_gainOf 4 = .ok (.aload_n 0, 1) := by decide +kernel
theorem dX7_gainOf_5 : decode cX7_gainOf 5 = .ok (.getfield 9, 3) := by decide +kernel
theorem dX7_gainOf_8 : decode cX7_gainOf 8 = .ok (.iload_n 1, 1) := by decide +kernel
theorem dX7_gainOf_9 : decode cX7_gainOf 9 = .ok (.iaload, 1) := by decide +kernel
theorem dX7_gainOf_10 : decode cX7_gainOf 10 = .ok (.aaload, 1) := by decide +kernel
theorem dX7_gainOf_11 : decode cX7_gainOf 11 = .ok (.aload_n 0, 1) := by decide +kernel
theorem dX7_gainOf_12 : decode cX7_gainOf 12 = .ok (.invokevirtual 73, 3) := by decide +kernel
theorem dX7_gainOf_15 : decode cX7_gainOf 15 = .ok (.invokevirtual 77, 3) := by decide +kernel
theorem dX7_gainOf_18 : decode cX7_gainOf 18 = .ok (.ireturn, 1) := by decide +kernel
theorem dX7_passNights_0 : decode cX7_passNights 0 = .ok (.iconst 0, 1) := by decide +kernel
theorem dX7_passNights_1 : decode cX7_passNights 1 = .ok (.istore_n 2, 1) := by decide +kernel
theorem dX7_passNights_2 : decode cX7_passNights 2 = .ok (.iload_n 2, 1) := by decide +kernel
theorem dX7_passNights_3 : decode cX7_passNights 3 = .ok (.iload_n 1, 1) := by decide +kernel
theorem dX7_passNights_4 : decode cX7_passNights 4 = .ok (.if_icmp .ge 13, 3) := by decide +kernel
theorem dX7_passNights_7 : decode cX7_passNights 7 = .ok (.aload_n 0, 1) := by decide +kernel
theorem dX7_passNights_8 : decode cX7_passNights 8 = .ok (.invokevirtual 81, 3) := by decide +kernel
theorem dX7_passNights_11 : decode cX7_passNights 11 = .ok (.iinc 2 1, 3) := by decide +kernel
theorem dX7_passNights_14 : decode cX7_passNights 14 = .ok (.goto (-12), 3) := by decide +kernel
theorem dX7_passNights_17 : decode cX7_passNights 17 = .ok (.return_, 1) := by decide +kernel
theorem dX7_passNightsOfWearer_0 : decode cX7_passNightsOfWearer 0 = .ok (.iconst 0, 1) := by decide +kernel
theorem dX7_passNightsOfWearer_1 : decode cX7_passNightsOfWearer 1 = .ok (.istore_n 3, 1) := by decide +kernel
theorem dX7_passNightsOfWearer_2 : decode cX7_passNightsOfWearer 2 = .ok (.iload_n 3, 1) := by decide +kernel
theorem dX7_passNightsOfWearer_3 : decode cX7_passNightsOfWearer 3 = .ok (.iload_n 2, 1) := by decide +kernel
theorem dX7_passNightsOfWearer_4 : decode cX7_passNightsOfWearer 4 = .ok (.if_icmp .ge 23, 3) := by decide +kernel
theorem dX7_passNightsOfWearer_7 : decode cX7_passNightsOfWearer 7 = .ok (.aload_n 0, 1) := by decide +kernel
theorem dX7_passNightsOfWearer_8 : decode cX7_passNightsOfWearer 8 = .ok (.getfield 30, 3) := by decide +kernel
theorem dX7_passNightsOfWearer_11 : decode cX7_passNightsOfWearer 11 = .ok (.iload_n 1, 1) := by decide +kernel
theorem dX7_passNightsOfWearer_12 : decode cX7_passNightsOfWearer 12 = .ok (.iaload, 1) := by decide +kernel
theorem dX7_passNightsOfWearer_13 : decode cX7_passNightsOfWearer 13 = .ok (.iconst (-1), 1) := by decide +kernel
theorem dX7_passNightsOfWearer_14 : decode cX7_passNightsOfWearer 14 = .ok (.if_icmp .eq 13, 3) := by decide +kernel
theorem dX7_passNightsOfWearer_17 : decode cX7_passNightsOfWearer 17 = .ok (.aload_n 0, 1) := by decide +kernel
theorem dX7_passNightsOfWearer_18 : decode cX7_passNightsOfWearer 18 = .ok (.invokevirtual 81, 3) := by decide +kernel
theorem dX7_passNightsOfWearer_21 : decode cX7_passNightsOfWearer 21 = .ok (.iinc 3 1, 3) := by decide +kernel
theorem dX7_passNightsOfWearer_24 : decode cX7_passNightsOfWearer 24 = .ok (.goto (-22), 3) := by decide +kernel
theorem dX7_passNightsOfWearer_27 : decode cX7_passNightsOfWearer 27 = .ok (.return_, 1) := by decide +kernel
theorem dX7_passNight_0 : decode cX7_passNight 0 = .ok (.iconst 0, 1) := by decide +kernel
theorem dX7_passNight_1 : decode cX7_passNight 1 = .ok (.istore_n 1, 1) := by decide +kernel
theorem dX7_passNight_2 : decode cX7_passNight 2 = .ok (.iload_n 1, 1) := by decide +kernel
theorem dX7_passNight_3 : decode cX7_passNight 3 = .ok (.aload_n 0, 1) := by decide +kernel
theorem dX7_passNight_4 : decode cX7_passNight 4 = .ok (.getfield 50, 3) := by decide +kernel
theorem dX7_passNight_7 : decode cX7_passNight 7 = .ok (.if_icmp .ge 30, 3) := by decide +kernel
theorem dX7_passNight_10 : decode cX7_passNight 10 = .ok (.aload_n 0, 1) := by decide +kernel
theorem dX7_passNight_11 : decode cX7_passNight 11 = .ok (.getfield 30, 3) := by decide +kernel
theorem dX7_passNight_14 : decode cX7_passNight 14 = .ok (.iload_n 1, 1) := by decide +kernel
theorem dX7_passNight_15 : decode cX7_passNight 15 = .ok (.iaload, 1) := by decide +kernel
theorem dX7_passNight_16 : decode cX7_passNight 16 = .ok (.iconst (-1), 1) := by decide +kernel
theorem dX7_passNight_17 : decode cX7_passNight 17 = .ok (.if_icmp .eq 14, 3) := by decide +kernel
theorem dX7_passNight_20 : decode cX7_passNight 20 = .ok (.aload_n 0, 1) := by decide +kernel
theorem dX7_passNight_21 : decode cX7_passNight 21 = .ok (.iload_n 1, 1) := by decide +kernel
theorem dX7_passNight_22 : decode cX7_passNight 22 = .ok (.aload_n 0, 1) := by decide +kernel
theorem dX7_passNight_23 : decode cX7_passNight 23 = .ok (.getfield 30, 3) := by decide +kernel
theorem dX7_passNight_26 : decode cX7_passNight 26 = .ok (.iload_n 1, 1) := by decide +kernel
theorem dX7_passNight_27 : decode cX7_passNight 27 = .ok (.iaload, 1) := by decide +kernel
theorem dX7_passNight_28 : decode cX7_passNight 28 = .ok (.invokevirtual 84, 3) := by decide +kernel
theorem dX7_passNight_31 : decode cX7_passNight 31 = .ok (.iinc 1 1, 3) := by decide +kernel
theorem dX7_passNight_34 : decode cX7_passNight 34 = .ok (.goto (-32), 3) := by decide +kernel
theorem dX7_passNight_37 : decode cX7_passNight 37 = .ok (.aload_n 0, 1) := by decide +kernel
theorem dX7_passNight_38 : decode cX7_passNight 38 = .ok (.invokevirtual 73, 3) := by decide +kernel
theorem dX7_passNight_41 : decode cX7_passNight 41 = .ok (.ifCond .eq 7, 3) := by decide +kernel
theorem dX7_passNight_44 : decode cX7_passNight 44 = .ok (.aload_n 0, 1) := by decide +kernel
theorem dX7_passNight_45 : decode cX7_passNight 45 = .ok (.invokevirtual 88, 3) := by decide +kernel
theorem dX7_passNight_48 : decode cX7_passNight 48 = .ok (.aload_n 0, 1) := by decide +kernel
theorem dX7_passNight_49 : decode cX7_passNight 49 = .ok (.dup, 1) := by decide +kernel
theorem dX7_passNight_50 : decode cX7_passNight 50 = .ok (.getfield 43, 3) := by decide +kernel
theorem dX7_passNight_53 : decode cX7_passNight 53 = .ok (.iconst 1, 1) := by decide +kernel
theorem dX7_passNight_54 : decode cX7_passNight 54 = .ok (.iadd, 1) := by decide +kernel
theorem dX7_passNight_55 : decode cX7_passNight 55 = .ok (.putfield 43, 3) := by decide +kernel
theorem dX7_passNight_58 : decode cX7_passNight 58 = .ok (.return_, 1) := by decide +kernel
theorem dX7_spendNight_0 : decode cX7_spendNight 0 = .ok (.aload_n 0, 1) := by decide +kernel
theorem dX7_spendNight_1 : decode cX7_spendNight 1 = .ok (.getfield 39, 3) := by decide +kernel
theorem dX7_spendNight_4 : decode cX7_spendNight 4 = .ok (.aload_n 0, 1) := by decide +kernel
theorem dX7_spendNight_5 : decode cX7_spendNight 5 = .ok (.getfield 9, 3) := by decide +kernel
theorem dX7_spendNight_8 : decode cX7_spendNight 8 = .ok (.iload_n 2, 1) := by decide +kernel
theorem dX7_spendNight_9 : decode cX7_spendNight 9 = .ok (.iaload, 1) := by decide +kernel
theorem dX7_spendNight_10 : decode cX7_spendNight 10 = .ok (.aaload, 1) := by decide +kernel
theorem dX7_spendNight_11 : decode cX7_spendNight 11 = .ok (.astore_n 3, 1) := by decide +kernel
theorem dX7_spendNight_12 : decode cX7_spendNight 12 = .ok (.aload_n 3, 1) := by decide +kernel
theorem dX7_spendNight_13 : decode cX7_spendNight 13 = .ok (.aload_n 0, 1) := by decide +kernel
theorem dX7_spendNight_14 : decode cX7_spendNight 14 = .ok (.getfield 15, 3) := by decide +kernel
theorem dX7_spendNight_17 : decode cX7_spendNight 17 = .ok (.iload_n 2, 1) := by decide +kernel
theorem dX7_spendNight_18 : decode cX7_spendNight 18 = .ok (.iaload, 1) := by decide +kernel
theorem dX7_spendNight_19 : decode cX7_spendNight 19 = .ok (.aload_n 0, 1) := by decide +kernel
theorem dX7_spendNight_20 : decode cX7_spendNight 20 = .ok (.getfield 18, 3) := by decide +kernel
theorem dX7_spendNight_23 : decode cX7_spendNight 23 = .ok (.iload_n 2, 1) := by decide +kernel
theorem dX7_spendNight_24 : decode cX7_spendNight 24 = .ok (.iaload, 1) := by decide +kernel
theorem dX7_spendNight_25 : decode cX7_spendNight 25 = .ok (.invokevirtual 59, 3) := by decide +kernel
theorem dX7_spendNight_28 : decode cX7_spendNight 28 = .ok (.istore 4, 2) := by decide +kernel
theorem dX7_spendNight_30 : decode cX7_spendNight 30 = .ok (.aload_n 0, 1) := by decide +kernel
theorem dX7_spendNight_31 : decode cX7_spendNight 31 = .ok (.getfield 24, 3) := by decide +kernel
theorem dX7_spendNight_34 : decode cX7_spendNight 34 = .ok (.iload_n 1, 1) := by decide +kernel
theorem dX7_spendNight_35 : decode cX7_spendNight 35 = .ok (.iaload, 1) := by decide +kernel
theorem dX7_spendNight_36 : decode cX7_spendNight 36 = .ok (.iload 4, 2) := by decide +kernel
theorem dX7_spendNight_38 : decode cX7_spendNight 38 = .ok (.if_icmp .ge 10, 3) := by decide +kernel
theorem dX7_spendNight_41 : decode cX7_spendNight 41 = .ok (.aload_n 0, 1) := by decide +kernel
theorem dX7_spendNight_42 : decode cX7_spendNight 42 = .ok (.iload_n 1, 1) := by decide +kernel
theorem dX7_spendNight_43 : decode cX7_spendNight 43 = .ok (.iload_n 2, 1) := by decide +kernel
theorem dX7_spendNight_44 : decode cX7_spendNight 44 = .ok (.invokevirtual 91, 3) := by decide +kernel
theorem dX7_spendNight_47 : decode cX7_spendNight 47 = .ok (.return_, 1) := by decide +kernel
theorem dX7_spendNight_48 : decode cX7_spendNight 48 = .ok (.aload_n 0, 1) := by decide +kernel
theorem dX7_spendNight_49 : decode cX7_spendNight 49 = .ok (.iload_n 1, 1) := by decide +kernel
theorem dX7_spendNight_50 : decode cX7_spendNight 50 = .ok (.invokevirtual 94, 3) := by decide +kernel
theorem dX7_spendNight_53 : decode cX7_spendNight 53 = .ok (.istore 5, 2) := by decide +kernel
theorem dX7_spendNight_55 : decode cX7_spendNight 55 = .ok (.aload_n 3, 1) := by decide +kernel
theorem dX7_spendNight_56 : decode cX7_spendNight 56 = .ok (.aload_n 0, 1) := by decide +kernel
theorem dX7_spendNight_57 : decode cX7_spendNight 57 = .ok (.getfield 33, 3) := by decide +kernel
theorem dX7_spendNight_60 : decode cX7_spendNight 60 = .ok (.iload 5, 2) := by decide +kernel
theorem dX7_spendNight_62 : decode cX7_spendNight 62 = .ok (.iaload, 1) := by decide +kernel
theorem dX7_spendNight_63 : decode cX7_spendNight 63 = .ok (.aload_n 0, 1) := by decide +kernel
theorem dX7_spendNight_64 : decode cX7_spendNight 64 = .ok (.getfield 36, 3) := by decide +kernel
theorem dX7_spendNight_67 : decode cX7_spendNight 67 = .ok (.iload 5, 2) := by decide +kernel
theorem dX7_spendNight_69 : decode cX7_spendNight 69 = .ok (.iaload, 1) := by decide +kernel
theorem dX7_spendNight_70 : decode cX7_spendNight 70 = .ok (.iload_n 2, 1) := by decide +kernel
theorem dX7_spendNight_71 : decode cX7_spendNight 71 = .ok (.if_icmp .ne 7, 3) := by decide +kernel
theorem dX7_spendNight_74 : decode cX7_spendNight 74 = .ok (.iconst 1, 1) := by decide +kernel
theorem dX7_spendNight_75 : decode cX7_spendNight 75 = .ok (.goto 4, 3) := by decide +kernel
theorem dX7_spendNight_78 : decode cX7_spendNight 78 = .ok (.iconst 0, 1) := by decide +kernel
theorem dX7_spendNight_79 : decode cX7_spendNight 79 = .ok (.aload_n 0, 1) := by decide +kernel
theorem dX7_spendNight_80 : decode cX7_spendNight 80 = .ok (.getfield 15, 3) := by decide +kernel
theorem dX7_spendNight_83 : decode cX7_spendNight 83 = .ok (.iload_n 2, 1) := by decide +kernel
theorem dX7_spendNight_84 : decode cX7_spendNight 84 = .ok (.iaload, 1) := by decide +kernel
theorem dX7_spendNight_85 : decode cX7_spendNight 85 = .ok (.invokevirtual 65, 3) := by decide +kernel
theorem dX7_spendNight_88 : decode cX7_spendNight 88 = .ok (.istore 6, 2) := by decide +kernel
theorem dX7_spendNight_90 : decode cX7_spendNight 90 = .ok (.aload_n 3, 1) := by decide +kernel
theorem dX7_spendNight_91 : decode cX7_spendNight 91 = .ok (.aload_n 0, 1) := by decide +kernel
theorem dX7_spendNight_92 : decode cX7_spendNight 92 = .ok (.getfield 15, 3) := by decide +kernel
theorem dX7_spendNight_95 : decode cX7_spendNight 95 = .ok (.iload_n 2, 1) := by decide +kernel
theorem dX7_spendNight_96 : decode cX7_spendNight 96 = .ok (.iaload, 1) := by decide +kernel
theorem dX7_spendNight_97 : decode cX7_spendNight 97 = .ok (.invokevirtual 69, 3) := by decide +kernel
theorem dX7_spendNight_100 : decode cX7_spendNight 100 = .ok (.istore 7, 2) := by decide +kernel
theorem dX7_spendNight_102 : decode cX7_spendNight 102 = .ok (.aload_n 3, 1) := by decide +kernel
theorem dX7_spendNight_103 : decode cX7_spendNight 103 = .ok (.aload_n 0, 1) := by decide +kernel
theorem dX7_spendNight_104 : decode cX7_spendNight 104 = .ok (.invokevirtual 73, 3) := by decide +kernel
theorem dX7_spendNight_107 : decode cX7_spendNight 107 = .ok (.invokevirtual 77, 3) := by decide +kernel
theorem dX7_spendNight_110 : decode cX7_spendNight 110 = .ok (.istore 8, 2) := by decide +kernel
theorem dX7_spendNight_112 : decode cX7_spendNight 112 = .ok (.aload_n 0, 1) := by decide +kernel
theorem dX7_spendNight_113 : decode cX7_spendNight 113 = .ok (.getfield 24, 3) := by decide +kernel
theorem dX7_spendNight_116 : decode cX7_spendNight 116 = .ok (.iload_n 1, 1) := by decide +kernel
theorem dX7_spendNight_117 : decode cX7_spendNight 117 = .ok (.aload_n 0, 1) := by decide +kernel
theorem dX7_spendNight_118 : decode cX7_spendNight 118 = .ok (.getfield 24, 3) := by decide +kernel
theorem dX7_spendNight_121 : decode cX7_spendNight 121 = .ok (.iload_n 1, 1) := by decide +kernel
theorem dX7_spendNight_122 : decode cX7_spendNight 122 = .ok (.iaload, 1) := by decide +kernel
theorem dX7_spendNight_123 : decode cX7_spendNight 123 = .ok (.iload 4, 2) := by decide +kernel
theorem dX7_spendNight_125 : decode cX7_spendNight 125 = .ok (.isub, 1) := by decide +kernel
theorem dX7_spendNight_126 : decode cX7_spendNight 126 = .ok (.iload 6, 2) := by decide +kernel
theorem dX7_spendNight_128 : decode cX7_spendNight 128 = .ok (.iadd, 1) := by decide +kernel
theorem dX7_spendNight_129 : decode cX7_spendNight 129 = .ok (.iconst 0, 1) := by decide +kernel
theorem dX7_spendNight_130 : decode cX7_spendNight 130 = .ok (.sipush 9999, 3) := by decide +kernel
theorem dX7_spendNight_133 : decode cX7_spendNight 133 = .ok (.invokestatic 97, 3) := by decide +kernel
theorem dX7_spendNight_136 : decode cX7_spendNight 136 = .ok (.iastore, 1) := by decide +kernel
theorem dX7_spendNight_137 : decode cX7_spendNight 137 = .ok (.aload_n 0, 1) := by decide +kernel
theorem dX7_spendNight_138 : decode cX7_spendNight 138 = .ok (.getfield 18, 3) := by decide +kernel
theorem dX7_spendNight_141 : decode cX7_spendNight 141 = .ok (.iload_n 2, 1) := by decide +kernel
theorem dX7_spendNight_142 : decode cX7_spendNight 142 = .ok (.aload_n 0, 1) := by decide +kernel
theorem dX7_spendNight_143 : decode cX7_spendNight 143 = .ok (.getfield 18, 3) := by decide +kernel
theorem dX7_spendNight_146 : decode cX7_spendNight 146 = .ok (.iload_n 2, 1) := by decide +kernel
theorem dX7_spendNight_147 : decode cX7_spendNight 147 = .ok (.iaload, 1) := by decide +kernel
theorem dX7_spendNight_148 : decode cX7_spendNight 148 = .ok (.iload 6, 2) := by decide +kernel
theorem dX7_spendNight_150 : decode cX7_spendNight 150 = .ok (.ifCond .le 7, 3) := by decide +kernel
theorem dX7_spendNight_153 : decode cX7_spendNight 153 = .ok (.iconst 3, 1) := by decide +kernel
theorem dX7_spendNight_154 : decode cX7_spendNight 154 = .ok (.goto 4, 3) := by decide +kernel
theorem dX7_spendNight_157 : decode cX7_spendNight 157 = .ok (.iconst 1, 1) := by decide +kernel
theorem dX7_spendNight_158 : decode cX7_spendNight 158 = .ok (.iadd, 1) := by decide +kernel
theorem dX7_spendNight_159 : decode cX7_spendNight 159 = .ok (.iconst 0, 1) := by decide +kernel
theorem dX7_spendNight_160 : decode cX7_spendNight 160 = .ok (.sipush 999, 3) := by decide +kernel
theorem dX7_spendNight_163 : decode cX7_spendNight 163 = .ok (.invokestatic 97, 3) := by decide +kernel
theorem dX7_spendNight_166 : decode cX7_spendNight 166 = .ok (.iastore, 1) := by decide +kernel
theorem dX7_spendNight_167 : decode cX7_spendNight 167 = .ok (.aload_n 0, 1) := by decide +kernel
theorem dX7_spendNight_168 : decode cX7_spendNight 168 = .ok (.getfield 33, 3) := by decide +kernel
theorem dX7_spendNight_171 : decode cX7_spendNight 171 = .ok (.iload 5, 2) := by decide +kernel
theorem dX7_spendNight_173 : decode cX7_spendNight 173 = .ok (.aload_n 0, 1) := by decide +kernel
theorem dX7_spendNight_174 : decode cX7_spendNight 174 = .ok (.getfield 33, 3) := by decide +kernel
theorem dX7_spendNight_177 : decode cX7_spendNight 177 = .ok (.iload 5, 2) := by decide +kernel
theorem dX7_spendNight_179 : decode cX7_spendNight 179 = .ok (.iaload, 1) := by decide +kernel
theorem dX7_spendNight_180 : decode cX7_spendNight 180 = .ok (.iload 7, 2) := by decide +kernel
theorem dX7_spendNight_182 : decode cX7_spendNight 182 = .ok (.iadd, 1) := by decide +kernel
theorem dX7_spendNight_183 : decode cX7_spendNight 183 = .ok (.bipush (-50), 2) := by decide +kernel
theorem dX7_spendNight_185 : decode cX7_spendNight 185 = .ok (.bipush 50, 2) := by decide +kernel
theorem dX7_spendNight_187 : decode cX7_spendNight 187 = .ok (.invokestatic 97, 3) := by decide +kernel
theorem dX7_spendNight_190 : decode cX7_spendNight 190 = .ok (.iastore, 1) := by decide +kernel
theorem dX7_spendNight_191 : decode cX7_spendNight 191 = .ok (.aload_n 0, 1) := by decide +kernel
theorem dX7_spendNight_192 : decode cX7_spendNight 192 = .ok (.getfield 36, 3) := by decide +kernel
theorem dX7_spendNight_195 : decode cX7_spendNight 195 = .ok (.iload 5, 2) := by decide +kernel
theorem dX7_spendNight_197 : decode cX7_spendNight 197 = .ok (.iload_n 2, 1) := by decide +kernel
theorem dX7_spendNight_198 : decode cX7_spendNight 198 = .ok (.iastore, 1) := by decide +kernel
theorem dX7_spendNight_199 : decode cX7_spendNight 199 = .ok (.aload_n 0, 1) := by decide +kernel
theorem dX7_spendNight_200 : decode cX7_spendNight 200 = .ok (.getfield 15, 3) := by decide +kernel
theorem dX7_spendNight_203 : decode cX7_spendNight 203 = .ok (.iload_n 2, 1) := by decide +kernel
theorem dX7_spendNight_204 : decode cX7_spendNight 204 = .ok (.aload_n 0, 1) := by decide +kernel
theorem dX7_spendNight_205 : decode cX7_spendNight 205 = .ok (.getfield 15, 3) := by decide +kernel
theorem dX7_spendNight_208 : decode cX7_spendNight 208 = .ok (.iload_n 2, 1) := by decide +kernel
theorem dX7_spendNight_209 : decode cX7_spendNight 209 = .ok (.iaload, 1) := by decide +kernel
theorem dX7_spendNight_210 : decode cX7_spendNight 210 = .ok (.iload 8, 2) := by decide +kernel
theorem dX7_spendNight_212 : decode cX7_spendNight 212 = .ok (.iadd, 1) := by decide +kernel
theorem dX7_spendNight_213 : decode cX7_spendNight 213 = .ok (.iconst 0, 1) := by decide +kernel
theorem dX7_spendNight_214 : decode cX7_spendNight 214 = .ok (.bipush 99, 2) := by decide +kernel
theorem dX7_spendNight_216 : decode cX7_spendNight 216 = .ok (.invokestatic 97, 3) := by decide +kernel
theorem dX7_spendNight_219 : decode cX7_spendNight 219 = .ok (.iastore, 1) := by decide +kernel
theorem dX7_spendNight_220 : decode cX7_spendNight 220 = .ok (.return_, 1) := by decide +kernel
theorem dX7_combOut_0 : decode cX7_combOut 0 = .ok (.iconst 0, 1) := by decide +kernel
theorem dX7_combOut_1 : decode cX7_combOut 1 = .ok (.istore_n 1, 1) := by decide +kernel
theorem dX7_combOut_2 : decode cX7_combOut 2 = .ok (.iload_n 1, 1) := by decide +kernel
theorem dX7_combOut_3 : decode cX7_combOut 3 = .ok (.aload_n 0, 1) := by decide +kernel
theorem dX7_combOut_4 : decode cX7_combOut 4 = .ok (.getfield 47, 3) := by decide +kernel
theorem dX7_combOut_7 : decode cX7_combOut 7 = .ok (.if_icmp .ge 26, 3) := by decide +kernel
theorem dX7_combOut_10 : decode cX7_combOut 10 = .ok (.aload_n 0, 1) := by decide +kernel
theorem dX7_combOut_11 : decode cX7_combOut 11 = .ok (.getfield 21, 3) := by decide +kernel
theorem dX7_combOut_14 : decode cX7_combOut 14 = .ok (.iload_n 1, 1) := by decide +kernel
theorem dX7_combOut_15 : decode cX7_combOut 15 = .ok (.iaload, 1) := by decide +kernel
theorem dX7_combOut_16 : decode cX7_combOut 16 = .ok (.iconst (-1), 1) := by decide +kernel
theorem dX7_combOut_17 : decode cX7_combOut 17 = .ok (.if_icmp .ne 10, 3) := by decide +kernel
theorem dX7_combOut_20 : decode cX7_combOut 20 = .ok (.aload_n 0, 1) := by decide +kernel
theorem dX7_combOut_21 : decode cX7_combOut 21 = .ok (.getfield 18, 3) := by decide +kernel
theorem dX7_combOut_24 : decode cX7_combOut 24 = .ok (.iload_n 1, 1) := by decide +kernel
theorem dX7_combOut_25 : decode cX7_combOut 25 = .ok (.iconst 0, 1) := by decide +kernel
theorem dX7_combOut_26 : decode cX7_combOut 26 = .ok (.iastore, 1) := by decide +kernel
theorem dX7_combOut_27 : decode cX7_combOut 27 = .ok (.iinc 1 1, 3) := by decide +kernel
theorem dX7_combOut_30 : decode cX7_combOut 30 = .ok (.goto (-28), 3) := by decide +kernel
theorem dX7_combOut_33 : decode cX7_combOut 33 = .ok (.return_, 1) := by decide +kernel
theorem dX7_held_0 : decode cX7_held 0 = .ok (.iload_n 1, 1) := by decide +kernel
theorem dX7_held_1 : decode cX7_held 1 = .ok (.iload_n 2, 1) := by decide +kernel
theorem dX7_held_2 : decode cX7_held 2 = .ok (.iload_n 0, 1) := by decide +kernel
theorem dX7_held_3 : decode cX7_held 3 = .ok (.invokestatic 101, 3) := by decide +kernel
theorem dX7_held_6 : decode cX7_held 6 = .ok (.invokestatic 106, 3) := by decide +kernel
theorem dX7_held_9 : decode cX7_held 9 = .ok (.ireturn, 1) := by decide +kernel
theorem dX7_guestsAt_0 : decode cX7_guestsAt 0 = .ok (.iconst 0, 1) := by decide +kernel
theorem dX7_guestsAt_1 : decode cX7_guestsAt 1 = .ok (.istore_n 2, 1) := by decide +kernel
theorem dX7_guestsAt_2 : decode cX7_guestsAt 2 = .ok (.iconst 0, 1) := by decide +kernel
theorem dX7_guestsAt_3 : decode cX7_guestsAt 3 = .ok (.istore_n 3, 1) := by decide +kernel
theorem dX7_guestsAt_4 : decode cX7_guestsAt 4 = .ok (.iload_n 3, 1) := by decide +kernel
theorem dX7_guestsAt_5 : decode cX7_guestsAt 5 = .ok (.aload_n 0, 1) := by decide +kernel
theorem dX7_guestsAt_6 : decode cX7_guestsAt 6 = .ok (.getfield 50, 3) := by decide +kernel
theorem dX7_guestsAt_9 : decode cX7_guestsAt 9 = .ok (.if_icmp .ge 24, 3) := by decide +kernel
theorem dX7_guestsAt_12 : decode cX7_guestsAt 12 = .ok (.aload_n 0, 1) := by decide +kernel
theorem dX7_guestsAt_13 : decode cX7_guestsAt 13 = .ok (.iload_n 3, 1) := by decide +kernel
theorem dX7_guestsAt_14 : decode cX7_guestsAt 14 = .ok (.invokevirtual 94, 3) := by decide +kernel
theorem dX7_guestsAt_17 : decode cX7_guestsAt 17 = .ok (.iload_n 1, 1) := by decide +kernel
theorem dX7_guestsAt_18 : decode cX7_guestsAt 18 = .ok (.if_icmp .ne 9, 3) := by decide +kernel
theorem dX7_guestsAt_21 : decode cX7_guestsAt 21 = .ok (.iload_n 2, 1) := by decide +kernel
theorem dX7_guestsAt_22 : decode cX7_guestsAt 22 = .ok (.iconst 1, 1) := by decide +kernel
theorem dX7_guestsAt_23 : decode cX7_guestsAt 23 = .ok (.iload_n 3, 1) := by decide +kernel
theorem dX7_guestsAt_24 : decode cX7_guestsAt 24 = .ok (.ishl, 1) := by decide +kernel
theorem dX7_guestsAt_25 : decode cX7_guestsAt 25 = .ok (.ior, 1) := by decide +kernel
theorem dX7_guestsAt_26 : decode cX7_guestsAt 26 = .ok (.istore_n 2, 1) := by decide +kernel
theorem dX7_guestsAt_27 : decode cX7_guestsAt 27 = .ok (.iinc 3 1, 3) := by decide +kernel
theorem dX7_guestsAt_30 : decode cX7_guestsAt 30 = .ok (.goto (-26), 3) := by decide +kernel
theorem dX7_guestsAt_33 : decode cX7_guestsAt 33 = .ok (.iload_n 2, 1) := by decide +kernel
theorem dX7_guestsAt_34 : decode cX7_guestsAt 34 = .ok (.ireturn, 1) := by decide +kernel
theorem dX7_beardsInShop_0 : decode cX7_beardsInShop 0 = .ok (.iconst 0, 1) := by decide +kernel
theorem dX7_beardsInShop_1 : decode cX7_beardsInShop 1 = .ok (.istore_n 1, 1) := by decide +kernel
theorem dX7_beardsInShop_2 : decode cX7_beardsInShop 2 = .ok (.iconst 0, 1) := by decide +kernel
theorem dX7_beardsInShop_3 : decode cX7_beardsInShop 3 = .ok (.istore_n 2, 1) := by decide +kernel
theorem dX7_beardsInShop_4 : decode cX7_beardsInShop 4 = .ok (.iload_n 2, 1) := by decide +kernel
theorem dX7_beardsInShop_5 : decode cX7_beardsInShop 5 = .ok (.aload_n 0, 1) := by decide +kernel
theorem dX7_beardsInShop_6 : decode cX7_beardsInShop 6 = .ok (.getfield 47, 3) := by decide +kernel
theorem dX7_beardsInShop_9 : decode cX7_beardsInShop 9 = .ok (.if_icmp .ge 25, 3) := by decide +kernel
theorem dX7_beardsInShop_12 : decode cX7_beardsInShop 12 = .ok (.aload_n 0, 1) := by decide +kernel
theorem dX7_beardsInShop_13 : decode cX7_beardsInShop 13 = .ok (.getfield 21, 3) := by decide +kernel
theorem dX7_beardsInShop_16 : decode cX7_beardsInShop 16 = .ok (.iload_n 2, 1) := by decide +kernel
theorem dX7_beardsInShop_17 : decode cX7_beardsInShop 17 = .ok (.iaload, 1) := by decide +kernel
theorem dX7_beardsInShop_18 : decode cX7_beardsInShop 18 = .ok (.iconst (-1), 1) := by decide +kernel
theorem dX7_beardsInShop_19 : decode cX7_beardsInShop 19 = .ok (.if_icmp .ne 9, 3) := by decide +kernel
theorem dX7_beardsInShop_22 : decode cX7_beardsInShop 22 = .ok (.iload_n 1, 1) := by decide +kernel
theorem dX7_beardsInShop_23 : decode cX7_beardsInShop 23 = .ok (.iconst 1, 1) := by decide +kernel
theorem dX7_beardsInShop_24 : decode cX7_beardsInShop 24 = .ok (.iload_n 2, 1) := by decide +kernel
theorem dX7_beardsInShop_25 : decode cX7_beardsInShop 25 = .ok (.ishl, 1) := by decide +kernel
theorem dX7_beardsInShop_26 : decode cX7_beardsInShop 26 = .ok (.ior, 1) := by decide +kernel
theorem dX7_beardsInShop_27 : decode cX7_beardsInShop 27 = .ok (.istore_n 1, 1) := by decide +kernel
theorem dX7_beardsInShop_28 : decode cX7_beardsInShop 28 = .ok (.iinc 2 1, 3) := by decide +kernel
theorem dX7_beardsInShop_31 : decode cX7_beardsInShop 31 = .ok (.goto (-27), 3) := by decide +kernel
theorem dX7_beardsInShop_34 : decode cX7_beardsInShop 34 = .ok (.iload_n 1, 1) := by decide +kernel
theorem dX7_beardsInShop_35 : decode cX7_beardsInShop 35 = .ok (.ireturn, 1) := by decide +kernel
theorem dX7_wearersInBeards_0 : decode cX7_wearersInBeards 0 = .ok (.iconst 0, 1) := by decide +kernel
theorem dX7_wearersInBeards_1 : decode cX7_wearersInBeards 1 = .ok (.istore_n 1, 1) := by decide +kernel
theorem dX7_wearersInBeards_2 : decode cX7_wearersInBeards 2 = .ok (.iconst 0, 1) := by decide +kernel
theorem dX7_wearersInBeards_3 : decode cX7_wearersInBeards 3 = .ok (.istore_n 2, 1) := by decide +kernel
theorem dX7_wearersInBeards_4 : decode cX7_wearersInBeards 4 = .ok (.iload_n 2, 1) := by decide +kernel
theorem dX7_wearersInBeards_5 : decode cX7_wearersInBeards 5 = .ok (.aload_n 0, 1) := by decide +kernel
theorem dX7_wearersInBeards_6 : decode cX7_wearersInBeards 6 = .ok (.getfield 50, 3) := by decide +kernel
theorem dX7_wearersInBeards_9 : decode cX7_wearersInBeards 9 = .ok (.if_icmp .ge 25, 3) := by decide +kernel
theorem dX7_wearersInBeards_12 : decode cX7_wearersInBeards 12 = .ok (.aload_n 0, 1) := by decide +kernel
theorem dX7_wearersInBeards_13 : decode cX7_wearersInBeards 13 = .ok (.getfield 30, 3) := by decide +kernel
theorem dX7_wearersInBeards_16 : decode cX7_wearersInBeards 16 = .ok (.iload_n 2, 1) := by decide +kernel
theorem dX7_wearersInBeards_17 : decode cX7_wearersInBeards 17 = .ok (.iaload, 1) := by decide +kernel
theorem dX7_wearersInBeards_18 : decode cX7_wearersInBeards 18 = .ok (.iconst (-1), 1) := by decide +kernel
theorem dX7_wearersInBeards_19 : decode cX7_wearersInBeards 19 = .ok (.if_icmp .eq 9, 3) := by decide +kernel
theorem dX7_wearersInBeards_22 : decode cX7_wearersInBeards 22 = .ok (.iload_n 1, 1) := by decide +kernel
theorem dX7_wearersInBeards_23 : decode cX7_wearersInBeards 23 = .ok (.iconst 1, 1) := by decide +kernel
theorem dX7_wearersInBeards_24 : decode cX7_wearersInBeards 24 = .ok (.iload_n 2, 1) := by decide +kernel
theorem dX7_wearersInBeards_25 : decode cX7_wearersInBeards 25 = .ok (.ishl, 1) := by decide +kernel
theorem dX7_wearersInBeards_26 : decode cX7_wearersInBeards 26 = .ok (.ior, 1) := by decide +kernel
theorem dX7_wearersInBeards_27 : decode cX7_wearersInBeards 27 = .ok (.istore_n 1, 1) := by decide +kernel
theorem dX7_wearersInBeards_28 : decode cX7_wearersInBeards 28 = .ok (.iinc 2 1, 3) := by decide +kernel
theorem dX7_wearersInBeards_31 : decode cX7_wearersInBeards 31 = .ok (.goto (-27), 3) := by decide +kernel
theorem dX7_wearersInBeards_34 : decode cX7_wearersInBeards 34 = .ok (.iload_n 1, 1) := by decide +kernel
theorem dX7_wearersInBeards_35 : decode cX7_wearersInBeards 35 = .ok (.ireturn, 1) := by decide +kernel
theorem dX7_allPurses_0 : decode cX7_allPurses 0 = .ok (.iconst 0, 1) := by decide +kernel
theorem dX7_allPurses_1 : decode cX7_allPurses 1 = .ok (.istore_n 1, 1) := by decide +kernel
theorem dX7_allPurses_2 : decode cX7_allPurses 2 = .ok (.iconst 0, 1) := by decide +kernel
theorem dX7_allPurses_3 : decode cX7_allPurses 3 = .ok (.istore_n 2, 1) := by decide +kernel
theorem dX7_allPurses_4 : decode cX7_allPurses 4 = .ok (.iload_n 2, 1) := by decide +kernel
theorem dX7_allPurses_5 : decode cX7_allPurses 5 = .ok (.aload_n 0, 1) := by decide +kernel
theorem dX7_allPurses_6 : decode cX7_allPurses 6 = .ok (.getfield 50, 3) := by decide +kernel
theorem dX7_allPurses_9 : decode cX7_allPurses 9 = .ok (.if_icmp .ge 18, 3) := by decide +kernel
theorem dX7_allPurses_12 : decode cX7_allPurses 12 = .ok (.iload_n 1, 1) := by decide +kernel
theorem dX7_allPurses_13 : decode cX7_allPurses 13 = .ok (.aload_n 0, 1) := by decide +kernel
theorem dX7_allPurses_14 : decode cX7_allPurses 14 = .ok (.getfield 24, 3) := by decide +kernel
theorem dX7_allPurses_17 : decode cX7_allPurses 17 = .ok (.iload_n 2, 1) := by decide +kernel
theorem dX7_allPurses_18 : decode cX7_allPurses 18 = .ok (.iaload, 1) := by decide +kernel
theorem dX7_allPurses_19 : decode cX7_allPurses 19 = .ok (.iadd, 1) := by decide +kernel
theorem dX7_allPurses_20 : decode cX7_allPurses 20 = .ok (.istore_n 1, 1) := by decide +kernel
theorem dX7_allPurses_21 : decode cX7_allPurses 21 = .ok (.iinc 2 1, 3) := by decide +kernel
theorem dX7_allPurses_24 : decode cX7_allPurses 24 = .ok (.goto (-20), 3) := by decide +kernel
theorem dX7_allPurses_27 : decode cX7_allPurses 27 = .ok (.iload_n 1, 1) := by decide +kernel
theorem dX7_allPurses_28 : decode cX7_allPurses 28 = .ok (.ireturn, 1) := by decide +kernel
theorem dX7_allHoards_0 : decode cX7_allHoards 0 = .ok (.iconst 0, 1) := by decide +kernel
theorem dX7_allHoards_1 : decode cX7_allHoards 1 = .ok (.istore_n 1, 1) := by decide +kernel
theorem dX7_allHoards_2 : decode cX7_allHoards 2 = .ok (.iconst 0, 1) := by decide +kernel
theorem dX7_allHoards_3 : decode cX7_allHoards 3 = .ok (.istore_n 2, 1) := by decide +kernel
theorem dX7_allHoards_4 : decode cX7_allHoards 4 = .ok (.iload_n 2, 1) := by decide +kernel
theorem dX7_allHoards_5 : decode cX7_allHoards 5 = .ok (.aload_n 0, 1) := by decide +kernel
theorem dX7_allHoards_6 : decode cX7_allHoards 6 = .ok (.getfield 47, 3) := by decide +kernel
theorem dX7_allHoards_9 : decode cX7_allHoards 9 = .ok (.if_icmp .ge 18, 3) := by decide +kernel
theorem dX7_allHoards_12 : decode cX7_allHoards 12 = .ok (.iload_n 1, 1) := by decide +kernel
theorem dX7_allHoards_13 : decode cX7_allHoards 13 = .ok (.aload_n 0, 1) := by decide +kernel
theorem dX7_allHoards_14 : decode cX7_allHoards 14 = .ok (.getfield 18, 3) := by decide +kernel
theorem dX7_allHoards_17 : decode cX7_allHoards 17 = .ok (.iload_n 2, 1) := by decide +kernel
theorem dX7_allHoards_18 : decode cX7_allHoards 18 = .ok (.iaload, 1) := by decide +kernel
theorem dX7_allHoards_19 : decode cX7_allHoards 19 = .ok (.iadd, 1) := by decide +kernel
theorem dX7_allHoards_20 : decode cX7_allHoards 20 = .ok (.istore_n 1, 1) := by decide +kernel
theorem dX7_allHoards_21 : decode cX7_allHoards 21 = .ok (.iinc 2 1, 3) := by decide +kernel
theorem dX7_allHoards_24 : decode cX7_allHoards 24 = .ok (.goto (-20), 3) := by decide +kernel
theorem dX7_allHoards_27 : decode cX7_allHoards 27 = .ok (.iload_n 1, 1) := by decide +kernel
theorem dX7_allHoards_28 : decode cX7_allHoards 28 = .ok (.ireturn, 1) := by decide +kernel
theorem dX6_init_0 : decode cX6_init 0 = .ok (.aload_n 0, 1) := by decide +kernel
theorem dX6_init_1 : decode cX6_init 1 = .ok (.invokespecial 3, 3) := by decide +kernel
theorem dX6_init_4 : decode cX6_init 4 = .ok (.aload_n 0, 1) := by decide +kernel
theorem dX6_init_5 : decode cX6_init 5 = .ok (.bipush 120, 2) := by decide +kernel
theorem dX6_init_7 : decode cX6_init 7 = .ok (.newarray .int, 2) := by decide +kernel
theorem dX6_init_9 : decode cX6_init 9 = .ok (.putfield 9, 3) := by decide +kernel
theorem dX6_init_12 : decode cX6_init 12 = .ok (.aload_n 0, 1) := by decide +kernel
theorem dX6_init_13 : decode cX6_init 13 = .ok (.aload_n 1, 1) := by decide +kernel
theorem dX6_init_14 : decode cX6_init 14 = .ok (.putfield 15, 3) := by decide +kernel
theorem dX6_init_17 : decode cX6_init 17 = .ok (.aload_n 0, 1) := by decide +kernel
theorem dX6_init_18 : decode cX6_init 18 = .ok (.aload_n 2, 1) := by decide +kernel
theorem dX6_init_19 : decode cX6_init 19 = .ok (.putfield 19, 3) := by decide +kernel
theorem dX6_init_22 : decode cX6_init 22 = .ok (.return_, 1) := by decide +kernel
theorem dX6_append_0 : decode cX6_append 0 = .ok (.aload_n 0, 1) := by decide +kernel
theorem dX6_append_1 : decode cX6_append 1 = .ok (.getfield 23, 3) := by decide +kernel
theorem dX6_append_4 : decode cX6_append 4 = .ok (.bipush 120, 2) := by decide +kernel
theorem dX6_append_6 : decode cX6_append 6 = .ok (.if_icmp .ge 23, 3) := by decide +kernel
theorem dX6_append_9 : decode cX6_append 9 = .ok (.aload_n 0, 1) := by decide +kernel
theorem dX6_append_10 : decode cX6_append 10 = .ok (.getfield 9, 3) := by decide +kernel
theorem dX6_append_13 : decode cX6_append 13 = .ok (.aload_n 0, 1) := by decide +kernel
theorem dX6_append_14 : decode cX6_append 14 = .ok (.getfield 23, 3) := by decide +kernel
theorem dX6_append_17 : decode cX6_append 17 = .ok (.iload_n 1, 1) := by decide +kernel
theorem dX6_append_18 : decode cX6_append 18 = .ok (.iastore, 1) := by decide +kernel
theorem dX6_append_19 : decode cX6_append 19 = .ok (.aload_n 0, 1) := by decide +kernel
theorem dX6_append_20 : decode cX6_append 20 = .ok (.dup, 1) := by decide +kernel
theorem dX6_append_21 : decode cX6_append 21 = .ok (.getfield 23, 3) := by decide +kernel
theorem dX6_append_24 : decode cX6_append 24 = .ok (.iconst 1, 1) := by decide +kernel
theorem dX6_append_25 : decode cX6_append 25 = .ok (.iadd, 1) := by decide +kernel
theorem dX6_append_26 : decode cX6_append 26 = .ok (.putfield 23, 3) := by decide +kernel
theorem dX6_append_29 : decode cX6_append 29 = .ok (.return_, 1) := by decide +kernel
theorem dX6_tellAll_0 : decode cX6_tellAll 0 = .ok (.aload_n 0, 1) := by decide +kernel
theorem dX6_tellAll_1 : decode cX6_tellAll 1 = .ok (.iconst 0, 1) := by decide +kernel
theorem dX6_tellAll_2 : decode cX6_tellAll 2 = .ok (.putfield 27, 3) := by decide +kernel
theorem dX6_tellAll_5 : decode cX6_tellAll 5 = .ok (.aload_n 0, 1) := by decide +kernel
theorem dX6_tellAll_6 : decode cX6_tellAll 6 = .ok (.invokevirtual 30, 3) := by decide +kernel
theorem dX6_tellAll_9 : decode cX6_tellAll 9 = .ok (.iconst 1, 1) := by decide +kernel
theorem dX6_tellAll_10 : decode cX6_tellAll 10 = .ok (.istore_n 1, 1) := by decide +kernel
theorem dX6_tellAll_11 : decode cX6_tellAll 11 = .ok (.iload_n 1, 1) := by decide +kernel
theorem dX6_tellAll_12 : decode cX6_tellAll 12 = .ok (.bipush 120, 2) := by decide +kernel
theorem dX6_tellAll_14 : decode cX6_tellAll 14 = .ok (.if_icmp .gt 43, 3) := by decide +kernel
theorem dX6_tellAll_17 : decode cX6_tellAll 17 = .ok (.aload_n 0, 1) := by decide +kernel
theorem dX6_tellAll_18 : decode cX6_tellAll 18 = .ok (.invokevirtual 33, 3) := by decide +kernel
theorem dX6_tellAll_21 : decode cX6_tellAll 21 = .ok (.ifCond .ne 6, 3) := by decide +kernel
theorem dX6_tellAll_24 : decode cX6_tellAll 24 = .ok (.goto 33, 3) := by decide +kernel
theorem dX6_tellAll_27 : decode cX6_tellAll 27 = .ok (.aload_n 0, 1) := by decide +kernel
theorem dX6_tellAll_28 : decode cX6_tellAll 28 = .ok (.getfield 37, 3) := by decide +kernel
theorem dX6_tellAll_31 : decode cX6_tellAll 31 = .ok (.ifCond .ne 5, 3) := by decide +kernel
theorem dX6_tellAll_34 : decode cX6_tellAll 34 = .ok (.iload_n 1, 1) := by decide +kernel
theorem dX6_tellAll_35 : decode cX6_tellAll 35 = .ok (.ireturn, 1) := by decide +kernel
theorem dX6_tellAll_36 : decode cX6_tellAll 36 = .ok (.aload_n 0, 1) := by decide +kernel
theorem dX6_tellAll_37 : decode cX6_tellAll 37 = .ok (.getfield 37, 3) := by decide +kernel
theorem dX6_tellAll_40 : decode cX6_tellAll 40 = .ok (.iconst 3, 1) := by decide +kernel
theorem dX6_tellAll_41 : decode cX6_tellAll 41 = .ok (.if_icmp .eq 6, 3) := by decide +kernel
theorem dX6_tellAll_44 : decode cX6_tellAll 44 = .ok (.goto 13, 3) := by decide +kernel
theorem dX6_tellAll_47 : decode cX6_tellAll 47 = .ok (.aload_n 0, 1) := by decide +kernel
theorem dX6_tellAll_48 : decode cX6_tellAll 48 = .ok (.invokevirtual 30, 3) := by decide +kernel
theorem dX6_tellAll_51 : decode cX6_tellAll 51 = .ok (.iinc 1 1, 3) := by decide +kernel
theorem dX6_tellAll_54 : decode cX6_tellAll 54 = .ok (.goto (-43), 3) := by decide +kernel
theorem dX6_tellAll_57 : decode cX6_tellAll 57 = .ok (.iconst (-1), 1) := by decide +kernel
theorem dX6_tellAll_58 : decode cX6_tellAll 58 = .ok (.aload_n 0, 1) := by decide +kernel
theorem dX6_tellAll_59 : decode cX6_tellAll 59 = .ok (.getfield 40, 3) := by decide +kernel
theorem dX6_tellAll_62 : decode cX6_tellAll 62 = .ok (.isub, 1) := by decide +kernel
theorem dX6_tellAll_63 : decode cX6_tellAll 63 = .ok (.ireturn, 1) := by decide +kernel
theorem dX6_tellItem_0 : decode cX6_tellItem 0 = .ok (.iconst 0, 1) := by decide +kernel
theorem dX6_tellItem_1 : decode cX6_tellItem 1 = .ok (.istore_n 1, 1) := by decide +kernel
theorem dX6_tellItem_2 : decode cX6_tellItem 2 = .ok (.iload_n 1, 1) := by decide +kernel
theorem dX6_tellItem_3 : decode cX6_tellItem 3 = .ok (.bipush 6, 2) := by decide +kernel
theorem dX6_tellItem_5 : decode cX6_tellItem 5 = .ok (.if_icmp .ge 31, 3) := by decide +kernel
theorem dX6_tellItem_8 : decode cX6_tellItem 8 = .ok (.aload_n 0, 1) := by decide +kernel
theorem dX6_tellItem_9 : decode cX6_tellItem 9 = .ok (.aload_n 0, 1) := by decide +kernel
theorem dX6_tellItem_10 : decode cX6_tellItem 10 = .ok (.getfield 15, 3) := by decide +kernel
theorem dX6_tellItem_13 : decode cX6_tellItem 13 = .ok (.iload_n 1, 1) := by decide +kernel
theorem dX6_tellItem_14 : decode cX6_tellItem 14 = .ok (.aaload, 1) := by decide +kernel
theorem dX6_tellItem_15 : decode cX6_tellItem 15 = .ok (.invokevirtual 43, 3) := by decide +kernel
theorem dX6_tellItem_18 : decode cX6_tellItem 18 = .ok (.invokevirtual 49, 3) := by decide +kernel
theorem dX6_tellItem_21 : decode cX6_tellItem 21 = .ok (.ifCond .eq 9, 3) := by decide +kernel
theorem dX6_tellItem_24 : decode cX6_tellItem 24 = .ok (.aload_n 0, 1) := by decide +kernel
theorem dX6_tellItem_25 : decode cX6_tellItem 25 = .ok (.iload_n 1, 1) := by decide +kernel
theorem dX6_tellItem_26 : decode cX6_tellItem 26 = .ok (.invokevirtual 53, 3) := by decide +kernel
theorem dX6_tellItem_29 : decode cX6_tellItem 29 = .ok (.ireturn, 1) := by decide +kernel
theorem dX6_tellItem_30 : decode cX6_tellItem 30 = .ok (.iinc 1 1, 3) := by decide +kernel
theorem dX6_tellItem_33 : decode cX6_tellItem 33 = .ok (.goto (-31), 3) := by decide +kernel
theorem dX6_tellItem_36 : decode cX6_tellItem 36 = .ok (.aload_n 0, 1) := by decide +kernel
theorem dX6_tellItem_37 : decode cX6_tellItem 37 = .ok (.ldc 57, 2) := by decide +kernel
theorem dX6_tellItem_39 : decode cX6_tellItem 39 = .ok (.invokevirtual 49, 3) := by decide +kernel
theorem dX6_tellItem_42 : decode cX6_tellItem 42 = .ok (.ifCond .eq 8, 3) := by decide +kernel
theorem dX6_tellItem_45 : decode cX6_tellItem 45 = .ok (.aload_n 0, 1) := by decide +kernel
theorem dX6_tellItem_46 : decode cX6_tellItem 46 = .ok (.invokevirtual 59, 3) := by decide +kernel
theorem dX6_tellItem_49 : decode cX6_tellItem 49 = .ok (.ireturn, 1) := by decide +kernel
theorem dX6_tellItem_50 : decode cX6_tellItem 50 = .ok (.aload_n 0, 1) := by decide +kernel
theorem dX6_tellItem_51 : decode cX6_tellItem 51 = .ok (.ldc 62, 2) := by decide +kernel
theorem dX6_tellItem_53 : decode cX6_tellItem 53 = .ok (.invokevirtual 49, 3) := by decide +kernel
theorem dX6_tellItem_56 : decode cX6_tellItem 56 = .ok (.ifCond .eq 8, 3) := by decide +kernel
theorem dX6_tellItem_59 : decode cX6_tellItem 59 = .ok (.aload_n 0, 1) := by decide +kernel
theorem dX6_tellItem_60 : decode cX6_tellItem 60 = .ok (.invokevirtual 64, 3) := by decide +kernel
theorem dX6_tellItem_63 : decode cX6_tellItem 63 = .ok (.ireturn, 1) := by decide +kernel
theorem dX6_tellItem_64 : decode cX6_tellItem 64 = .ok (.aload_n 0, 1) := by decide +kernel
theorem dX6_tellItem_65 : decode cX6_tellItem 65 = .ok (.ldc 67, 2) := by decide +kernel
theorem dX6_tellItem_67 : decode cX6_tellItem 67 = .ok (.invokevirtual 49, 3) := by decide +kernel
theorem dX6_tellItem_70 : decode cX6_tellItem 70 = .ok (.ifCond .eq 14, 3) := by decide +kernel
theorem dX6_tellItem_73 : decode cX6_tellItem 73 = .ok (.aload_n 0, 1) := by decide +kernel
theorem dX6_tellItem_74 : decode cX6_tellItem 74 = .ok (.invokevirtual 69, 3) := by decide +kernel
theorem dX6_tellItem_77 : decode cX6_tellItem 77 = .ok (.ifCond .eq 7, 3) := by decide +kernel
theorem dX6_tellItem_80 : decode cX6_tellItem 80 = .ok (.iconst 1, 1) := by decide +kernel
theorem dX6_tellItem_81 : decode cX6_tellItem 81 = .ok (.goto 4, 3) := by decide +kernel
theorem dX6_tellItem_84 : decode cX6_tellItem 84 = .ok (.iconst 0, 1) := by decide +kernel
theorem dX6_tellItem_85 : decode cX6_tellItem 85 = .ok (.ireturn, 1) := by decide +kernel
theorem dX6_tellBeard_0 : decode cX6_tellBeard 0 = .ok (.aload_n 0, 1) := by decide +kernel
theorem dX6_tellBeard_1 : decode cX6_tellBeard 1 = .ok (.getfield 19, 3) := by decide +kernel
theorem dX6_tellBeard_4 : decode cX6_tellBeard 4 = .ok (.iload_n 1, 1) := by decide +kernel
theorem dX6_tellBeard_5 : decode cX6_tellBeard 5 = .ok (.invokevirtual 72, 3) := by decide +kernel
theorem dX6_tellBeard_8 : decode cX6_tellBeard 8 = .ok (.istore_n 2, 1) := by decide +kernel
theorem dX6_tellBeard_9 : decode cX6_tellBeard 9 = .ok (.iload_n 2, 1) := by decide +kernel
theorem dX6_tellBeard_10 : decode cX6_tellBeard 10 = .ok (.ifCond .ge 5, 3) := by decide +kernel
theorem dX6_tellBeard_13 : decode cX6_tellBeard 13 = .ok (.iconst 0, 1) := by decide +kernel
theorem dX6_tellBeard_14 : decode cX6_tellBeard 14 = .ok (.ireturn, 1) := by decide +kernel
theorem dX6_tellBeard_15 : decode cX6_tellBeard 15 = .ok (.aload_n 0, 1) := by decide +kernel
theorem dX6_tellBeard_16 : decode cX6_tellBeard 16 = .ok (.invokevirtual 30, 3) := by decide +kernel
theorem dX6_tellBeard_19 : decode cX6_tellBeard 19 = .ok (.aload_n 0, 1) := by decide +kernel
theorem dX6_tellBeard_20 : decode cX6_tellBeard 20 = .ok (.ldc 78, 2) := by decide +kernel
theorem dX6_tellBeard_22 : decode cX6_tellBeard 22 = .ok (.invokevirtual 49, 3) := by decide +kernel
theorem dX6_tellBeard_25 : decode cX6_tellBeard 25 = .ok (.ifCond .eq 31, 3) := by decide +kernel
theorem dX6_tellBeard_28 : decode cX6_tellBeard 28 = .ok (.aload_n 0, 1) := by decide +kernel
theorem dX6_tellBeard_29 : decode cX6_tellBeard 29 = .ok (.invokevirtual 30, 3) := by decide +kernel
theorem dX6_tellBeard_32 : decode cX6_tellBeard 32 = .ok (.aload_n 0, 1) := by decide +kernel
theorem dX6_tellBeard_33 : decode cX6_tellBeard 33 = .ok (.bipush 99, 2) := by decide +kernel
theorem dX6_tellBeard_35 : decode cX6_tellBeard 35 = .ok (.invokevirtual 80, 3) := by decide +kernel
theorem dX6_tellBeard_38 : decode cX6_tellBeard 38 = .ok (.ifCond .ne 5, 3) := by decide +kernel
theorem dX6_tellBeard_41 : decode cX6_tellBeard 41 = .ok (.iconst 0, 1) := by decide +kernel
theorem dX6_tellBeard_42 : decode cX6_tellBeard 42 = .ok (.ireturn, 1) := by decide +kernel
theorem dX6_tellBeard_43 : decode cX6_tellBeard 43 = .ok (.aload_n 0, 1) := by decide +kernel
theorem dX6_tellBeard_44 : decode cX6_tellBeard 44 = .ok (.getfield 19, 3) := by decide +kernel
theorem dX6_tellBeard_47 : decode cX6_tellBeard 47 = .ok (.getfield 83, 3) := by decide +kernel
theorem dX6_tellBeard_50 : decode cX6_tellBeard 50 = .ok (.iload_n 2, 1) := by decide +kernel
theorem dX6_tellBeard_51 : decode cX6_tellBeard 51 = .ok (.aload_n 0, 1) := by decide +kernel
theorem dX6_tellBeard_52 : decode cX6_tellBeard 52 = .ok (.invokevirtual 86, 3) := by decide +kernel
theorem dX6_tellBeard_55 : decode cX6_tellBeard 55 = .ok (.iastore, 1) := by decide +kernel
theorem dX6_tellBeard_56 : decode cX6_tellBeard 56 = .ok (.aload_n 0, 1) := by decide +kernel
theorem dX6_tellBeard_57 : decode cX6_tellBeard 57 = .ok (.ldc 90, 2) := by decide +kernel
theorem dX6_tellBeard_59 : decode cX6_tellBeard 59 = .ok (.invokevirtual 49, 3) := by decide +kernel
theorem dX6_tellBeard_62 : decode cX6_tellBeard 62 = .ok (.ifCond .eq 32, 3) := by decide +kernel
theorem dX6_tellBeard_65 : decode cX6_tellBeard 65 = .ok (.aload_n 0, 1) := by decide +kernel
theorem dX6_tellBeard_66 : decode cX6_tellBeard 66 = .ok (.invokevirtual 30, 3) := by decide +kernel
theorem dX6_tellBeard_69 : decode cX6_tellBeard 69 = .ok (.aload_n 0, 1) := by decide +kernel
theorem dX6_tellBeard_70 : decode cX6_tellBeard 70 = .ok (.sipush 999, 3) := by decide +kernel
theorem dX6_tellBeard_73 : decode cX6_tellBeard 73 = .ok (.invokevirtual 80, 3) := by decide +kernel
theorem dX6_tellBeard_76 : decode cX6_tellBeard 76 = .ok (.ifCond .ne 5, 3) := by decide +kernel
theorem dX6_tellBeard_79 : decode cX6_tellBeard 79 = .ok (.iconst 0, 1) := by decide +kernel
theorem dX6_tellBeard_80 : decode cX6_tellBeard 80 = .ok (.ireturn, 1) := by decide +kernel
theorem dX6_tellBeard_81 : decode cX6_tellBeard 81 = .ok (.aload_n 0, 1) := by decide +kernel
theorem dX6_tellBeard_82 : decode cX6_tellBeard 82 = .ok (.getfield 19, 3) := by decide +kernel
theorem dX6_tellBeard_85 : decode cX6_tellBeard 85 = .ok (.getfield 92, 3) := by decide +kernel
theorem dX6_tellBeard_88 : decode cX6_tellBeard 88 = .ok (.iload_n 2, 1) := by decide +kernel
theorem dX6_tellBeard_89 : decode cX6_tellBeard 89 = .ok (.aload_n 0, 1) := by decide +kernel
theorem dX6_tellBeard_90 : decode cX6_tellBeard 90 = .ok (.invokevirtual 86, 3) := by decide +kernel
theorem dX6_tellBeard_93 : decode cX6_tellBeard 93 = .ok (.iastore, 1) := by decide +kernel
theorem dX6_tellBeard_94 : decode cX6_tellBeard 94 = .ok (.iconst 1, 1) := by decide +kernel
theorem dX6_tellBeard_95 : decode cX6_tellBeard 95 = .ok (.ireturn, 1) := by decide +kernel
theorem dX6_tellWearer_0 : decode cX6_tellWearer 0 = .ok (.aload_n 0, 1) := by decide +kernel
theorem dX6_tellWearer_1 : decode cX6_tellWearer 1 = .ok (.getfield 19, 3) := by decide +kernel
theorem dX6_tellWearer_4 : decode cX6_tellWearer 4 = .ok (.iconst 0, 1) := by decide +kernel
theorem dX6_tellWearer_5 : decode cX6_tellWearer 5 = .ok (.invokevirtual 95, 3) := by decide +kernel
theorem dX6_tellWearer_8 : decode cX6_tellWearer 8 = .ok (.istore_n 1, 1) := by decide +kernel
theorem dX6_tellWearer_9 : decode cX6_tellWearer 9 = .ok (.iload_n 1, 1) := by decide +kernel
theorem dX6_tellWearer_10 : decode cX6_tellWearer 10 = .ok (.ifCond .ge 5, 3) := by decide +kernel
theorem dX6_tellWearer_13 : decode cX6_tellWearer 13 = .ok (.iconst 0, 1) := by decide +kernel
theorem dX6_tellWearer_14 : decode cX6_tellWearer 14 = .ok (.ireturn, 1) := by decide +kernel
theorem dX6_tellWearer_15 : decode cX6_tellWearer 15 = .ok (.aload_n 0, 1) := by decide +kernel
theorem dX6_tellWearer_16 : decode cX6_tellWearer 16 = .ok (.invokevirtual 30, 3) := by decide +kernel
theorem dX6_tellWearer_19 : decode cX6_tellWearer 19 = .ok (.aload_n 0, 1) := by decide +kernel
theorem dX6_tellWearer_20 : decode cX6_tellWearer 20 = .ok (.sipush 9999, 3) := by decide +kernel
theorem dX6_tellWearer_23 : decode cX6_tellWearer 23 = .ok (.invokevirtual 80, 3) := by decide +kernel
theorem dX6_tellWearer_26 : decode cX6_tellWearer 26 = .ok (.ifCond .ne 5, 3) := by decide +kernel
theorem dX6_tellWearer_29 : decode cX6_tellWearer 29 = .ok (.iconst 0, 1) := by decide +kernel
theorem dX6_tellWearer_30 : decode cX6_tellWearer 30 = .ok (.ireturn, 1) := by decide +kernel
theorem dX6_tellWearer_31 : decode cX6_tellWearer 31 = .ok (.aload_n 0, 1) := by decide +kernel
theorem dX6_tellWearer_32 : decode cX6_tellWearer 32 = .ok (.getfield 19, 3) := by decide +kernel
theorem dX6_tellWearer_35 : decode cX6_tellWearer 35 = .ok (.getfield 98, 3) := by decide +kernel
theorem dX6_tellWearer_38 : decode cX6_tellWearer 38 = .ok (.iload_n 1, 1) := by decide +kernel
theorem dX6_tellWearer_39 : decode cX6_tellWearer 39 = .ok (.aload_n 0, 1) := by decide +kernel
theorem dX6_tellWearer_40 : decode cX6_tellWearer 40 = .ok (.invokevirtual 86, 3) := by decide +kernel
theorem dX6_tellWearer_43 : decode cX6_tellWearer 43 = .ok (.iastore, 1) := by decide +kernel
theorem dX6_tellWearer_44 : decode cX6_tellWearer 44 = .ok (.aload_n 0, 1) := by decide +kernel
theorem dX6_tellWearer_45 : decode cX6_tellWearer 45 = .ok (.ldc 101, 2) := by decide +kernel
theorem dX6_tellWearer_47 : decode cX6_tellWearer 47 = .ok (.invokevirtual 49, 3) := by decide +kernel
theorem dX6_tellWearer_50 : decode cX6_tellWearer 50 = .ok (.ifCond .eq 30, 3) := by decide +kernel
theorem dX6_tellWearer_53 : decode cX6_tellWearer 53 = .ok (.aload_n 0, 1) := by decide +kernel
theorem dX6_tellWearer_54 : decode cX6_tellWearer 54 = .ok (.invokevirtual 30, 3) := by decide +kernel
theorem dX6_tellWearer_57 : decode cX6_tellWearer 57 = .ok (.aload_n 0, 1) := by decide +kernel
theorem dX6_tellWearer_58 : decode cX6_tellWearer 58 = .ok (.iconst 5, 1) := by decide +kernel
theorem dX6_tellWearer_59 : decode cX6_tellWearer 59 = .ok (.invokevirtual 80, 3) := by decide +kernel
theorem dX6_tellWearer_62 : decode cX6_tellWearer 62 = .ok (.ifCond .ne 5, 3) := by decide +kernel
theorem dX6_tellWearer_65 : decode cX6_tellWearer 65 = .ok (.iconst 0, 1) := by decide +kernel
theorem dX6_tellWearer_66 : decode cX6_tellWearer 66 = .ok (.ireturn, 1) := by decide +kernel
theorem dX6_tellWearer_67 : decode cX6_tellWearer 67 = .ok (.aload_n 0, 1) := by decide +kernel
theorem dX6_tellWearer_68 : decode cX6_tellWearer 68 = .ok (.getfield 19, 3) := by decide +kernel
theorem dX6_tellWearer_71 : decode cX6_tellWearer 71 = .ok (.getfield 103, 3) := by decide +kernel
theorem dX6_tellWearer_74 : decode cX6_tellWearer 74 = .ok (.iload_n 1, 1) := by decide +kernel
theorem dX6_tellWearer_75 : decode cX6_tellWearer 75 = .ok (.aload_n 0, 1) := by decide +kernel
theorem dX6_tellWearer_76 : decode cX6_tellWearer 76 = .ok (.invokevirtual 86, 3) := by decide +kernel
theorem dX6_tellWearer_79 : decode cX6_tellWearer 79 = .ok (.iastore, 1) := by decide +kernel
theorem dX6_tellWearer_80 : decode cX6_tellWearer 80 = .ok (.iconst 1, 1) := by decide +kernel
theorem dX6_tellWearer_81 : decode cX6_tellWearer 81 = .ok (.ireturn, 1) := by decide +kernel
theorem dX6_tellHouse_0 : decode cX6_tellHouse 0 = .ok (.aload_n 0, 1) := by decide +kernel
theorem dX6_tellHouse_1 : decode cX6_tellHouse 1 = .ok (.invokevirtual 30, 3) := by decide +kernel
theorem dX6_tellHouse_4 : decode cX6_tellHouse 4 = .ok (.aload_n 0, 1) := by decide +kernel
theorem dX6_tellHouse_5 : decode cX6_tellHouse 5 = .ok (.iconst 5, 1) := by decide +kernel
theorem dX6_tellHouse_6 : decode cX6_tellHouse 6 = .ok (.invokevirtual 80, 3) := by decide +kernel
theorem dX6_tellHouse_9 : decode cX6_tellHouse 9 = .ok (.ifCond .ne 5, 3) := by decide +kernel
theorem dX6_tellHouse_12 : decode cX6_tellHouse 12 = .ok (.iconst 0, 1) := by decide +kernel
theorem dX6_tellHouse_13 : decode cX6_tellHouse 13 = .ok (.ireturn, 1) := by decide +kernel
theorem dX6_tellHouse_14 : decode cX6_tellHouse 14 = .ok (.aload_n 0, 1) := by decide +kernel
theorem dX6_tellHouse_15 : decode cX6_tellHouse 15 = .ok (.invokevirtual 86, 3) := by decide +kernel
theorem dX6_tellHouse_18 : decode cX6_tellHouse 18 = .ok (.istore_n 1, 1) := by decide +kernel
theorem dX6_tellHouse_19 : decode cX6_tellHouse 19 = .ok (.aload_n 0, 1) := by decide +kernel
theorem dX6_tellHouse_20 : decode cX6_tellHouse 20 = .ok (.ldc 106, 2) := by decide +kernel
theorem dX6_tellHouse_22 : decode cX6_tellHouse 22 = .ok (.invokevirtual 49, 3) := by decide +kernel
theorem dX6_tellHouse_25 : decode cX6_tellHouse 25 = .ok (.istore_n 2, 1) := by decide +kernel
theorem dX6_tellHouse_26 : decode cX6_tellHouse 26 = .ok (.iload_n 2, 1) := by decide +kernel
theorem dX6_tellHouse_27 : decode cX6_tellHouse 27 = .ok (.ifCond .ne 14, 3) := by decide +kernel
theorem dX6_tellHouse_30 : decode cX6_tellHouse 30 = .ok (.aload_n 0, 1) := by decide +kernel
theorem dX6_tellHouse_31 : decode cX6_tellHouse 31 = .ok (.ldc 108, 2) := by decide +kernel
theorem dX6_tellHouse_33 : decode cX6_tellHouse 33 = .ok (.invokevirtual 49, 3) := by decide +kernel
theorem dX6_tellHouse_36 : decode cX6_tellHouse 36 = .ok (.ifCond .ne 5, 3) := by decide +kernel
theorem dX6_tellHouse_39 : decode cX6_tellHouse 39 = .ok (.iconst 0, 1) := by decide +kernel
theorem dX6_tellHouse_40 : decode cX6_tellHouse 40 = .ok (.ireturn, 1) := by decide +kernel
theorem dX6_tellHouse_41 : decode cX6_tellHouse 41 = .ok (.aload_n 0, 1) := by decide +kernel
theorem dX6_tellHouse_42 : decode cX6_tellHouse 42 = .ok (.invokevirtual 30, 3) := by decide +kernel
theorem dX6_tellHouse_45 : decode cX6_tellHouse 45 = .ok (.aload_n 0, 1) := by decide +kernel
theorem dX6_tellHouse_46 : decode cX6_tellHouse 46 = .ok (.bipush 50, 2) := by decide +kernel
theorem dX6_tellHouse_48 : decode cX6_tellHouse 48 = .ok (.invokevirtual 80, 3) := by decide +kernel
theorem dX6_tellHouse_51 : decode cX6_tellHouse 51 = .ok (.ifCond .ne 5, 3) := by decide +kernel
theorem dX6_tellHouse_54 : decode cX6_tellHouse 54 = .ok (.iconst 0, 1) := by decide +kernel
theorem dX6_tellHouse_55 : decode cX6_tellHouse 55 = .ok (.ireturn, 1) := by decide +kernel
theorem dX6_tellHouse_56 : decode cX6_tellHouse 56 = .ok (.aload_n 0, 1) := by decide +kernel
theorem dX6_tellHouse_57 : decode cX6_tellHouse 57 = .ok (.invokevirtual 86, 3) := by decide +kernel
theorem dX6_tellHouse_60 : decode cX6_tellHouse 60 = .ok (.istore_n 3, 1) := by decide +kernel
theorem dX6_tellHouse_61 : decode cX6_tellHouse 61 = .ok (.aload_n 0, 1) := by decide +kernel
theorem dX6_tellHouse_62 : decode cX6_tellHouse 62 = .ok (.getfield 19, 3) := by decide +kernel
theorem dX6_tellHouse_65 : decode cX6_tellHouse 65 = .ok (.getfield 110, 3) := by decide +kernel
theorem dX6_tellHouse_68 : decode cX6_tellHouse 68 = .ok (.iload_n 1, 1) := by decide +kernel
theorem dX6_tellHouse_69 : decode cX6_tellHouse 69 = .ok (.iload_n 2, 1) := by decide +kernel
theorem dX6_tellHouse_70 : decode cX6_tellHouse 70 = .ok (.ifCond .eq 8, 3) := by decide +kernel
theorem dX6_tellHouse_73 : decode cX6_tellHouse 73 = .ok (.iload_n 3, 1) := by decide +kernel
theorem dX6_tellHouse_74 : decode cX6_tellHouse 74 = .ok (.ineg, 1) := by decide +kernel
theorem dX6_tellHouse_75 : decode cX6_tellHouse 75 = .ok (.goto 4, 3) := by decide +kernel
theorem dX6_tellHouse_78 : decode cX6_tellHouse 78 = .ok (.iload_n 3, 1) := by decide +kernel
theorem dX6_tellHouse_79 : decode cX6_tellHouse 79 = .ok (.iastore, 1) := by decide +kernel
theorem dX6_tellHouse_80 : decode cX6_tellHouse 80 = .ok (.iconst 1, 1) := by decide +kernel
theorem dX6_tellHouse_81 : decode cX6_tellHouse 81 = .ok (.ireturn, 1) := by decide +kernel
theorem dX6_tellHire_0 : decode cX6_tellHire 0 = .ok (.aload_n 0, 1) := by decide +kernel
theorem dX6_tellHire_1 : decode cX6_tellHire 1 = .ok (.invokevirtual 30, 3) := by decide +kernel
theorem dX6_tellHire_4 : decode cX6_tellHire 4 = .ok (.aload_n 0, 1) := by decide +kernel
theorem dX6_tellHire_5 : decode cX6_tellHire 5 = .ok (.aload_n 0, 1) := by decide +kernel
theorem dX6_tellHire_6 : decode cX6_tellHire 6 = .ok (.getfield 19, 3) := by decide +kernel
theorem dX6_tellHire_9 : decode cX6_tellHire 9 = .ok (.getfield 113, 3) := by decide +kernel
theorem dX6_tellHire_12 : decode cX6_tellHire 12 = .ok (.iconst 1, 1) := by decide +kernel
theorem dX6_tellHire_13 : decode cX6_tellHire 13 = .ok (.isub, 1) := by decide +kernel
theorem dX6_tellHire_14 : decode cX6_tellHire 14 = .ok (.invokevirtual 80, 3) := by decide +kernel
theorem dX6_tellHire_17 : decode cX6_tellHire 17 = .ok (.ifCond .eq 19, 3) := by decide +kernel
theorem dX6_tellHire_20 : decode cX6_tellHire 20 = .ok (.aload_n 0, 1) := by decide +kernel
theorem dX6_tellHire_21 : decode cX6_tellHire 21 = .ok (.getfield 19, 3) := by decide +kernel
theorem dX6_tellHire_24 : decode cX6_tellHire 24 = .ok (.getfield 116, 3) := by decide +kernel
theorem dX6_tellHire_27 : decode cX6_tellHire 27 = .ok (.aload_n 0, 1) := by decide +kernel
theorem dX6_tellHire_28 : decode cX6_tellHire 28 = .ok (.getfield 119, 3) := by decide +kernel
theorem dX6_tellHire_31 : decode cX6_tellHire 31 = .ok (.iaload, 1) := by decide +kernel
theorem dX6_tellHire_32 : decode cX6_tellHire 32 = .ok (.iconst (-1), 1) := by decide +kernel
theorem dX6_tellHire_33 : decode cX6_tellHire 33 = .ok (.if_icmp .eq 5, 3) := by decide +kernel
theorem dX6_tellHire_36 : decode cX6_tellHire 36 = .ok (.iconst 0, 1) := by decide +kernel
theorem dX6_tellHire_37 : decode cX6_tellHire 37 = .ok (.ireturn, 1) := by decide +kernel
theorem dX6_tellHire_38 : decode cX6_tellHire 38 = .ok (.aload_n 0, 1) := by decide +kernel
theorem dX6_tellHire_39 : decode cX6_tellHire 39 = .ok (.invokevirtual 86, 3) := by decide +kernel
theorem dX6_tellHire_42 : decode cX6_tellHire 42 = .ok (.istore_n 1, 1) := by decide +kernel
theorem dX6_tellHire_43 : decode cX6_tellHire 43 = .ok (.aload_n 0, 1) := by decide +kernel
theorem dX6_tellHire_44 : decode cX6_tellHire 44 = .ok (.aload_n 0, 1) := by decide +kernel
theorem dX6_tellHire_45 : decode cX6_tellHire 45 = .ok (.getfield 19, 3) := by decide +kernel
theorem dX6_tellHire_48 : decode cX6_tellHire 48 = .ok (.getfield 122, 3) := by decide +kernel
theorem dX6_tellHire_51 : decode cX6_tellHire 51 = .ok (.iconst 1, 1) := by decide +kernel
theorem dX6_tellHire_52 : decode cX6_tellHire 52 = .ok (.isub, 1) := by decide +kernel
theorem dX6_tellHire_53 : decode cX6_tellHire 53 = .ok (.invokevirtual 80, 3) := by decide +kernel
theorem dX6_tellHire_56 : decode cX6_tellHire 56 = .ok (.ifCond .eq 19, 3) := by decide +kernel
theorem dX6_tellHire_59 : decode cX6_tellHire 59 = .ok (.aload_n 0, 1) := by decide +kernel
theorem dX6_tellHire_60 : decode cX6_tellHire 60 = .ok (.getfield 19, 3) := by decide +kernel
theorem dX6_tellHire_63 : decode cX6_tellHire 63 = .ok (.getfield 125, 3) := by decide +kernel
theorem dX6_tellHire_66 : decode cX6_tellHire 66 = .ok (.aload_n 0, 1) := by decide +kernel
theorem dX6_tellHire_67 : decode cX6_tellHire 67 = .ok (.getfield 119, 3) := by decide +kernel
theorem dX6_tellHire_70 : decode cX6_tellHire 70 = .ok (.iaload, 1) := by decide +kernel
theorem dX6_tellHire_71 : decode cX6_tellHire 71 = .ok (.iconst (-1), 1) := by decide +kernel
theorem dX6_tellHire_72 : decode cX6_tellHire 72 = .ok (.if_icmp .eq 5, 3) := by decide +kernel
theorem dX6_tellHire_75 : decode cX6_tellHire 75 = .ok (.iconst 0, 1) := by decide +kernel
theorem dX6_tellHire_76 : decode cX6_tellHire 76 = .ok (.ireturn, 1) := by decide +kernel
theorem dX6_tellHire_77 : decode cX6_tellHire 77 = .ok (.aload_n 0, 1) := by decide +kernel
theorem dX6_tellHire_78 : decode cX6_tellHire 78 = .ok (.getfield 19, 3) := by decide +kernel
theorem dX6_tellHire_81 : decode cX6_tellHire 81 = .ok (.iload_n 1, 1) := by decide +kernel
theorem dX6_tellHire_82 : decode cX6_tellHire 82 = .ok (.aload_n 0, 1) := by decide +kernel
theorem dX6_tellHire_83 : decode cX6_tellHire 83 = .ok (.invokevirtual 86, 3) := by decide +kernel
theorem dX6_tellHire_86 : decode cX6_tellHire 86 = .ok (.invokevirtual 128, 3) := by decide +kernel
theorem dX6_tellHire_89 : decode cX6_tellHire 89 = .ok (.iconst 1, 1) := by decide +kernel
theorem dX6_tellHire_90 : decode cX6_tellHire 90 = .ok (.ireturn, 1) := by decide +kernel
theorem dX6_isWord_0 : decode cX6_isWord 0 = .ok (.aload_n 0, 1) := by decide +kernel
theorem dX6_isWord_1 : decode cX6_isWord 1 = .ok (.getfield 37, 3) := by decide +kernel
theorem dX6_isWord_4 : decode cX6_isWord 4 = .ok (.iconst 1, 1) := by decide +kernel
theorem dX6_isWord_5 : decode cX6_isWord 5 = .ok (.if_icmp .ne 19, 3) := by decide +kernel
theorem dX6_isWord_8 : decode cX6_isWord 8 = .ok (.aload_n 0, 1) := by decide +kernel
theorem dX6_isWord_9 : decode cX6_isWord 9 = .ok (.getfield 27, 3) := by decide +kernel
theorem dX6_isWord_12 : decode cX6_isWord 12 = .ok (.aload_n 0, 1) := by decide +kernel
theorem dX6_isWord_13 : decode cX6_isWord 13 = .ok (.getfield 40, 3) := by decide +kernel
theorem dX6_isWord_16 : decode cX6_isWord 16 = .ok (.isub, 1) := by decide +kernel
theorem dX6_isWord_17 : decode cX6_isWord 17 = .ok (.aload_n 1, 1) := by decide +kernel
theorem dX6_isWord_18 : decode cX6_isWord 18 = .ok (.invokevirtual 132, 3) := by decide +kernel
theorem dX6_isWord_21 : decode cX6_isWord 21 = .ok (.if_icmp .eq 5, 3) := by decide +kernel
theorem dX6_isWord_24 : decode cX6_isWord 24 = .ok (.iconst 0, 1) := by decide +kernel
theorem dX6_isWord_25 : decode cX6_isWord 25 = .ok (.ireturn, 1) := by decide +kernel
theorem dX6_isWord_26 : decode cX6_isWord 26 = .ok (.iconst 0, 1) := by decide +kernel
theorem dX6_isWord_27 : decode cX6_isWord 27 = .ok (.istore_n 2, 1) := by decide +kernel
theorem dX6_isWord_28 : decode cX6_isWord 28 = .ok (.iload_n 2, 1) := by decide +kernel
theorem dX6_isWord_29 : decode cX6_isWord 29 = .ok (.aload_n 1, 1) := by decide +kernel
theorem dX6_isWord_30 : decode cX6_isWord 30 = .ok (.invokevirtual 132, 3) := by decide +kernel
theorem dX6_isWord_33 : decode cX6_isWord 33 = .ok (.if_icmp .ge 30, 3) := by decide +kernel
theorem dX6_isWord_36 : decode cX6_isWord 36 = .ok (.aload_n 0, 1) := by decide +kernel
theorem dX6_isWord_37 : decode cX6_isWord 37 = .ok (.getfield 9, 3) := by decide +kernel
theorem dX6_isWord_40 : decode cX6_isWord 40 = .ok (.aload_n 0, 1) := by decide +kernel
theorem dX6_isWord_41 : decode cX6_isWord 41 = .ok (.getfield 40, 3) := by decide +kernel
theorem dX6_isWord_44 : decode cX6_isWord 44 = .ok (.iload_n 2, 1) := by decide +kernel
theorem dX6_isWord_45 : decode cX6_isWord 45 = .ok (.iadd, 1) := by decide +kernel
theorem dX6_isWord_46 : decode cX6_isWord 46 = .ok (.iaload, 1) := by decide +kernel
theorem dX6_isWord_47 : decode cX6_isWord 47 = .ok (.aload_n 1, 1) := by decide +kernel
theorem dX6_isWord_48 : decode cX6_isWord 48 = .ok (.iload_n 2, 1) := by decide +kernel
theorem dX6_isWord_49 : decode cX6_isWord 49 = .ok (.invokevirtual 136, 3) := by decide +kernel
theorem dX6_isWord_52 : decode cX6_isWord 52 = .ok (.if_icmp .eq 5, 3) := by decide +kernel
theorem dX6_isWord_55 : decode cX6_isWord 55 = .ok (.iconst 0, 1) := by decide +kernel
theorem dX6_isWord_56 : decode cX6_isWord 56 = .ok (.ireturn, 1) := by decide +kernel
theorem dX6_isWord_57 : decode cX6_isWord 57 = .ok (.iinc 2 1, 3) := by decide +kernel
theorem dX6_isWord_60 : decode cX6_isWord 60 = .ok (.goto (-32), 3) := by decide +kernel
theorem dX6_isWord_63 : decode cX6_isWord 63 = .ok (.iconst 1, 1) := by decide +kernel
theorem dX6_isWord_64 : decode cX6_isWord 64 = .ok (.ireturn, 1) := by decide +kernel
theorem dX6_isNumber_0 : decode cX6_isNumber 0 = .ok (.aload_n 0, 1) := by decide +kernel
theorem dX6_isNumber_1 : decode cX6_isNumber 1 = .ok (.getfield 37, 3) := by decide +kernel
theorem dX6_isNumber_4 : decode cX6_isNumber 4 = .ok (.iconst 2, 1) := by decide +kernel
theorem dX6_isNumber_5 : decode cX6_isNumber 5 = .ok (.if_icmp .ne 15, 3) := by decide +kernel
theorem dX6_isNumber_8 : decode cX6_isNumber 8 = .ok (.aload_n 0, 1) := by decide +kernel
theorem dX6_isNumber_9 : decode cX6_isNumber 9 = .ok (.getfield 119, 3) := by decide +kernel
theorem dX6_isNumber_12 : decode cX6_isNumber 12 = .ok (.iload_n 1, 1) := by decide +kernel
theorem dX6_isNumber_13 : decode cX6_isNumber 13 = .ok (.if_icmp .gt 7, 3) := by decide +kernel
theorem dX6_isNumber_16 : decode cX6_isNumber 16 = .ok (.iconst 1, 1) := by decide +kernel
theorem dX6_isNumber_17 : decode cX6_isNumber 17 = .ok (.goto 4, 3) := by decide +kernel
theorem dX6_isNumber_20 : decode cX6_isNumber 20 = .ok (.iconst 0, 1) := by decide +kernel
theorem dX6_isNumber_21 : decode cX6_isNumber 21 = .ok (.ireturn, 1) := by decide +kernel
theorem dX6_takeNumber_0 : decode cX6_takeNumber 0 = .ok (.aload_n 0, 1) := by decide +kernel
theorem dX6_takeNumber_1 : decode cX6_takeNumber 1 = .ok (.getfield 119, 3) := by decide +kernel
theorem dX6_takeNumber_4 : decode cX6_takeNumber 4 = .ok (.istore_n 1, 1) := by decide +kernel
theorem dX6_takeNumber_5 : decode cX6_takeNumber 5 = .ok (.aload_n 0, 1) := by decide +kernel
theorem dX6_takeNumber_6 : decode cX6_takeNumber 6 = .ok (.invokevirtual 30, 3) := by decide +kernel
theorem dX6_takeNumber_9 : decode cX6_takeNumber 9 = .ok (.iload_n 1, 1) := by decide +kernel
theorem dX6_takeNumber_10 : decode cX6_takeNumber 10 = .ok (.ireturn, 1) := by decide +kernel
theorem dX6_advance_0 : decode cX6_advance 0 = .ok (.aload_n 0, 1) := by decide +kernel
theorem dX6_advance_1 : decode cX6_advance 1 = .ok (.aload_n 0, 1) := by decide +kernel
theorem dX6_advance_2 : decode cX6_advance 2 = .ok (.getfield 27, 3) := by decide +kernel
theorem dX6_advance_5 : decode cX6_advance 5 = .ok (.putfield 40, 3) := by decide +kernel
theorem dX6_advance_8 : decode cX6_advance 8 = .ok (.aload_n 0, 1) := by decide +kernel
theorem dX6_advance_9 : decode cX6_advance 9 = .ok (.getfield 40, 3) := by decide +kernel
theorem dX6_advance_12 : decode cX6_advance 12 = .ok (.aload_n 0, 1) := by decide +kernel
theorem dX6_advance_13 : decode cX6_advance 13 = .ok (.getfield 23, 3) := by decide +kernel
theorem dX6_advance_16 : decode cX6_advance 16 = .ok (.if_icmp .ge 30, 3) := by decide +kernel
theorem dX6_advance_19 : decode cX6_advance 19 = .ok (.aload_n 0, 1) := by decide +kernel
theorem dX6_advance_20 : decode cX6_advance 20 = .ok (.getfield 9, 3) := by decide +kernel
theorem dX6_advance_23 : decode cX6_advance 23 = .ok (.aload_n 0, 1) := by decide +kernel
theorem dX6_advance_24 : decode cX6_advance 24 = .ok (.getfield 40, 3) := by decide +kernel
theorem dX6_advance_27 : decode cX6_advance 27 = .ok (.iaload, 1) := by decide +kernel
theorem dX6_advance_28 : decode cX6_advance 28 = .ok (.bipush 32, 2) := by decide +kernel
theorem dX6_advance_30 : decode cX6_advance 30 = .ok (.if_icmp .ne 16, 3) := by decide +kernel
theorem dX6_advance_33 : decode cX6_advance 33 = .ok (.aload_n 0, 1) := by decide +kernel
theorem dX6_advance_34 : decode cX6_advance 34 = .ok (.dup, 1) := by decide +kernel
theorem dX6_advance_35 : decode cX6_advance 35 = .ok (.getfield 40, 3) := by decide +kernel
theorem dX6_advance_38 : decode cX6_advance 38 = .ok (.iconst 1, 1) := by decide +kernel
theorem dX6_advance_39 : decode cX6_advance 39 = .ok (.iadd, 1) := by decide +kernel
theorem dX6_advance_40 : decode cX6_advance 40 = .ok (.putfield 40, 3) := by decide +kernel
theorem dX6_advance_43 : decode cX6_advance 43 = .ok (.goto (-35), 3) := by decide +kernel
theorem dX6_advance_46 : decode cX6_advance 46 = .ok (.aload_n 0, 1) := by decide +kernel
theorem dX6_advance_47 : decode cX6_advance 47 = .ok (.aload_n 0, 1) := by decide +kernel
theorem dX6_advance_48 : decode cX6_advance 48 = .ok (.getfield 40, 3) := by decide +kernel
theorem dX6_advance_51 : decode cX6_advance 51 = .ok (.putfield 27, 3) := by decide +kernel
theorem dX6_advance_54 : decode cX6_advance 54 = .ok (.aload_n 0, 1) := by decide +kernel
theorem dX6_advance_55 : decode cX6_advance 55 = .ok (.getfield 40, 3) := by decide +kernel
theorem dX6_advance_58 : decode cX6_advance 58 = .ok (.aload_n 0, 1) := by decide +kernel
theorem dX6_advance_59 : decode cX6_advance 59 = .ok (.getfield 23, 3) := by decide +kernel
theorem dX6_advance_62 : decode cX6_advance 62 = .ok (.if_icmp .lt 11, 3) := by decide +kernel
theorem dX6_advance_65 : decode cX6_advance 65 = .ok (.aload_n 0, 1) := by decide +kernel
theorem dX6_advance_66 : decode cX6_advance 66 = .ok (.iconst 0, 1) := by decide +kernel
theorem dX6_advance_67 : decode cX6_advance 67 = .ok (.putfield 37, 3) := by decide +kernel
theorem dX6_advance_70 : decode cX6_advance 70 = .ok (.goto 189, 3) := by decide +kernel
theorem dX6_advance_73 : decode cX6_advance 73 = .ok (.aload_n 0, 1) := by decide +kernel
theorem dX6_advance_74 : decode cX6_advance 74 = .ok (.getfield 9, 3) := by decide +kernel
theorem dX6_advance_77 : decode cX6_advance 77 = .ok (.aload_n 0, 1) := by decide +kernel
theorem dX6_advance_78 : decode cX6_advance 78 = .ok (.getfield 40, 3) := by decide +kernel
theorem dX6_advance_81 : decode cX6_advance 81 = .ok (.iaload, 1) := by decide +kernel
theorem dX6_advance_82 : decode cX6_advance 82 = .ok (.invokestatic 140, 3) := by decide +kernel
theorem dX6_advance_85 : decode cX6_advance 85 = .ok (.ifCond .eq 47, 3) := by decide +kernel
theorem dX6_advance_88 : decode cX6_advance 88 = .ok (.aload_n 0, 1) := by decide +kernel
theorem dX6_advance_89 : decode cX6_advance 89 = .ok (.iconst 1, 1) := by decide +kernel
theorem dX6_advance_90 : decode cX6_advance 90 = .ok (.putfield 37, 3) := by decide +kernel
theorem dX6_advance_93 : decode cX6_advance 93 = .ok (.aload_n 0, 1) := by decide +kernel
theorem dX6_advance_94 : decode cX6_advance 94 = .ok (.getfield 27, 3) := by decide +kernel
theorem dX6_advance_97 : decode cX6_advance 97 = .ok (.aload_n 0, 1) := by decide +kernel
theorem dX6_advance_98 : decode cX6_advance 98 = .ok (.getfield 23, 3) := by decide +kernel
theorem dX6_advance_101 : decode cX6_advance 101 = .ok (.if_icmp .ge 158, 3) := by decide +kernel
theorem dX6_advance_104 : decode cX6_advance 104 = .ok (.aload_n 0, 1) := by decide +kernel
theorem dX6_advance_105 : decode cX6_advance 105 = .ok (.getfield 9, 3) := by decide +kernel
theorem dX6_advance_108 : decode cX6_advance 108 = .ok (.aload_n 0, 1) := by decide +kernel
theorem dX6_advance_109 : decode cX6_advance 109 = .ok (.getfield 27, 3) := by decide +kernel
theorem dX6_advance_112 : decode cX6_advance 112 = .ok (.iaload, 1) := by decide +kernel
theorem dX6_advance_113 : decode cX6_advance 113 = .ok (.invokestatic 140, 3) := by decide +kernel
theorem dX6_advance_116 : decode cX6_advance 116 = .ok (.ifCond .eq 143, 3) := by decide +kernel
theorem dX6_advance_119 : decode cX6_advance 119 = .ok (.aload_n 0, 1) := by decide +kernel
theorem dX6_advance_120 : decode cX6_advance 120 = .ok (.dup, 1) := by decide +kernel
theorem dX6_advance_121 : decode cX6_advance 121 = .ok (.getfield 27, 3) := by decide +kernel
theorem dX6_advance_124 : decode cX6_advance 124 = .ok (.iconst 1, 1) := by decide +kernel
theorem dX6_advance_125 : decode cX6_advance 125 = .ok (.iadd, 1) := by decide +kernel
theorem dX6_advance_126 : decode cX6_advance 126 = .ok (.putfield 27, 3) := by decide +kernel
theorem dX6_advance_129 : decode cX6_advance 129 = .ok (.goto (-36), 3) := by decide +kernel
theorem dX6_advance_132 : decode cX6_advance 132 = .ok (.aload_n 0, 1) := by decide +kernel
theorem dX6_advance_133 : decode cX6_advance 133 = .ok (.getfield 9, 3) := by decide +kernel
theorem dX6_advance_136 : decode cX6_advance 136 = .ok (.aload_n 0, 1) := by decide +kernel
theorem dX6_advance_137 : decode cX6_advance 137 = .ok (.getfield 40, 3) := by decide +kernel
theorem dX6_advance_140 : decode cX6_advance 140 = .ok (.iaload, 1) := by decide +kernel
theorem dX6_advance_141 : decode cX6_advance 141 = .ok (.invokestatic 143, 3) := by decide +kernel
theorem dX6_advance_144 : decode cX6_advance 144 = .ok (.ifCond .eq 82, 3) := by decide +kernel
theorem dX6_advance_147 : decode cX6_advance 147 = .ok (.aload_n 0, 1) := by decide +kernel
theorem dX6_advance_148 : decode cX6_advance 148 = .ok (.iconst 2, 1) := by decide +kernel
theorem dX6_advance_149 : decode cX6_advance 149 = .ok (.putfield 37, 3) := by decide +kernel
theorem dX6_advance_152 : decode cX6_advance 152 = .ok (.aload_n 0, 1) := by decide +kernel
theorem dX6_advance_153 : decode cX6_advance 153 = .ok (.iconst 0, 1) := by decide +kernel
theorem dX6_advance_154 : decode cX6_advance 154 = .ok (.putfield 119, 3) := by decide +kernel
theorem dX6_advance_157 : decode cX6_advance 157 = .ok (.aload_n 0, 1) := by decide +kernel
theorem dX6_advance_158 : decode cX6_advance 158 = .ok (.getfield 27, 3) := by decide +kernel
theorem dX6_advance_161 : decode cX6_advance 161 = .ok (.aload_n 0, 1) := by decide +kernel
theorem dX6_advance_162 : decode cX6_advance 162 = .ok (.getfield 23, 3) := by decide +kernel
theorem dX6_advance_165 : decode cX6_advance 165 = .ok (.if_icmp .ge 94, 3) := by decide +kernel
theorem dX6_advance_168 : decode cX6_advance 168 = .ok (.aload_n 0, 1) := by decide +kernel
theorem dX6_advance_169 : decode cX6_advance 169 = .ok (.getfield 9, 3) := by decide +kernel
theorem dX6_advance_172 : decode cX6_advance 172 = .ok (.aload_n 0, 1) := by decide +kernel
theorem dX6_advance_173 : decode cX6_advance 173 = .ok (.getfield 27, 3) := by decide +kernel
theorem dX6_advance_176 : decode cX6_advance 176 = .ok (.iaload, 1) := by decide +kernel
theorem dX6_advance_177 : decode cX6_advance 177 = .ok (.invokestatic 143, 3) := by decide +kernel
theorem dX6_advance_180 : decode cX6_advance 180 = .ok (.ifCond .eq 79, 3) := by decide +kernel
theorem dX6_advance_183 : decode cX6_advance 183 = .ok (.aload_n 0, 1) := by decide +kernel
theorem dX6_advance_184 : decode cX6_advance 184 = .ok (.sipush 10000, 3) := by decide +kernel
theorem dX6_advance_187 : decode cX6_advance 187 = .ok (.aload_n 0, 1) := by decide +kernel
theorem dX6_advance_188 : decode cX6_advance 188 = .ok (.getfield 119, 3) := by decide +kernel
theorem dX6_advance_191 : decode cX6_advance 191 = .ok (.bipush 10, 2) := by decide +kernel
theorem dX6_advance_193 : decode cX6_advance 193 = .ok (.imul, 1) := by decide +kernel
theorem dX6_advance_194 : decode cX6_advance 194 = .ok (.aload_n 0, 1) := by decide +kernel
theorem dX6_advance_195 : decode cX6_advance 195 = .ok (.getfield 9, 3) := by decide +kernel
theorem dX6_advance_198 : decode cX6_advance 198 = .ok (.aload_n 0, 1) := by decide +kernel
theorem dX6_advance_199 : decode cX6_advance 199 = .ok (.getfield 27, 3) := by decide +kernel
theorem dX6_advance_202 : decode cX6_advance 202 = .ok (.iaload, 1) := by decide +kernel
theorem dX6_advance_203 : decode cX6_advance 203 = .ok (.iadd, 1) := by decide +kernel
theorem dX6_advance_204 : decode cX6_advance 204 = .ok (.bipush 48, 2) := by decide +kernel
theorem dX6_advance_206 : decode cX6_advance 206 = .ok (.isub, 1) := by decide +kernel
theorem dX6_advance_207 : decode cX6_advance 207 = .ok (.invokestatic 146, 3) := by decide +kernel
theorem dX6_advance_210 : decode cX6_advance 210 = .ok (.putfield 119, 3) := by decide +kernel
theorem dX6_advance_213 : decode cX6_advance 213 = .ok (.aload_n 0, 1) := by decide +kernel
theorem dX6_advance_214 : decode cX6_advance 214 = .ok (.dup, 1) := by decide +kernel
theorem dX6_advance_215 : decode cX6_advance 215 = .ok (.getfield 27, 3) := by decide +kernel
theorem dX6_advance_218 : decode cX6_advance 218 = .ok (.iconst 1, 1) := by decide +kernel
theorem dX6_advance_219 : decode cX6_advance 219 = .ok (.iadd, 1) := by decide +kernel
theorem dX6_advance_220 : decode cX6_advance 220 = .ok (.putfield 27, 3) := by decide +kernel
theorem dX6_advance_223 : decode cX6_advance 223 = .ok (.goto (-66), 3) := by decide +kernel
theorem dX6_advance_226 : decode cX6_advance 226 = .ok (.aload_n 0, 1) := by decide +kernel
theorem dX6_advance_227 : decode cX6_advance 227 = .ok (.aload_n 0, 1) := by decide +kernel
theorem dX6_advance_228 : decode cX6_advance 228 = .ok (.getfield 9, 3) := by decide +kernel
theorem dX6_advance_231 : decode cX6_advance 231 = .ok (.aload_n 0, 1) := by decide +kernel
theorem dX6_advance_232 : decode cX6_advance 232 = .ok (.getfield 40, 3) := by decide +kernel
theorem dX6_advance_235 : decode cX6_advance 235 = .ok (.iaload, 1) := by decide +kernel
theorem dX6_advance_236 : decode cX6_advance 236 = .ok (.bipush 59, 2) := by decide +kernel
theorem dX6_advance_238 : decode cX6_advance 238 = .ok (.if_icmp .ne 7, 3) := by decide +kernel
theorem dX6_advance_241 : decode cX6_advance 241 = .ok (.iconst 3, 1) := by decide +kernel
theorem dX6_advance_242 : decode cX6_advance 242 = .ok (.goto 4, 3) := by decide +kernel
theorem dX6_advance_245 : decode cX6_advance 245 = .ok (.iconst 4, 1) := by decide +kernel
theorem dX6_advance_246 : decode cX6_advance 246 = .ok (.putfield 37, 3) := by decide +kernel
theorem dX6_advance_249 : decode cX6_advance 249 = .ok (.aload_n 0, 1) := by decide +kernel
theorem dX6_advance_250 : decode cX6_advance 250 = .ok (.dup, 1) := by decide +kernel
theorem dX6_advance_251 : decode cX6_advance 251 = .ok (.getfield 27, 3) := by decide +kernel
theorem dX6_advance_254 : decode cX6_advance 254 = .ok (.iconst 1, 1) := by decide +kernel
theorem dX6_advance_255 : decode cX6_advance 255 = .ok (.iadd, 1) := by decide +kernel
theorem dX6_advance_256 : decode cX6_advance 256 = .ok (.putfield 27, 3) := by decide +kernel
theorem dX6_advance_259 : decode cX6_advance 259 = .ok (.return_, 1) := by decide +kernel
theorem dX6_isLetter_0 : decode cX6_isLetter 0 = .ok (.iload_n 0, 1) := by decide +kernel
theorem dX6_isLetter_1 : decode cX6_isLetter 1 = .ok (.bipush 97, 2) := by decide +kernel
theorem dX6_isLetter_3 : decode cX6_isLetter 3 = .ok (.if_icmp .lt 13, 3) := by decide +kernel
theorem dX6_isLetter_6 : decode cX6_isLetter 6 = .ok (.iload_n 0, 1) := by decide +kernel
theorem dX6_isLetter_7 : decode cX6_isLetter 7 = .ok (.bipush 122, 2) := by decide +kernel
theorem dX6_isLetter_9 : decode cX6_isLetter 9 = .ok (.if_icmp .gt 7, 3) := by decide +kernel
theorem dX6_isLetter_12 : decode cX6_isLetter 12 = .ok (.iconst 1, 1) := by decide +kernel
theorem dX6_isLetter_13 : decode cX6_isLetter 13 = .ok (.goto 4, 3) := by decide +kernel
theorem dX6_isLetter_16 : decode cX6_isLetter 16 = .ok (.iconst 0, 1) := by decide +kernel
theorem dX6_isLetter_17 : decode cX6_isLetter 17 = .ok (.ireturn, 1) := by decide +kernel
theorem dX6_isDigit_0 : decode cX6_isDigit 0 = .ok (.iload_n 0, 1) := by decide +kernel
theorem dX6_isDigit_1 : decode cX6_isDigit 1 = .ok (.bipush 48, 2) := by decide +kernel
theorem dX6_isDigit_3 : decode cX6_isDigit 3 = .ok (.if_icmp .lt 13, 3) := by decide +kernel
theorem dX6_isDigit_6 : decode cX6_isDigit 6 = .ok (.iload_n 0, 1) := by decide +kernel
theorem dX6_isDigit_7 : decode cX6_isDigit 7 = .ok (.bipush 57, 2) := by decide +kernel
theorem dX6_isDigit_9 : decode cX6_isDigit 9 = .ok (.if_icmp .gt 7, 3) := by decide +kernel
theorem dX6_isDigit_12 : decode cX6_isDigit 12 = .ok (.iconst 1, 1) := by decide +kernel
theorem dX6_isDigit_13 : decode cX6_isDigit 13 = .ok (.goto 4, 3) := by decide +kernel
theorem dX6_isDigit_16 : decode cX6_isDigit 16 = .ok (.iconst 0, 1) := by decide +kernel
theorem dX6_isDigit_17 : decode cX6_isDigit 17 = .ok (.ireturn, 1) := by decide +kernel
