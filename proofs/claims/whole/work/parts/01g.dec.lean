theorem dX10_best_103 : decode cX10_best 103 = .ok (.iastore, 1) := by decide +kernel
theorem dX10_best_104 : decode cX10_best 104 = .ok (.iload 6, 2) := by decide +kernel
theorem dX10_best_106 : decode cX10_best 106 = .ok (.iload 4, 2) := by decide +kernel
theorem dX10_best_108 : decode cX10_best 108 = .ok (.if_icmp .le 8, 3) := by decide +kernel
theorem dX10_best_111 : decode cX10_best 111 = .ok (.iload 5, 2) := by decide +kernel
theorem dX10_best_113 : decode cX10_best 113 = .ok (.goto 4, 3) := by decide +kernel
theorem dX10_best_116 : decode cX10_best 116 = .ok (.iload_n 3, 1) := by decide +kernel
theorem dX10_best_117 : decode cX10_best 117 = .ok (.istore_n 3, 1) := by decide +kernel
theorem dX10_best_118 : decode cX10_best 118 = .ok (.iload 6, 2) := by decide +kernel
theorem dX10_best_120 : decode cX10_best 120 = .ok (.iload 4, 2) := by decide +kernel
theorem dX10_best_122 : decode cX10_best 122 = .ok (.if_icmp .le 8, 3) := by decide +kernel
theorem dX10_best_125 : decode cX10_best 125 = .ok (.iload 6, 2) := by decide +kernel
theorem dX10_best_127 : decode cX10_best 127 = .ok (.goto 5, 3) := by decide +kernel
theorem dX10_best_130 : decode cX10_best 130 = .ok (.iload 4, 2) := by decide +kernel
theorem dX10_best_132 : decode cX10_best 132 = .ok (.istore 4, 2) := by decide +kernel
theorem dX10_best_134 : decode cX10_best 134 = .ok (.iinc 5 1, 3) := by decide +kernel
theorem dX10_best_137 : decode cX10_best 137 = .ok (.goto (-91), 3) := by decide +kernel
theorem dX10_best_140 : decode cX10_best 140 = .ok (.iload_n 3, 1) := by decide +kernel
theorem dX10_best_141 : decode cX10_best 141 = .ok (.ifCond .ge 12, 3) := by decide +kernel
theorem dX10_best_144 : decode cX10_best 144 = .ok (.aload_n 0, 1) := by decide +kernel
theorem dX10_best_145 : decode cX10_best 145 = .ok (.ldc 187, 2) := by decide +kernel
theorem dX10_best_147 : decode cX10_best 147 = .ok (.invokevirtual 75, 3) := by decide +kernel
theorem dX10_best_150 : decode cX10_best 150 = .ok (.goto 4, 3) := by decide +kernel
theorem dX10_best_153 : decode cX10_best 153 = .ok (.iload_n 3, 1) := by decide +kernel
theorem dX10_best_154 : decode cX10_best 154 = .ok (.ireturn, 1) := by decide +kernel
theorem dX10_mostBy_0 : decode cX10_mostBy 0 = .ok (.aload_n 0, 1) := by decide +kernel
theorem dX10_mostBy_1 : decode cX10_mostBy 1 = .ok (.getfield 7, 3) := by decide +kernel
theorem dX10_mostBy_4 : decode cX10_mostBy 4 = .ok (.iload_n 1, 1) := by decide +kernel
theorem dX10_mostBy_5 : decode cX10_mostBy 5 = .ok (.iaload, 1) := by decide +kernel
theorem dX10_mostBy_6 : decode cX10_mostBy 6 = .ok (.istore 5, 2) := by decide +kernel
theorem dX10_mostBy_8 : decode cX10_mostBy 8 = .ok (.iconst 0, 1) := by decide +kernel
theorem dX10_mostBy_9 : decode cX10_mostBy 9 = .ok (.istore 6, 2) := by decide +kernel
theorem dX10_mostBy_11 : decode cX10_mostBy 11 = .ok (.iconst (-1), 1) := by decide +kernel
theorem dX10_mostBy_12 : decode cX10_mostBy 12 = .ok (.istore 7, 2) := by decide +kernel
theorem dX10_mostBy_14 : decode cX10_mostBy 14 = .ok (.iconst 0, 1) := by decide +kernel
theorem dX10_mostBy_15 : decode cX10_mostBy 15 = .ok (.istore 8, 2) := by decide +kernel
theorem dX10_mostBy_17 : decode cX10_mostBy 17 = .ok (.iload 8, 2) := by decide +kernel
theorem dX10_mostBy_19 : decode cX10_mostBy 19 = .ok (.iload_n 2, 1) := by decide +kernel
theorem dX10_mostBy_20 : decode cX10_mostBy 20 = .ok (.if_icmp .gt 71, 3) := by decide +kernel
theorem dX10_mostBy_23 : decode cX10_mostBy 23 = .ok (.aload_n 0, 1) := by decide +kernel
theorem dX10_mostBy_24 : decode cX10_mostBy 24 = .ok (.getfield 7, 3) := by decide +kernel
theorem dX10_mostBy_27 : decode cX10_mostBy 27 = .ok (.iload_n 1, 1) := by decide +kernel
theorem dX10_mostBy_28 : decode cX10_mostBy 28 = .ok (.iload 8, 2) := by decide +kernel
theorem dX10_mostBy_30 : decode cX10_mostBy 30 = .ok (.iastore, 1) := by decide +kernel
theorem dX10_mostBy_31 : decode cX10_mostBy 31 = .ok (.iload_n 3, 1) := by decide +kernel
theorem dX10_mostBy_32 : decode cX10_mostBy 32 = .ok (.ifCond .ge 12, 3) := by decide +kernel
theorem dX10_mostBy_35 : decode cX10_mostBy 35 = .ok (.aload_n 0, 1) := by decide +kernel
theorem dX10_mostBy_36 : decode cX10_mostBy 36 = .ok (.iload 4, 2) := by decide +kernel
theorem dX10_mostBy_38 : decode cX10_mostBy 38 = .ok (.invokevirtual 196, 3) := by decide +kernel
theorem dX10_mostBy_41 : decode cX10_mostBy 41 = .ok (.goto 10, 3) := by decide +kernel
theorem dX10_mostBy_44 : decode cX10_mostBy 44 = .ok (.aload_n 0, 1) := by decide +kernel
theorem dX10_mostBy_45 : decode cX10_mostBy 45 = .ok (.iload_n 3, 1) := by decide +kernel
theorem dX10_mostBy_46 : decode cX10_mostBy 46 = .ok (.iload 4, 2) := by decide +kernel
theorem dX10_mostBy_48 : decode cX10_mostBy 48 = .ok (.invokevirtual 181, 3) := by decide +kernel
theorem dX10_mostBy_51 : decode cX10_mostBy 51 = .ok (.istore 9, 2) := by decide +kernel
theorem dX10_mostBy_53 : decode cX10_mostBy 53 = .ok (.iload 9, 2) := by decide +kernel
theorem dX10_mostBy_55 : decode cX10_mostBy 55 = .ok (.iload 7, 2) := by decide +kernel
theorem dX10_mostBy_57 : decode cX10_mostBy 57 = .ok (.if_icmp .le 8, 3) := by decide +kernel
theorem dX10_mostBy_60 : decode cX10_mostBy 60 = .ok (.iload 8, 2) := by decide +kernel
theorem dX10_mostBy_62 : decode cX10_mostBy 62 = .ok (.goto 5, 3) := by decide +kernel
theorem dX10_mostBy_65 : decode cX10_mostBy 65 = .ok (.iload 6, 2) := by decide +kernel
theorem dX10_mostBy_67 : decode cX10_mostBy 67 = .ok (.istore 6, 2) := by decide +kernel
theorem dX10_mostBy_69 : decode cX10_mostBy 69 = .ok (.iload 9, 2) := by decide +kernel
theorem dX10_mostBy_71 : decode cX10_mostBy 71 = .ok (.iload 7, 2) := by decide +kernel
theorem dX10_mostBy_73 : decode cX10_mostBy 73 = .ok (.if_icmp .le 8, 3) := by decide +kernel
theorem dX10_mostBy_76 : decode cX10_mostBy 76 = .ok (.iload 9, 2) := by decide +kernel
theorem dX10_mostBy_78 : decode cX10_mostBy 78 = .ok (.goto 5, 3) := by decide +kernel
theorem dX10_mostBy_81 : decode cX10_mostBy 81 = .ok (.iload 7, 2) := by decide +kernel
theorem dX10_mostBy_83 : decode cX10_mostBy 83 = .ok (.istore 7, 2) := by decide +kernel
theorem dX10_mostBy_85 : decode cX10_mostBy 85 = .ok (.iinc 8 1, 3) := by decide +kernel
theorem dX10_mostBy_88 : decode cX10_mostBy 88 = .ok (.goto (-71), 3) := by decide +kernel
theorem dX10_mostBy_91 : decode cX10_mostBy 91 = .ok (.aload_n 0, 1) := by decide +kernel
theorem dX10_mostBy_92 : decode cX10_mostBy 92 = .ok (.getfield 7, 3) := by decide +kernel
theorem dX10_mostBy_95 : decode cX10_mostBy 95 = .ok (.iload_n 1, 1) := by decide +kernel
theorem dX10_mostBy_96 : decode cX10_mostBy 96 = .ok (.iload 5, 2) := by decide +kernel
theorem dX10_mostBy_98 : decode cX10_mostBy 98 = .ok (.iastore, 1) := by decide +kernel
theorem dX10_mostBy_99 : decode cX10_mostBy 99 = .ok (.iload 6, 2) := by decide +kernel
theorem dX10_mostBy_101 : decode cX10_mostBy 101 = .ok (.ireturn, 1) := by decide +kernel
theorem dX10_round_0 : decode cX10_round 0 = .ok (.aload_n 0, 1) := by decide +kernel
theorem dX10_round_1 : decode cX10_round 1 = .ok (.iload_n 1, 1) := by decide +kernel
theorem dX10_round_2 : decode cX10_round 2 = .ok (.invokevirtual 140, 3) := by decide +kernel
theorem dX10_round_5 : decode cX10_round 5 = .ok (.ifCond .eq 29, 3) := by decide +kernel
theorem dX10_round_8 : decode cX10_round 8 = .ok (.iload_n 2, 1) := by decide +kernel
theorem dX10_round_9 : decode cX10_round 9 = .ok (.invokestatic 193, 3) := by decide +kernel
theorem dX10_round_12 : decode cX10_round 12 = .ok (.ifCond .eq 22, 3) := by decide +kernel
theorem dX10_round_15 : decode cX10_round 15 = .ok (.aload_n 0, 1) := by decide +kernel
theorem dX10_round_16 : decode cX10_round 16 = .ok (.iload_n 1, 1) := by decide +kernel
theorem dX10_round_17 : decode cX10_round 17 = .ok (.iconst 1, 1) := by decide +kernel
theorem dX10_round_18 : decode cX10_round 18 = .ok (.invokestatic 49, 3) := by decide +kernel
theorem dX10_round_21 : decode cX10_round 21 = .ok (.iconst 5, 1) := by decide +kernel
theorem dX10_round_22 : decode cX10_round 22 = .ok (.iload_n 1, 1) := by decide +kernel
theorem dX10_round_23 : decode cX10_round 23 = .ok (.iconst 0, 1) := by decide +kernel
theorem dX10_round_24 : decode cX10_round 24 = .ok (.invokestatic 49, 3) := by decide +kernel
theorem dX10_round_27 : decode cX10_round 27 = .ok (.iload_n 2, 1) := by decide +kernel
theorem dX10_round_28 : decode cX10_round 28 = .ok (.invokevirtual 199, 3) := by decide +kernel
theorem dX10_round_31 : decode cX10_round 31 = .ok (.goto 9, 3) := by decide +kernel
theorem dX10_round_34 : decode cX10_round 34 = .ok (.aload_n 0, 1) := by decide +kernel
theorem dX10_round_35 : decode cX10_round 35 = .ok (.ldc 45, 2) := by decide +kernel
theorem dX10_round_37 : decode cX10_round 37 = .ok (.invokevirtual 75, 3) := by decide +kernel
theorem dX10_round_40 : decode cX10_round 40 = .ok (.ireturn, 1) := by decide +kernel
theorem dX10_kind_0 : decode cX10_kind 0 = .ok (.aload_n 0, 1) := by decide +kernel
theorem dX10_kind_1 : decode cX10_kind 1 = .ok (.iload_n 1, 1) := by decide +kernel
theorem dX10_kind_2 : decode cX10_kind 2 = .ok (.invokevirtual 79, 3) := by decide +kernel
theorem dX10_kind_5 : decode cX10_kind 5 = .ok (.ifCond .eq 25, 3) := by decide +kernel
theorem dX10_kind_8 : decode cX10_kind 8 = .ok (.iload_n 2, 1) := by decide +kernel
theorem dX10_kind_9 : decode cX10_kind 9 = .ok (.invokestatic 193, 3) := by decide +kernel
theorem dX10_kind_12 : decode cX10_kind 12 = .ok (.ifCond .eq 18, 3) := by decide +kernel
theorem dX10_kind_15 : decode cX10_kind 15 = .ok (.aload_n 0, 1) := by decide +kernel
theorem dX10_kind_16 : decode cX10_kind 16 = .ok (.iload_n 1, 1) := by decide +kernel
theorem dX10_kind_17 : decode cX10_kind 17 = .ok (.iconst 0, 1) := by decide +kernel
theorem dX10_kind_18 : decode cX10_kind 18 = .ok (.invokestatic 46, 3) := by decide +kernel
theorem dX10_kind_21 : decode cX10_kind 21 = .ok (.iconst 5, 1) := by decide +kernel
theorem dX10_kind_22 : decode cX10_kind 22 = .ok (.iconst (-1), 1) := by decide +kernel
theorem dX10_kind_23 : decode cX10_kind 23 = .ok (.iload_n 2, 1) := by decide +kernel
theorem dX10_kind_24 : decode cX10_kind 24 = .ok (.invokevirtual 199, 3) := by decide +kernel
theorem dX10_kind_27 : decode cX10_kind 27 = .ok (.goto 9, 3) := by decide +kernel
theorem dX10_kind_30 : decode cX10_kind 30 = .ok (.aload_n 0, 1) := by decide +kernel
theorem dX10_kind_31 : decode cX10_kind 31 = .ok (.ldc 45, 2) := by decide +kernel
theorem dX10_kind_33 : decode cX10_kind 33 = .ok (.invokevirtual 75, 3) := by decide +kernel
theorem dX10_kind_36 : decode cX10_kind 36 = .ok (.ireturn, 1) := by decide +kernel
theorem dX10_enough_0 : decode cX10_enough 0 = .ok (.aload_n 0, 1) := by decide +kernel
theorem dX10_enough_1 : decode cX10_enough 1 = .ok (.iload_n 1, 1) := by decide +kernel
theorem dX10_enough_2 : decode cX10_enough 2 = .ok (.invokevirtual 140, 3) := by decide +kernel
theorem dX10_enough_5 : decode cX10_enough 5 = .ok (.ifCond .eq 10, 3) := by decide +kernel
theorem dX10_enough_8 : decode cX10_enough 8 = .ok (.iload_n 2, 1) := by decide +kernel
theorem dX10_enough_9 : decode cX10_enough 9 = .ok (.invokestatic 193, 3) := by decide +kernel
theorem dX10_enough_12 : decode cX10_enough 12 = .ok (.ifCond .ne 10, 3) := by decide +kernel
theorem dX10_enough_15 : decode cX10_enough 15 = .ok (.aload_n 0, 1) := by decide +kernel
theorem dX10_enough_16 : decode cX10_enough 16 = .ok (.ldc 45, 2) := by decide +kernel
theorem dX10_enough_18 : decode cX10_enough 18 = .ok (.invokevirtual 75, 3) := by decide +kernel
theorem dX10_enough_21 : decode cX10_enough 21 = .ok (.ireturn, 1) := by decide +kernel
theorem dX10_enough_22 : decode cX10_enough 22 = .ok (.aload_n 0, 1) := by decide +kernel
theorem dX10_enough_23 : decode cX10_enough 23 = .ok (.iload_n 1, 1) := by decide +kernel
theorem dX10_enough_24 : decode cX10_enough 24 = .ok (.invokevirtual 145, 3) := by decide +kernel
theorem dX10_enough_27 : decode cX10_enough 27 = .ok (.istore_n 3, 1) := by decide +kernel
theorem dX10_enough_28 : decode cX10_enough 28 = .ok (.iload_n 3, 1) := by decide +kernel
theorem dX10_enough_29 : decode cX10_enough 29 = .ok (.iconst (-1), 1) := by decide +kernel
theorem dX10_enough_30 : decode cX10_enough 30 = .ok (.if_icmp .ne 10, 3) := by decide +kernel
theorem dX10_enough_33 : decode cX10_enough 33 = .ok (.aload_n 0, 1) := by decide +kernel
theorem dX10_enough_34 : decode cX10_enough 34 = .ok (.ldc 148, 2) := by decide +kernel
theorem dX10_enough_36 : decode cX10_enough 36 = .ok (.invokevirtual 75, 3) := by decide +kernel
theorem dX10_enough_39 : decode cX10_enough 39 = .ok (.ireturn, 1) := by decide +kernel
theorem dX10_enough_40 : decode cX10_enough 40 = .ok (.iload_n 1, 1) := by decide +kernel
theorem dX10_enough_41 : decode cX10_enough 41 = .ok (.iconst 0, 1) := by decide +kernel
theorem dX10_enough_42 : decode cX10_enough 42 = .ok (.invokestatic 49, 3) := by decide +kernel
theorem dX10_enough_45 : decode cX10_enough 45 = .ok (.istore 4, 2) := by decide +kernel
theorem dX10_enough_47 : decode cX10_enough 47 = .ok (.aload_n 0, 1) := by decide +kernel
theorem dX10_enough_48 : decode cX10_enough 48 = .ok (.getfield 7, 3) := by decide +kernel
theorem dX10_enough_51 : decode cX10_enough 51 = .ok (.iload 4, 2) := by decide +kernel
theorem dX10_enough_53 : decode cX10_enough 53 = .ok (.iaload, 1) := by decide +kernel
theorem dX10_enough_54 : decode cX10_enough 54 = .ok (.istore 5, 2) := by decide +kernel
theorem dX10_enough_56 : decode cX10_enough 56 = .ok (.iconst (-1), 1) := by decide +kernel
theorem dX10_enough_57 : decode cX10_enough 57 = .ok (.istore 6, 2) := by decide +kernel
theorem dX10_enough_59 : decode cX10_enough 59 = .ok (.iconst 0, 1) := by decide +kernel
theorem dX10_enough_60 : decode cX10_enough 60 = .ok (.istore 7, 2) := by decide +kernel
theorem dX10_enough_62 : decode cX10_enough 62 = .ok (.iload 7, 2) := by decide +kernel
theorem dX10_enough_64 : decode cX10_enough 64 = .ok (.sipush 2000, 3) := by decide +kernel
theorem dX10_enough_67 : decode cX10_enough 67 = .ok (.if_icmp .gt 41, 3) := by decide +kernel
theorem dX10_enough_70 : decode cX10_enough 70 = .ok (.iload 6, 2) := by decide +kernel
theorem dX10_enough_72 : decode cX10_enough 72 = .ok (.ifCond .ge 36, 3) := by decide +kernel
theorem dX10_enough_75 : decode cX10_enough 75 = .ok (.aload_n 0, 1) := by decide +kernel
theorem dX10_enough_76 : decode cX10_enough 76 = .ok (.getfield 7, 3) := by decide +kernel
theorem dX10_enough_79 : decode cX10_enough 79 = .ok (.iload 4, 2) := by decide +kernel
theorem dX10_enough_81 : decode cX10_enough 81 = .ok (.iload 7, 2) := by decide +kernel
theorem dX10_enough_83 : decode cX10_enough 83 = .ok (.iastore, 1) := by decide +kernel
theorem dX10_enough_84 : decode cX10_enough 84 = .ok (.aload_n 0, 1) := by decide +kernel
theorem dX10_enough_85 : decode cX10_enough 85 = .ok (.iload_n 1, 1) := by decide +kernel
theorem dX10_enough_86 : decode cX10_enough 86 = .ok (.iload_n 2, 1) := by decide +kernel
theorem dX10_enough_87 : decode cX10_enough 87 = .ok (.invokevirtual 184, 3) := by decide +kernel
theorem dX10_enough_90 : decode cX10_enough 90 = .ok (.iload_n 3, 1) := by decide +kernel
theorem dX10_enough_91 : decode cX10_enough 91 = .ok (.if_icmp .ne 8, 3) := by decide +kernel
theorem dX10_enough_94 : decode cX10_enough 94 = .ok (.iload 7, 2) := by decide +kernel
theorem dX10_enough_96 : decode cX10_enough 96 = .ok (.goto 4, 3) := by decide +kernel
theorem dX10_enough_99 : decode cX10_enough 99 = .ok (.iconst (-1), 1) := by decide +kernel
theorem dX10_enough_100 : decode cX10_enough 100 = .ok (.istore 6, 2) := by decide +kernel
theorem dX10_enough_102 : decode cX10_enough 102 = .ok (.iinc 7 10, 3) := by decide +kernel
theorem dX10_enough_105 : decode cX10_enough 105 = .ok (.goto (-43), 3) := by decide +kernel
theorem dX10_enough_108 : decode cX10_enough 108 = .ok (.aload_n 0, 1) := by decide +kernel
theorem dX10_enough_109 : decode cX10_enough 109 = .ok (.getfield 7, 3) := by decide +kernel
theorem dX10_enough_112 : decode cX10_enough 112 = .ok (.iload 4, 2) := by decide +kernel
theorem dX10_enough_114 : decode cX10_enough 114 = .ok (.iload 5, 2) := by decide +kernel
theorem dX10_enough_116 : decode cX10_enough 116 = .ok (.iastore, 1) := by decide +kernel
theorem dX10_enough_117 : decode cX10_enough 117 = .ok (.iload 6, 2) := by decide +kernel
theorem dX10_enough_119 : decode cX10_enough 119 = .ok (.ifCond .ge 12, 3) := by decide +kernel
theorem dX10_enough_122 : decode cX10_enough 122 = .ok (.aload_n 0, 1) := by decide +kernel
theorem dX10_enough_123 : decode cX10_enough 123 = .ok (.ldc 187, 2) := by decide +kernel
theorem dX10_enough_125 : decode cX10_enough 125 = .ok (.invokevirtual 75, 3) := by decide +kernel
theorem dX10_enough_128 : decode cX10_enough 128 = .ok (.goto 5, 3) := by decide +kernel
theorem dX10_enough_131 : decode cX10_enough 131 = .ok (.iload 6, 2) := by decide +kernel
theorem dX10_enough_133 : decode cX10_enough 133 = .ok (.ireturn, 1) := by decide +kernel
theorem dX10_please_0 : decode cX10_please 0 = .ok (.aload_n 0, 1) := by decide +kernel
theorem dX10_please_1 : decode cX10_please 1 = .ok (.iload_n 1, 1) := by decide +kernel
theorem dX10_please_2 : decode cX10_please 2 = .ok (.invokevirtual 140, 3) := by decide +kernel
theorem dX10_please_5 : decode cX10_please 5 = .ok (.ifCond .eq 30, 3) := by decide +kernel
theorem dX10_please_8 : decode cX10_please 8 = .ok (.iload_n 2, 1) := by decide +kernel
theorem dX10_please_9 : decode cX10_please 9 = .ok (.invokestatic 64, 3) := by decide +kernel
theorem dX10_please_12 : decode cX10_please 12 = .ok (.ifCond .eq 23, 3) := by decide +kernel
theorem dX10_please_15 : decode cX10_please 15 = .ok (.iload_n 3, 1) := by decide +kernel
theorem dX10_please_16 : decode cX10_please 16 = .ok (.invokestatic 193, 3) := by decide +kernel
theorem dX10_please_19 : decode cX10_please 19 = .ok (.ifCond .eq 16, 3) := by decide +kernel
theorem dX10_please_22 : decode cX10_please 22 = .ok (.iload 4, 2) := by decide +kernel
theorem dX10_please_24 : decode cX10_please 24 = .ok (.i2l, 1) := by decide +kernel
theorem dX10_please_25 : decode cX10_please 25 = .ok (.lconst 0, 1) := by decide +kernel
theorem dX10_please_26 : decode cX10_please 26 = .ok (.ldc2_w 135, 3) := by decide +kernel
theorem dX10_please_29 : decode cX10_please 29 = .ok (.invokestatic 54, 3) := by decide +kernel
theorem dX10_please_32 : decode cX10_please 32 = .ok (.ifCond .ne 10, 3) := by decide +kernel
theorem dX10_please_35 : decode cX10_please 35 = .ok (.aload_n 0, 1) := by decide +kernel
theorem dX10_please_36 : decode cX10_please 36 = .ok (.ldc 45, 2) := by decide +kernel
theorem dX10_please_38 : decode cX10_please 38 = .ok (.invokevirtual 75, 3) := by decide +kernel
theorem dX10_please_41 : decode cX10_please 41 = .ok (.ireturn, 1) := by decide +kernel
theorem dX10_please_42 : decode cX10_please 42 = .ok (.iload_n 2, 1) := by decide +kernel
theorem dX10_please_43 : decode cX10_please 43 = .ok (.iconst 1, 1) := by decide +kernel
theorem dX10_please_44 : decode cX10_please 44 = .ok (.invokestatic 41, 3) := by decide +kernel
theorem dX10_please_47 : decode cX10_please 47 = .ok (.istore 5, 2) := by decide +kernel
theorem dX10_please_49 : decode cX10_please 49 = .ok (.aload_n 0, 1) := by decide +kernel
theorem dX10_please_50 : decode cX10_please 50 = .ok (.getfield 7, 3) := by decide +kernel
theorem dX10_please_53 : decode cX10_please 53 = .ok (.iload 5, 2) := by decide +kernel
theorem dX10_please_55 : decode cX10_please 55 = .ok (.iaload, 1) := by decide +kernel
theorem dX10_please_56 : decode cX10_please 56 = .ok (.istore 6, 2) := by decide +kernel
theorem dX10_please_58 : decode cX10_please 58 = .ok (.bipush 51, 2) := by decide +kernel
theorem dX10_please_60 : decode cX10_please 60 = .ok (.istore 7, 2) := by decide +kernel
theorem dX10_please_62 : decode cX10_please 62 = .ok (.bipush (-50), 2) := by decide +kernel
theorem dX10_please_64 : decode cX10_please 64 = .ok (.istore 8, 2) := by decide +kernel
theorem dX10_please_66 : decode cX10_please 66 = .ok (.iload 8, 2) := by decide +kernel
theorem dX10_please_68 : decode cX10_please 68 = .ok (.bipush 50, 2) := by decide +kernel
theorem dX10_please_70 : decode cX10_please 70 = .ok (.if_icmp .gt 49, 3) := by decide +kernel
theorem dX10_please_73 : decode cX10_please 73 = .ok (.iload 7, 2) := by decide +kernel
theorem dX10_please_75 : decode cX10_please 75 = .ok (.bipush 50, 2) := by decide +kernel
theorem dX10_please_77 : decode cX10_please 77 = .ok (.if_icmp .le 42, 3) := by decide +kernel
theorem dX10_please_80 : decode cX10_please 80 = .ok (.aload_n 0, 1) := by decide +kernel
theorem dX10_please_81 : decode cX10_please 81 = .ok (.getfield 7, 3) := by decide +kernel
theorem dX10_please_84 : decode cX10_please 84 = .ok (.iload 5, 2) := by decide +kernel
theorem dX10_please_86 : decode cX10_please 86 = .ok (.iload 8, 2) := by decide +kernel
theorem dX10_please_88 : decode cX10_please 88 = .ok (.iastore, 1) := by decide +kernel
theorem dX10_please_89 : decode cX10_please 89 = .ok (.aload_n 0, 1) := by decide +kernel
theorem dX10_please_90 : decode cX10_please 90 = .ok (.iload_n 1, 1) := by decide +kernel
theorem dX10_please_91 : decode cX10_please 91 = .ok (.iconst 0, 1) := by decide +kernel
theorem dX10_please_92 : decode cX10_please 92 = .ok (.invokestatic 49, 3) := by decide +kernel
theorem dX10_please_95 : decode cX10_please 95 = .ok (.iload_n 3, 1) := by decide +kernel
theorem dX10_please_96 : decode cX10_please 96 = .ok (.invokevirtual 181, 3) := by decide +kernel
theorem dX10_please_99 : decode cX10_please 99 = .ok (.iload 4, 2) := by decide +kernel
theorem dX10_please_101 : decode cX10_please 101 = .ok (.if_icmp .lt 8, 3) := by decide +kernel
theorem dX10_please_104 : decode cX10_please 104 = .ok (.iload 8, 2) := by decide +kernel
theorem dX10_please_106 : decode cX10_please 106 = .ok (.goto 5, 3) := by decide +kernel
theorem dX10_please_109 : decode cX10_please 109 = .ok (.iload 7, 2) := by decide +kernel
theorem dX10_please_111 : decode cX10_please 111 = .ok (.istore 7, 2) := by decide +kernel
theorem dX10_please_113 : decode cX10_please 113 = .ok (.iinc 8 1, 3) := by decide +kernel
theorem dX10_please_116 : decode cX10_please 116 = .ok (.goto (-50), 3) := by decide +kernel
theorem dX10_please_119 : decode cX10_please 119 = .ok (.aload_n 0, 1) := by decide +kernel
theorem dX10_please_120 : decode cX10_please 120 = .ok (.getfield 7, 3) := by decide +kernel
theorem dX10_please_123 : decode cX10_please 123 = .ok (.iload 5, 2) := by decide +kernel
theorem dX10_please_125 : decode cX10_please 125 = .ok (.iload 6, 2) := by decide +kernel
theorem dX10_please_127 : decode cX10_please 127 = .ok (.iastore, 1) := by decide +kernel
theorem dX10_please_128 : decode cX10_please 128 = .ok (.iload 7, 2) := by decide +kernel
theorem dX10_please_130 : decode cX10_please 130 = .ok (.bipush 50, 2) := by decide +kernel
theorem dX10_please_132 : decode cX10_please 132 = .ok (.if_icmp .le 12, 3) := by decide +kernel
theorem dX10_please_135 : decode cX10_please 135 = .ok (.aload_n 0, 1) := by decide +kernel
theorem dX10_please_136 : decode cX10_please 136 = .ok (.ldc 187, 2) := by decide +kernel
theorem dX10_please_138 : decode cX10_please 138 = .ok (.invokevirtual 75, 3) := by decide +kernel
theorem dX10_please_141 : decode cX10_please 141 = .ok (.goto 5, 3) := by decide +kernel
theorem dX10_please_144 : decode cX10_please 144 = .ok (.iload 7, 2) := by decide +kernel
theorem dX10_please_146 : decode cX10_please 146 = .ok (.ireturn, 1) := by decide +kernel
theorem dX10_richest_0 : decode cX10_richest 0 = .ok (.iload_n 1, 1) := by decide +kernel
theorem dX10_richest_1 : decode cX10_richest 1 = .ok (.invokestatic 178, 3) := by decide +kernel
theorem dX10_richest_4 : decode cX10_richest 4 = .ok (.ifCond .ne 10, 3) := by decide +kernel
theorem dX10_richest_7 : decode cX10_richest 7 = .ok (.aload_n 0, 1) := by decide +kernel
theorem dX10_richest_8 : decode cX10_richest 8 = .ok (.ldc 45, 2) := by decide +kernel
theorem dX10_richest_10 : decode cX10_richest 10 = .ok (.invokevirtual 75, 3) := by decide +kernel
theorem dX10_richest_13 : decode cX10_richest 13 = .ok (.ireturn, 1) := by decide +kernel
theorem dX10_richest_14 : decode cX10_richest 14 = .ok (.aload_n 0, 1) := by decide +kernel
theorem dX10_richest_15 : decode cX10_richest 15 = .ok (.getfield 7, 3) := by decide +kernel
theorem dX10_richest_18 : decode cX10_richest 18 = .ok (.iconst 1, 1) := by decide +kernel
theorem dX10_richest_19 : decode cX10_richest 19 = .ok (.iaload, 1) := by decide +kernel
theorem dX10_richest_20 : decode cX10_richest 20 = .ok (.ifCond .ne 10, 3) := by decide +kernel
theorem dX10_richest_23 : decode cX10_richest 23 = .ok (.aload_n 0, 1) := by decide +kernel
theorem dX10_richest_24 : decode cX10_richest 24 = .ok (.ldc 187, 2) := by decide +kernel
theorem dX10_richest_26 : decode cX10_richest 26 = .ok (.invokevirtual 75, 3) := by decide +kernel
theorem dX10_richest_29 : decode cX10_richest 29 = .ok (.ireturn, 1) := by decide +kernel
theorem dX10_richest_30 : decode cX10_richest 30 = .ok (.aload_n 0, 1) := by decide +kernel
theorem dX10_richest_31 : decode cX10_richest 31 = .ok (.invokevirtual 172, 3) := by decide +kernel
theorem dX10_richest_34 : decode cX10_richest 34 = .ok (.aload_n 0, 1) := by decide +kernel
theorem dX10_richest_35 : decode cX10_richest 35 = .ok (.iload_n 1, 1) := by decide +kernel
theorem dX10_richest_36 : decode cX10_richest 36 = .ok (.invokevirtual 166, 3) := by decide +kernel
theorem dX10_richest_39 : decode cX10_richest 39 = .ok (.iconst 0, 1) := by decide +kernel
theorem dX10_richest_40 : decode cX10_richest 40 = .ok (.istore_n 2, 1) := by decide +kernel
theorem dX10_richest_41 : decode cX10_richest 41 = .ok (.iconst 1, 1) := by decide +kernel
theorem dX10_richest_42 : decode cX10_richest 42 = .ok (.istore_n 3, 1) := by decide +kernel
theorem dX10_richest_43 : decode cX10_richest 43 = .ok (.iload_n 3, 1) := by decide +kernel
theorem dX10_richest_44 : decode cX10_richest 44 = .ok (.aload_n 0, 1) := by decide +kernel
theorem dX10_richest_45 : decode cX10_richest 45 = .ok (.getfield 7, 3) := by decide +kernel
theorem dX10_richest_48 : decode cX10_richest 48 = .ok (.iconst 1, 1) := by decide +kernel
theorem dX10_richest_49 : decode cX10_richest 49 = .ok (.iaload, 1) := by decide +kernel
theorem dX10_richest_50 : decode cX10_richest 50 = .ok (.if_icmp .ge 30, 3) := by decide +kernel
theorem dX10_richest_53 : decode cX10_richest 53 = .ok (.aload_n 0, 1) := by decide +kernel
theorem dX10_richest_54 : decode cX10_richest 54 = .ok (.iload_n 3, 1) := by decide +kernel
theorem dX10_richest_55 : decode cX10_richest 55 = .ok (.iconst 2, 1) := by decide +kernel
theorem dX10_richest_56 : decode cX10_richest 56 = .ok (.invokevirtual 61, 3) := by decide +kernel
theorem dX10_richest_59 : decode cX10_richest 59 = .ok (.aload_n 0, 1) := by decide +kernel
theorem dX10_richest_60 : decode cX10_richest 60 = .ok (.iload_n 2, 1) := by decide +kernel
theorem dX10_richest_61 : decode cX10_richest 61 = .ok (.iconst 2, 1) := by decide +kernel
theorem dX10_richest_62 : decode cX10_richest 62 = .ok (.invokevirtual 61, 3) := by decide +kernel
theorem dX10_richest_65 : decode cX10_richest 65 = .ok (.if_icmp .le 7, 3) := by decide +kernel
theorem dX10_richest_68 : decode cX10_richest 68 = .ok (.iload_n 3, 1) := by decide +kernel
theorem dX10_richest_69 : decode cX10_richest 69 = .ok (.goto 4, 3) := by decide +kernel
theorem dX10_richest_72 : decode cX10_richest 72 = .ok (.iload_n 2, 1) := by decide +kernel
theorem dX10_richest_73 : decode cX10_richest 73 = .ok (.istore_n 2, 1) := by decide +kernel
theorem dX10_richest_74 : decode cX10_richest 74 = .ok (.iinc 3 1, 3) := by decide +kernel
theorem dX10_richest_77 : decode cX10_richest 77 = .ok (.goto (-34), 3) := by decide +kernel
theorem dX10_richest_80 : decode cX10_richest 80 = .ok (.aload_n 0, 1) := by decide +kernel
theorem dX10_richest_81 : decode cX10_richest 81 = .ok (.iload_n 2, 1) := by decide +kernel
theorem dX10_richest_82 : decode cX10_richest 82 = .ok (.invokevirtual 175, 3) := by decide +kernel
theorem dX10_richest_85 : decode cX10_richest 85 = .ok (.ireturn, 1) := by decide +kernel
theorem dX10_feed_0 : decode cX10_feed 0 = .ok (.iload_n 2, 1) := by decide +kernel
theorem dX10_feed_1 : decode cX10_feed 1 = .ok (.i2l, 1) := by decide +kernel
theorem dX10_feed_2 : decode cX10_feed 2 = .ok (.lconst 1, 1) := by decide +kernel
theorem dX10_feed_3 : decode cX10_feed 3 = .ok (.ldc2_w 203, 3) := by decide +kernel
theorem dX10_feed_6 : decode cX10_feed 6 = .ok (.invokestatic 54, 3) := by decide +kernel
theorem dX10_feed_9 : decode cX10_feed 9 = .ok (.ifCond .ne 10, 3) := by decide +kernel
theorem dX10_feed_12 : decode cX10_feed 12 = .ok (.aload_n 0, 1) := by decide +kernel
theorem dX10_feed_13 : decode cX10_feed 13 = .ok (.ldc 45, 2) := by decide +kernel
theorem dX10_feed_15 : decode cX10_feed 15 = .ok (.invokevirtual 75, 3) := by decide +kernel
theorem dX10_feed_18 : decode cX10_feed 18 = .ok (.ireturn, 1) := by decide +kernel
theorem dX10_feed_19 : decode cX10_feed 19 = .ok (.aload_n 0, 1) := by decide +kernel
theorem dX10_feed_20 : decode cX10_feed 20 = .ok (.getfield 205, 3) := by decide +kernel
theorem dX10_feed_23 : decode cX10_feed 23 = .ok (.iload_n 2, 1) := by decide +kernel
theorem dX10_feed_24 : decode cX10_feed 24 = .ok (.iadd, 1) := by decide +kernel
theorem dX10_feed_25 : decode cX10_feed 25 = .ok (.bipush 120, 2) := by decide +kernel
theorem dX10_feed_27 : decode cX10_feed 27 = .ok (.if_icmp .le 10, 3) := by decide +kernel
theorem dX10_feed_30 : decode cX10_feed 30 = .ok (.aload_n 0, 1) := by decide +kernel
theorem dX10_feed_31 : decode cX10_feed 31 = .ok (.ldc 110, 2) := by decide +kernel
theorem dX10_feed_33 : decode cX10_feed 33 = .ok (.invokevirtual 75, 3) := by decide +kernel
theorem dX10_feed_36 : decode cX10_feed 36 = .ok (.ireturn, 1) := by decide +kernel
theorem dX10_feed_37 : decode cX10_feed 37 = .ok (.iload_n 2, 1) := by decide +kernel
theorem dX10_feed_38 : decode cX10_feed 38 = .ok (.iconst 1, 1) := by decide +kernel
theorem dX10_feed_39 : decode cX10_feed 39 = .ok (.isub, 1) := by decide +kernel
theorem dX10_feed_40 : decode cX10_feed 40 = .ok (.istore_n 3, 1) := by decide +kernel
theorem dX10_feed_41 : decode cX10_feed 41 = .ok (.iload_n 3, 1) := by decide +kernel
theorem dX10_feed_42 : decode cX10_feed 42 = .ok (.ifCond .lt 38, 3) := by decide +kernel
theorem dX10_feed_45 : decode cX10_feed 45 = .ok (.aload_n 0, 1) := by decide +kernel
theorem dX10_feed_46 : decode cX10_feed 46 = .ok (.getfield 25, 3) := by decide +kernel
theorem dX10_feed_49 : decode cX10_feed 49 = .ok (.aload_n 0, 1) := by decide +kernel
theorem dX10_feed_50 : decode cX10_feed 50 = .ok (.getfield 205, 3) := by decide +kernel
theorem dX10_feed_53 : decode cX10_feed 53 = .ok (.iload_n 1, 1) := by decide +kernel
theorem dX10_feed_54 : decode cX10_feed 54 = .ok (.bipush 8, 2) := by decide +kernel
theorem dX10_feed_56 : decode cX10_feed 56 = .ok (.iload_n 3, 1) := by decide +kernel
theorem dX10_feed_57 : decode cX10_feed 57 = .ok (.imul, 1) := by decide +kernel
theorem dX10_feed_58 : decode cX10_feed 58 = .ok (.ishr, 1) := by decide +kernel
theorem dX10_feed_59 : decode cX10_feed 59 = .ok (.sipush 255, 3) := by decide +kernel
theorem dX10_feed_62 : decode cX10_feed 62 = .ok (.iand, 1) := by decide +kernel
theorem dX10_feed_63 : decode cX10_feed 63 = .ok (.iastore, 1) := by decide +kernel
theorem dX10_feed_64 : decode cX10_feed 64 = .ok (.aload_n 0, 1) := by decide +kernel
theorem dX10_feed_65 : decode cX10_feed 65 = .ok (.dup, 1) := by decide +kernel
theorem dX10_feed_66 : decode cX10_feed 66 = .ok (.getfield 205, 3) := by decide +kernel
theorem dX10_feed_69 : decode cX10_feed 69 = .ok (.iconst 1, 1) := by decide +kernel
theorem dX10_feed_70 : decode cX10_feed 70 = .ok (.iadd, 1) := by decide +kernel
theorem dX10_feed_71 : decode cX10_feed 71 = .ok (.putfield 205, 3) := by decide +kernel
theorem dX10_feed_74 : decode cX10_feed 74 = .ok (.iinc 3 (-1), 3) := by decide +kernel
theorem dX10_feed_77 : decode cX10_feed 77 = .ok (.goto (-36), 3) := by decide +kernel
theorem dX10_feed_80 : decode cX10_feed 80 = .ok (.aload_n 0, 1) := by decide +kernel
theorem dX10_feed_81 : decode cX10_feed 81 = .ok (.getfield 205, 3) := by decide +kernel
theorem dX10_feed_84 : decode cX10_feed 84 = .ok (.ireturn, 1) := by decide +kernel
theorem dX10_wipe_0 : decode cX10_wipe 0 = .ok (.aload_n 0, 1) := by decide +kernel
theorem dX10_wipe_1 : decode cX10_wipe 1 = .ok (.getfield 205, 3) := by decide +kernel
theorem dX10_wipe_4 : decode cX10_wipe 4 = .ok (.istore_n 1, 1) := by decide +kernel
theorem dX10_wipe_5 : decode cX10_wipe 5 = .ok (.aload_n 0, 1) := by decide +kernel
theorem dX10_wipe_6 : decode cX10_wipe 6 = .ok (.iconst 0, 1) := by decide +kernel
theorem dX10_wipe_7 : decode cX10_wipe 7 = .ok (.putfield 205, 3) := by decide +kernel
theorem dX10_wipe_10 : decode cX10_wipe 10 = .ok (.iload_n 1, 1) := by decide +kernel
theorem dX10_wipe_11 : decode cX10_wipe 11 = .ok (.ireturn, 1) := by decide +kernel
theorem dX10_byteAt_0 : decode cX10_byteAt 0 = .ok (.iload_n 1, 1) := by decide +kernel
theorem dX10_byteAt_1 : decode cX10_byteAt 1 = .ok (.aload_n 0, 1) := by decide +kernel
theorem dX10_byteAt_2 : decode cX10_byteAt 2 = .ok (.getfield 205, 3) := by decide +kernel
theorem dX10_byteAt_5 : decode cX10_byteAt 5 = .ok (.if_icmp .ge 12, 3) := by decide +kernel
theorem dX10_byteAt_8 : decode cX10_byteAt 8 = .ok (.aload_n 0, 1) := by decide +kernel
theorem dX10_byteAt_9 : decode cX10_byteAt 9 = .ok (.getfield 25, 3) := by decide +kernel
theorem dX10_byteAt_12 : decode cX10_byteAt 12 = .ok (.iload_n 1, 1) := by decide +kernel
theorem dX10_byteAt_13 : decode cX10_byteAt 13 = .ok (.iaload, 1) := by decide +kernel
theorem dX10_byteAt_14 : decode cX10_byteAt 14 = .ok (.goto 4, 3) := by decide +kernel
theorem dX10_byteAt_17 : decode cX10_byteAt 17 = .ok (.iconst (-1), 1) := by decide +kernel
theorem dX10_byteAt_18 : decode cX10_byteAt 18 = .ok (.ireturn, 1) := by decide +kernel
theorem dX10_isLetter_0 : decode cX10_isLetter 0 = .ok (.iload_n 0, 1) := by decide +kernel
theorem dX10_isLetter_1 : decode cX10_isLetter 1 = .ok (.i2l, 1) := by decide +kernel
theorem dX10_isLetter_2 : decode cX10_isLetter 2 = .ok (.ldc2_w 209, 3) := by decide +kernel
theorem dX10_isLetter_5 : decode cX10_isLetter 5 = .ok (.ldc2_w 211, 3) := by decide +kernel
theorem dX10_isLetter_8 : decode cX10_isLetter 8 = .ok (.invokestatic 54, 3) := by decide +kernel
theorem dX10_isLetter_11 : decode cX10_isLetter 11 = .ok (.ireturn, 1) := by decide +kernel
theorem dX10_isDigit_0 : decode cX10_isDigit 0 = .ok (.iload_n 0, 1) := by decide +kernel
theorem dX10_isDigit_1 : decode cX10_isDigit 1 = .ok (.i2l, 1) := by decide +kernel
theorem dX10_isDigit_2 : decode cX10_isDigit 2 = .ok (.ldc2_w 213, 3) := by decide +kernel
theorem dX10_isDigit_5 : decode cX10_isDigit 5 = .ok (.ldc2_w 215, 3) := by decide +kernel
theorem dX10_isDigit_8 : decode cX10_isDigit 8 = .ok (.invokestatic 54, 3) := by decide +kernel
theorem dX10_isDigit_11 : decode cX10_isDigit 11 = .ok (.ireturn, 1) := by decide +kernel
theorem dX10_token_0 : decode cX10_token 0 = .ok (.aload_n 0, 1) := by decide +kernel
theorem dX10_token_1 : decode cX10_token 1 = .ok (.aload_n 0, 1) := by decide +kernel
theorem dX10_token_2 : decode cX10_token 2 = .ok (.getfield 217, 3) := by decide +kernel
theorem dX10_token_5 : decode cX10_token 5 = .ok (.putfield 220, 3) := by decide +kernel
theorem dX10_token_8 : decode cX10_token 8 = .ok (.aload_n 0, 1) := by decide +kernel
theorem dX10_token_9 : decode cX10_token 9 = .ok (.aload_n 0, 1) := by decide +kernel
theorem dX10_token_10 : decode cX10_token 10 = .ok (.getfield 220, 3) := by decide +kernel
theorem dX10_token_13 : decode cX10_token 13 = .ok (.invokevirtual 223, 3) := by decide +kernel
theorem dX10_token_16 : decode cX10_token 16 = .ok (.bipush 32, 2) := by decide +kernel
theorem dX10_token_18 : decode cX10_token 18 = .ok (.if_icmp .ne 16, 3) := by decide +kernel
theorem dX10_token_21 : decode cX10_token 21 = .ok (.aload_n 0, 1) := by decide +kernel
theorem dX10_token_22 : decode cX10_token 22 = .ok (.dup, 1) := by decide +kernel
theorem dX10_token_23 : decode cX10_token 23 = .ok (.getfield 220, 3) := by decide +kernel
theorem dX10_token_26 : decode cX10_token 26 = .ok (.iconst 1, 1) := by decide +kernel
theorem dX10_token_27 : decode cX10_token 27 = .ok (.iadd, 1) := by decide +kernel
theorem dX10_token_28 : decode cX10_token 28 = .ok (.putfield 220, 3) := by decide +kernel
theorem dX10_token_31 : decode cX10_token 31 = .ok (.goto (-23), 3) := by decide +kernel
theorem dX10_token_34 : decode cX10_token 34 = .ok (.aload_n 0, 1) := by decide +kernel
theorem dX10_token_35 : decode cX10_token 35 = .ok (.aload_n 0, 1) := by decide +kernel
theorem dX10_token_36 : decode cX10_token 36 = .ok (.getfield 220, 3) := by decide +kernel
theorem dX10_token_39 : decode cX10_token 39 = .ok (.invokevirtual 223, 3) := by decide +kernel
theorem dX10_token_42 : decode cX10_token 42 = .ok (.invokestatic 226, 3) := by decide +kernel
theorem dX10_token_45 : decode cX10_token 45 = .ok (.istore_n 1, 1) := by decide +kernel
theorem dX10_token_46 : decode cX10_token 46 = .ok (.aload_n 0, 1) := by decide +kernel
theorem dX10_token_47 : decode cX10_token 47 = .ok (.aload_n 0, 1) := by decide +kernel
theorem dX10_token_48 : decode cX10_token 48 = .ok (.getfield 220, 3) := by decide +kernel
theorem dX10_token_51 : decode cX10_token 51 = .ok (.invokevirtual 223, 3) := by decide +kernel
theorem dX10_token_54 : decode cX10_token 54 = .ok (.invokestatic 229, 3) := by decide +kernel
theorem dX10_token_57 : decode cX10_token 57 = .ok (.istore_n 2, 1) := by decide +kernel
theorem dX10_token_58 : decode cX10_token 58 = .ok (.aload_n 0, 1) := by decide +kernel
theorem dX10_token_59 : decode cX10_token 59 = .ok (.aload_n 0, 1) := by decide +kernel
theorem dX10_token_60 : decode cX10_token 60 = .ok (.getfield 220, 3) := by decide +kernel
theorem dX10_token_63 : decode cX10_token 63 = .ok (.aload_n 0, 1) := by decide +kernel
theorem dX10_token_64 : decode cX10_token 64 = .ok (.getfield 205, 3) := by decide +kernel
theorem dX10_token_67 : decode cX10_token 67 = .ok (.if_icmp .ge 12, 3) := by decide +kernel
theorem dX10_token_70 : decode cX10_token 70 = .ok (.aload_n 0, 1) := by decide +kernel
theorem dX10_token_71 : decode cX10_token 71 = .ok (.getfield 220, 3) := by decide +kernel
theorem dX10_token_74 : decode cX10_token 74 = .ok (.iconst 1, 1) := by decide +kernel
theorem dX10_token_75 : decode cX10_token 75 = .ok (.iadd, 1) := by decide +kernel
theorem dX10_token_76 : decode cX10_token 76 = .ok (.goto 7, 3) := by decide +kernel
theorem dX10_token_79 : decode cX10_token 79 = .ok (.aload_n 0, 1) := by decide +kernel
theorem dX10_token_80 : decode cX10_token 80 = .ok (.getfield 220, 3) := by decide +kernel
theorem dX10_token_83 : decode cX10_token 83 = .ok (.putfield 217, 3) := by decide +kernel
theorem dX10_token_86 : decode cX10_token 86 = .ok (.iload_n 1, 1) := by decide +kernel
theorem dX10_token_87 : decode cX10_token 87 = .ok (.ifCond .eq 17, 3) := by decide +kernel
theorem dX10_token_90 : decode cX10_token 90 = .ok (.aload_n 0, 1) := by decide +kernel
theorem dX10_token_91 : decode cX10_token 91 = .ok (.aload_n 0, 1) := by decide +kernel
theorem dX10_token_92 : decode cX10_token 92 = .ok (.getfield 217, 3) := by decide +kernel
theorem dX10_token_95 : decode cX10_token 95 = .ok (.invokevirtual 223, 3) := by decide +kernel
theorem dX10_token_98 : decode cX10_token 98 = .ok (.invokestatic 226, 3) := by decide +kernel
theorem dX10_token_101 : decode cX10_token 101 = .ok (.ifCond .ne 21, 3) := by decide +kernel
theorem dX10_token_104 : decode cX10_token 104 = .ok (.iload_n 2, 1) := by decide +kernel
theorem dX10_token_105 : decode cX10_token 105 = .ok (.ifCond .eq 30, 3) := by decide +kernel
theorem dX10_token_108 : decode cX10_token 108 = .ok (.aload_n 0, 1) := by decide +kernel
theorem dX10_token_109 : decode cX10_token 109 = .ok (.aload_n 0, 1) := by decide +kernel
theorem dX10_token_110 : decode cX10_token 110 = .ok (.getfield 217, 3) := by decide +kernel
theorem dX10_token_113 : decode cX10_token 113 = .ok (.invokevirtual 223, 3) := by decide +kernel
theorem dX10_token_116 : decode cX10_token 116 = .ok (.invokestatic 229, 3) := by decide +kernel
theorem dX10_token_119 : decode cX10_token 119 = .ok (.ifCond .eq 16, 3) := by decide +kernel
theorem dX10_token_122 : decode cX10_token 122 = .ok (.aload_n 0, 1) := by decide +kernel
theorem dX10_token_123 : decode cX10_token 123 = .ok (.dup, 1) := by decide +kernel
theorem dX10_token_124 : decode cX10_token 124 = .ok (.getfield 217, 3) := by decide +kernel
theorem dX10_token_127 : decode cX10_token 127 = .ok (.iconst 1, 1) := by decide +kernel
theorem dX10_token_128 : decode cX10_token 128 = .ok (.iadd, 1) := by decide +kernel
theorem dX10_token_129 : decode cX10_token 129 = .ok (.putfield 217, 3) := by decide +kernel
theorem dX10_token_132 : decode cX10_token 132 = .ok (.goto (-46), 3) := by decide +kernel
theorem dX10_token_135 : decode cX10_token 135 = .ok (.return_, 1) := by decide +kernel
theorem dX10_must_0 : decode cX10_must 0 = .ok (.aload_n 0, 1) := by decide +kernel
theorem dX10_must_1 : decode cX10_must 1 = .ok (.aload_n 0, 1) := by decide +kernel
theorem dX10_must_2 : decode cX10_must 2 = .ok (.getfield 232, 3) := by decide +kernel
theorem dX10_must_5 : decode cX10_must 5 = .ok (.ifCond .ne 7, 3) := by decide +kernel
theorem dX10_must_8 : decode cX10_must 8 = .ok (.iload_n 1, 1) := by decide +kernel
theorem dX10_must_9 : decode cX10_must 9 = .ok (.ifCond .ne 7, 3) := by decide +kernel
theorem dX10_must_12 : decode cX10_must 12 = .ok (.iconst 1, 1) := by decide +kernel
theorem dX10_must_13 : decode cX10_must 13 = .ok (.goto 4, 3) := by decide +kernel
theorem dX10_must_16 : decode cX10_must 16 = .ok (.iconst 0, 1) := by decide +kernel
theorem dX10_must_17 : decode cX10_must 17 = .ok (.putfield 232, 3) := by decide +kernel
theorem dX10_must_20 : decode cX10_must 20 = .ok (.aload_n 0, 1) := by decide +kernel
theorem dX10_must_21 : decode cX10_must 21 = .ok (.getfield 232, 3) := by decide +kernel
theorem dX10_must_24 : decode cX10_must 24 = .ok (.ifCond .ne 7, 3) := by decide +kernel
theorem dX10_must_27 : decode cX10_must 27 = .ok (.aload_n 0, 1) := by decide +kernel
theorem dX10_must_28 : decode cX10_must 28 = .ok (.invokevirtual 236, 3) := by decide +kernel
theorem dX10_must_31 : decode cX10_must 31 = .ok (.return_, 1) := by decide +kernel
theorem dX10_word_0 : decode cX10_word 0 = .ok (.lconst 0, 1) := by decide +kernel
theorem dX10_word_1 : decode cX10_word 1 = .ok (.lstore_n 1, 1) := by decide +kernel
theorem dX10_word_2 : decode cX10_word 2 = .ok (.aload_n 0, 1) := by decide +kernel
theorem dX10_word_3 : decode cX10_word 3 = .ok (.getfield 220, 3) := by decide +kernel
theorem dX10_word_6 : decode cX10_word 6 = .ok (.istore_n 3, 1) := by decide +kernel
theorem dX10_word_7 : decode cX10_word 7 = .ok (.iload_n 3, 1) := by decide +kernel
theorem dX10_word_8 : decode cX10_word 8 = .ok (.aload_n 0, 1) := by decide +kernel
theorem dX10_word_9 : decode cX10_word 9 = .ok (.getfield 217, 3) := by decide +kernel
theorem dX10_word_12 : decode cX10_word 12 = .ok (.if_icmp .ge 38, 3) := by decide +kernel
theorem dX10_word_15 : decode cX10_word 15 = .ok (.lload_n 1, 1) := by decide +kernel
theorem dX10_word_16 : decode cX10_word 16 = .ok (.ldc2_w 239, 3) := by decide +kernel
theorem dX10_word_19 : decode cX10_word 19 = .ok (.lcmp, 1) := by decide +kernel
theorem dX10_word_20 : decode cX10_word 20 = .ok (.ifCond .le 7, 3) := by decide +kernel
theorem dX10_word_23 : decode cX10_word 23 = .ok (.lload_n 1, 1) := by decide +kernel
theorem dX10_word_24 : decode cX10_word 24 = .ok (.goto 19, 3) := by decide +kernel
theorem dX10_word_27 : decode cX10_word 27 = .ok (.ldc2_w 241, 3) := by decide +kernel
theorem dX10_word_30 : decode cX10_word 30 = .ok (.lload_n 1, 1) := by decide +kernel
theorem dX10_word_31 : decode cX10_word 31 = .ok (.lmul, 1) := by decide +kernel
theorem dX10_word_32 : decode cX10_word 32 = .ok (.aload_n 0, 1) := by decide +kernel
theorem dX10_word_33 : decode cX10_word 33 = .ok (.getfield 25, 3) := by decide +kernel
theorem dX10_word_36 : decode cX10_word 36 = .ok (.iload_n 3, 1) := by decide +kernel
theorem dX10_word_37 : decode cX10_word 37 = .ok (.iaload, 1) := by decide +kernel
theorem dX10_word_38 : decode cX10_word 38 = .ok (.bipush 96, 2) := by decide +kernel
theorem dX10_word_40 : decode cX10_word 40 = .ok (.isub, 1) := by decide +kernel
theorem dX10_word_41 : decode cX10_word 41 = .ok (.i2l, 1) := by decide +kernel
theorem dX10_word_42 : decode cX10_word 42 = .ok (.ladd, 1) := by decide +kernel
theorem dX10_word_43 : decode cX10_word 43 = .ok (.lstore_n 1, 1) := by decide +kernel
theorem dX10_word_44 : decode cX10_word 44 = .ok (.iinc 3 1, 3) := by decide +kernel
theorem dX10_word_47 : decode cX10_word 47 = .ok (.goto (-40), 3) := by decide +kernel
theorem dX10_word_50 : decode cX10_word 50 = .ok (.aload_n 0, 1) := by decide +kernel
theorem dX10_word_51 : decode cX10_word 51 = .ok (.getfield 232, 3) := by decide +kernel
theorem dX10_word_54 : decode cX10_word 54 = .ok (.ifCond .ne 17, 3) := by decide +kernel
theorem dX10_word_57 : decode cX10_word 57 = .ok (.aload_n 0, 1) := by decide +kernel
theorem dX10_word_58 : decode cX10_word 58 = .ok (.aload_n 0, 1) := by decide +kernel
theorem dX10_word_59 : decode cX10_word 59 = .ok (.getfield 220, 3) := by decide +kernel
theorem dX10_word_62 : decode cX10_word 62 = .ok (.invokevirtual 223, 3) := by decide +kernel
theorem dX10_word_65 : decode cX10_word 65 = .ok (.invokestatic 226, 3) := by decide +kernel
theorem dX10_word_68 : decode cX10_word 68 = .ok (.ifCond .ne 7, 3) := by decide +kernel
theorem dX10_word_71 : decode cX10_word 71 = .ok (.lconst 0, 1) := by decide +kernel
theorem dX10_word_72 : decode cX10_word 72 = .ok (.goto 4, 3) := by decide +kernel
theorem dX10_word_75 : decode cX10_word 75 = .ok (.lload_n 1, 1) := by decide +kernel
theorem dX10_word_76 : decode cX10_word 76 = .ok (.lreturn, 1) := by decide +kernel
theorem dX10_number_0 : decode cX10_number 0 = .ok (.aload_n 0, 1) := by decide +kernel
theorem dX10_number_1 : decode cX10_number 1 = .ok (.getfield 232, 3) := by decide +kernel
theorem dX10_number_4 : decode cX10_number 4 = .ok (.ifCond .eq 4, 3) := by decide +kernel
theorem dX10_number_7 : decode cX10_number 7 = .ok (.return_, 1) := by decide +kernel
theorem dX10_number_8 : decode cX10_number 8 = .ok (.aload_n 0, 1) := by decide +kernel
theorem dX10_number_9 : decode cX10_number 9 = .ok (.aload_n 0, 1) := by decide +kernel
theorem dX10_number_10 : decode cX10_number 10 = .ok (.getfield 220, 3) := by decide +kernel
theorem dX10_number_13 : decode cX10_number 13 = .ok (.invokevirtual 223, 3) := by decide +kernel
theorem dX10_number_16 : decode cX10_number 16 = .ok (.invokestatic 229, 3) := by decide +kernel
theorem dX10_number_19 : decode cX10_number 19 = .ok (.istore_n 3, 1) := by decide +kernel
theorem dX10_number_20 : decode cX10_number 20 = .ok (.iconst 0, 1) := by decide +kernel
theorem dX10_number_21 : decode cX10_number 21 = .ok (.istore 4, 2) := by decide +kernel
theorem dX10_number_23 : decode cX10_number 23 = .ok (.aload_n 0, 1) := by decide +kernel
theorem dX10_number_24 : decode cX10_number 24 = .ok (.getfield 220, 3) := by decide +kernel
theorem dX10_number_27 : decode cX10_number 27 = .ok (.istore 5, 2) := by decide +kernel
theorem dX10_number_29 : decode cX10_number 29 = .ok (.iload 5, 2) := by decide +kernel
theorem dX10_number_31 : decode cX10_number 31 = .ok (.aload_n 0, 1) := by decide +kernel
theorem dX10_number_32 : decode cX10_number 32 = .ok (.getfield 217, 3) := by decide +kernel
theorem dX10_number_35 : decode cX10_number 35 = .ok (.if_icmp .ge 44, 3) := by decide +kernel
theorem dX10_number_38 : decode cX10_number 38 = .ok (.iload_n 3, 1) := by decide +kernel
theorem dX10_number_39 : decode cX10_number 39 = .ok (.ifCond .eq 40, 3) := by decide +kernel
theorem dX10_number_42 : decode cX10_number 42 = .ok (.iload 4, 2) := by decide +kernel
theorem dX10_number_44 : decode cX10_number 44 = .ok (.sipush 9999, 3) := by decide +kernel
theorem dX10_number_47 : decode cX10_number 47 = .ok (.if_icmp .le 8, 3) := by decide +kernel
theorem dX10_number_50 : decode cX10_number 50 = .ok (.iload 4, 2) := by decide +kernel
theorem dX10_number_52 : decode cX10_number 52 = .ok (.goto 19, 3) := by decide +kernel
theorem dX10_number_55 : decode cX10_number 55 = .ok (.bipush 10, 2) := by decide +kernel
theorem dX10_number_57 : decode cX10_number 57 = .ok (.iload 4, 2) := by decide +kernel
theorem dX10_number_59 : decode cX10_number 59 = .ok (.imul, 1) := by decide +kernel
theorem dX10_number_60 : decode cX10_number 60 = .ok (.aload_n 0, 1) := by decide +kernel
theorem dX10_number_61 : decode cX10_number 61 = .ok (.getfield 25, 3) := by decide +kernel
theorem dX10_number_64 : decode cX10_number 64 = .ok (.iload 5, 2) := by decide +kernel
theorem dX10_number_66 : decode cX10_number 66 = .ok (.iaload, 1) := by decide +kernel
theorem dX10_number_67 : decode cX10_number 67 = .ok (.iadd, 1) := by decide +kernel
theorem dX10_number_68 : decode cX10_number 68 = .ok (.bipush 48, 2) := by decide +kernel
theorem dX10_number_70 : decode cX10_number 70 = .ok (.isub, 1) := by decide +kernel
theorem dX10_number_71 : decode cX10_number 71 = .ok (.istore 4, 2) := by decide +kernel
theorem dX10_number_73 : decode cX10_number 73 = .ok (.iinc 5 1, 3) := by decide +kernel
theorem dX10_number_76 : decode cX10_number 76 = .ok (.goto (-47), 3) := by decide +kernel
theorem dX10_number_79 : decode cX10_number 79 = .ok (.aload_n 0, 1) := by decide +kernel
theorem dX10_number_80 : decode cX10_number 80 = .ok (.iload 4, 2) := by decide +kernel
theorem dX10_number_82 : decode cX10_number 82 = .ok (.putfield 243, 3) := by decide +kernel
theorem dX10_number_85 : decode cX10_number 85 = .ok (.aload_n 0, 1) := by decide +kernel
theorem dX10_number_86 : decode cX10_number 86 = .ok (.iload_n 3, 1) := by decide +kernel
theorem dX10_number_87 : decode cX10_number 87 = .ok (.ifCond .eq 20, 3) := by decide +kernel
theorem dX10_number_90 : decode cX10_number 90 = .ok (.iload 4, 2) := by decide +kernel
theorem dX10_number_92 : decode cX10_number 92 = .ok (.i2l, 1) := by decide +kernel
theorem dX10_number_93 : decode cX10_number 93 = .ok (.iload_n 1, 1) := by decide +kernel
theorem dX10_number_94 : decode cX10_number 94 = .ok (.i2l, 1) := by decide +kernel
theorem dX10_number_95 : decode cX10_number 95 = .ok (.iload_n 2, 1) := by decide +kernel
theorem dX10_number_96 : decode cX10_number 96 = .ok (.i2l, 1) := by decide +kernel
theorem dX10_number_97 : decode cX10_number 97 = .ok (.invokestatic 54, 3) := by decide +kernel
theorem dX10_number_100 : decode cX10_number 100 = .ok (.ifCond .eq 7, 3) := by decide +kernel
theorem dX10_number_103 : decode cX10_number 103 = .ok (.iconst 1, 1) := by decide +kernel
theorem dX10_number_104 : decode cX10_number 104 = .ok (.goto 4, 3) := by decide +kernel
theorem dX10_number_107 : decode cX10_number 107 = .ok (.iconst 0, 1) := by decide +kernel
theorem dX10_number_108 : decode cX10_number 108 = .ok (.invokevirtual 246, 3) := by decide +kernel
theorem dX10_number_111 : decode cX10_number 111 = .ok (.return_, 1) := by decide +kernel
theorem dX10_kindHere_0 : decode cX10_kindHere 0 = .ok (.aload_n 0, 1) := by decide +kernel
theorem dX10_kindHere_1 : decode cX10_kindHere 1 = .ok (.invokevirtual 250, 3) := by decide +kernel
theorem dX10_kindHere_4 : decode cX10_kindHere 4 = .ok (.lstore_n 1, 1) := by decide +kernel
theorem dX10_kindHere_5 : decode cX10_kindHere 5 = .ok (.lload_n 1, 1) := by decide +kernel
theorem dX10_kindHere_6 : decode cX10_kindHere 6 = .ok (.ldc2_w 254, 3) := by decide +kernel
theorem dX10_kindHere_9 : decode cX10_kindHere 9 = .ok (.lcmp, 1) := by decide +kernel
theorem dX10_kindHere_10 : decode cX10_kindHere 10 = .ok (.ifCond .ne 7, 3) := by decide +kernel
theorem dX10_kindHere_13 : decode cX10_kindHere 13 = .ok (.iconst 0, 1) := by decide +kernel
theorem dX10_kindHere_14 : decode cX10_kindHere 14 = .ok (.goto 64, 3) := by decide +kernel
theorem dX10_kindHere_17 : decode cX10_kindHere 17 = .ok (.lload_n 1, 1) := by decide +kernel
theorem dX10_kindHere_18 : decode cX10_kindHere 18 = .ok (.ldc2_w 256, 3) := by decide +kernel
theorem dX10_kindHere_21 : decode cX10_kindHere 21 = .ok (.lcmp, 1) := by decide +kernel
theorem dX10_kindHere_22 : decode cX10_kindHere 22 = .ok (.ifCond .ne 7, 3) := by decide +kernel
theorem dX10_kindHere_25 : decode cX10_kindHere 25 = .ok (.iconst 1, 1) := by decide +kernel
theorem dX10_kindHere_26 : decode cX10_kindHere 26 = .ok (.goto 52, 3) := by decide +kernel
theorem dX10_kindHere_29 : decode cX10_kindHere 29 = .ok (.lload_n 1, 1) := by decide +kernel
theorem dX10_kindHere_30 : decode cX10_kindHere 30 = .ok (.ldc2_w 258, 3) := by decide +kernel
theorem dX10_kindHere_33 : decode cX10_kindHere 33 = .ok (.lcmp, 1) := by decide +kernel
theorem dX10_kindHere_34 : decode cX10_kindHere 34 = .ok (.ifCond .ne 7, 3) := by decide +kernel
theorem dX10_kindHere_37 : decode cX10_kindHere 37 = .ok (.iconst 2, 1) := by decide +kernel
theorem dX10_kindHere_38 : decode cX10_kindHere 38 = .ok (.goto 40, 3) := by decide +kernel
theorem dX10_kindHere_41 : decode cX10_kindHere 41 = .ok (.lload_n 1, 1) := by decide +kernel
theorem dX10_kindHere_42 : decode cX10_kindHere 42 = .ok (.ldc2_w 260, 3) := by decide +kernel
theorem dX10_kindHere_45 : decode cX10_kindHere 45 = .ok (.lcmp, 1) := by decide +kernel
theorem dX10_kindHere_46 : decode cX10_kindHere 46 = .ok (.ifCond .ne 7, 3) := by decide +kernel
theorem dX10_kindHere_49 : decode cX10_kindHere 49 = .ok (.iconst 3, 1) := by decide +kernel
theorem dX10_kindHere_50 : decode cX10_kindHere 50 = .ok (.goto 28, 3) := by decide +kernel
theorem dX10_kindHere_53 : decode cX10_kindHere 53 = .ok (.lload_n 1, 1) := by decide +kernel
theorem dX10_kindHere_54 : decode cX10_kindHere 54 = .ok (.ldc2_w 262, 3) := by decide +kernel
theorem dX10_kindHere_57 : decode cX10_kindHere 57 = .ok (.lcmp, 1) := by decide +kernel
theorem dX10_kindHere_58 : decode cX10_kindHere 58 = .ok (.ifCond .ne 7, 3) := by decide +kernel
theorem dX10_kindHere_61 : decode cX10_kindHere 61 = .ok (.iconst 4, 1) := by decide +kernel
theorem dX10_kindHere_62 : decode cX10_kindHere 62 = .ok (.goto 16, 3) := by decide +kernel
theorem dX10_kindHere_65 : decode cX10_kindHere 65 = .ok (.lload_n 1, 1) := by decide +kernel
theorem dX10_kindHere_66 : decode cX10_kindHere 66 = .ok (.ldc2_w 264, 3) := by decide +kernel
theorem dX10_kindHere_69 : decode cX10_kindHere 69 = .ok (.lcmp, 1) := by decide +kernel
theorem dX10_kindHere_70 : decode cX10_kindHere 70 = .ok (.ifCond .ne 7, 3) := by decide +kernel
theorem dX10_kindHere_73 : decode cX10_kindHere 73 = .ok (.iconst 5, 1) := by decide +kernel
theorem dX10_kindHere_74 : decode cX10_kindHere 74 = .ok (.goto 4, 3) := by decide +kernel
theorem dX10_kindHere_77 : decode cX10_kindHere 77 = .ok (.iconst (-1), 1) := by decide +kernel
theorem dX10_kindHere_78 : decode cX10_kindHere 78 = .ok (.ireturn, 1) := by decide +kernel
theorem dX10_partItem_0 : decode cX10_partItem 0 = .ok (.aload_n 0, 1) := by decide +kernel
theorem dX10_partItem_1 : decode cX10_partItem 1 = .ok (.invokevirtual 250, 3) := by decide +kernel
theorem dX10_partItem_4 : decode cX10_partItem 4 = .ok (.lload_n 1, 1) := by decide +kernel
theorem dX10_partItem_5 : decode cX10_partItem 5 = .ok (.lcmp, 1) := by decide +kernel
theorem dX10_partItem_6 : decode cX10_partItem 6 = .ok (.ifCond .ne 41, 3) := by decide +kernel
theorem dX10_partItem_9 : decode cX10_partItem 9 = .ok (.aload_n 0, 1) := by decide +kernel
theorem dX10_partItem_10 : decode cX10_partItem 10 = .ok (.iconst 1, 1) := by decide +kernel
theorem dX10_partItem_11 : decode cX10_partItem 11 = .ok (.invokevirtual 246, 3) := by decide +kernel
theorem dX10_partItem_14 : decode cX10_partItem 14 = .ok (.aload_n 0, 1) := by decide +kernel
theorem dX10_partItem_15 : decode cX10_partItem 15 = .ok (.iconst 0, 1) := by decide +kernel
theorem dX10_partItem_16 : decode cX10_partItem 16 = .ok (.iload 4, 2) := by decide +kernel
theorem dX10_partItem_18 : decode cX10_partItem 18 = .ok (.invokevirtual 266, 3) := by decide +kernel
theorem dX10_partItem_21 : decode cX10_partItem 21 = .ok (.aload_n 0, 1) := by decide +kernel
theorem dX10_partItem_22 : decode cX10_partItem 22 = .ok (.getfield 7, 3) := by decide +kernel
theorem dX10_partItem_25 : decode cX10_partItem 25 = .ok (.iload_n 3, 1) := by decide +kernel
theorem dX10_partItem_26 : decode cX10_partItem 26 = .ok (.aload_n 0, 1) := by decide +kernel
theorem dX10_partItem_27 : decode cX10_partItem 27 = .ok (.getfield 232, 3) := by decide +kernel
theorem dX10_partItem_30 : decode cX10_partItem 30 = .ok (.ifCond .eq 12, 3) := by decide +kernel
theorem dX10_partItem_33 : decode cX10_partItem 33 = .ok (.aload_n 0, 1) := by decide +kernel
theorem dX10_partItem_34 : decode cX10_partItem 34 = .ok (.getfield 7, 3) := by decide +kernel
theorem dX10_partItem_37 : decode cX10_partItem 37 = .ok (.iload_n 3, 1) := by decide +kernel
theorem dX10_partItem_38 : decode cX10_partItem 38 = .ok (.iaload, 1) := by decide +kernel
theorem dX10_partItem_39 : decode cX10_partItem 39 = .ok (.goto 7, 3) := by decide +kernel
theorem dX10_partItem_42 : decode cX10_partItem 42 = .ok (.aload_n 0, 1) := by decide +kernel
theorem dX10_partItem_43 : decode cX10_partItem 43 = .ok (.getfield 243, 3) := by decide +kernel
theorem dX10_partItem_46 : decode cX10_partItem 46 = .ok (.iastore, 1) := by decide +kernel
theorem dX10_partItem_47 : decode cX10_partItem 47 = .ok (.return_, 1) := by decide +kernel
theorem dX10_beardItem_0 : decode cX10_beardItem 0 = .ok (.aload_n 0, 1) := by decide +kernel
theorem dX10_beardItem_1 : decode cX10_beardItem 1 = .ok (.aload_n 0, 1) := by decide +kernel
theorem dX10_beardItem_2 : decode cX10_beardItem 2 = .ok (.getfield 7, 3) := by decide +kernel
theorem dX10_beardItem_5 : decode cX10_beardItem 5 = .ok (.iconst 1, 1) := by decide +kernel
theorem dX10_beardItem_6 : decode cX10_beardItem 6 = .ok (.iaload, 1) := by decide +kernel
theorem dX10_beardItem_7 : decode cX10_beardItem 7 = .ok (.bipush 8, 2) := by decide +kernel
theorem dX10_beardItem_9 : decode cX10_beardItem 9 = .ok (.if_icmp .ge 7, 3) := by decide +kernel
theorem dX10_beardItem_12 : decode cX10_beardItem 12 = .ok (.iconst 1, 1) := by decide +kernel
theorem dX10_beardItem_13 : decode cX10_beardItem 13 = .ok (.goto 4, 3) := by decide +kernel
theorem dX10_beardItem_16 : decode cX10_beardItem 16 = .ok (.iconst 0, 1) := by decide +kernel
theorem dX10_beardItem_17 : decode cX10_beardItem 17 = .ok (.invokevirtual 246, 3) := by decide +kernel
theorem dX10_beardItem_20 : decode cX10_beardItem 20 = .ok (.aload_n 0, 1) := by decide +kernel
theorem dX10_beardItem_21 : decode cX10_beardItem 21 = .ok (.getfield 232, 3) := by decide +kernel
theorem dX10_beardItem_24 : decode cX10_beardItem 24 = .ok (.ifCond .eq 4, 3) := by decide +kernel
theorem dX10_beardItem_27 : decode cX10_beardItem 27 = .ok (.return_, 1) := by decide +kernel
theorem dX10_beardItem_28 : decode cX10_beardItem 28 = .ok (.aload_n 0, 1) := by decide +kernel
theorem dX10_beardItem_29 : decode cX10_beardItem 29 = .ok (.iload_n 1, 1) := by decide +kernel
theorem dX10_beardItem_30 : decode cX10_beardItem 30 = .ok (.invokevirtual 111, 3) := by decide +kernel
theorem dX10_beardItem_33 : decode cX10_beardItem 33 = .ok (.istore_n 2, 1) := by decide +kernel
theorem dX10_beardItem_34 : decode cX10_beardItem 34 = .ok (.aload_n 0, 1) := by decide +kernel
theorem dX10_beardItem_35 : decode cX10_beardItem 35 = .ok (.ldc2_w 269, 3) := by decide +kernel
theorem dX10_beardItem_38 : decode cX10_beardItem 38 = .ok (.iload_n 2, 1) := by decide +kernel
theorem dX10_beardItem_39 : decode cX10_beardItem 39 = .ok (.iconst 1, 1) := by decide +kernel
theorem dX10_beardItem_40 : decode cX10_beardItem 40 = .ok (.invokestatic 46, 3) := by decide +kernel
theorem dX10_beardItem_43 : decode cX10_beardItem 43 = .ok (.bipush 99, 2) := by decide +kernel
theorem dX10_beardItem_45 : decode cX10_beardItem 45 = .ok (.invokevirtual 271, 3) := by decide +kernel
theorem dX10_beardItem_48 : decode cX10_beardItem 48 = .ok (.aload_n 0, 1) := by decide +kernel
theorem dX10_beardItem_49 : decode cX10_beardItem 49 = .ok (.ldc2_w 275, 3) := by decide +kernel
theorem dX10_beardItem_52 : decode cX10_beardItem 52 = .ok (.iload_n 2, 1) := by decide +kernel
theorem dX10_beardItem_53 : decode cX10_beardItem 53 = .ok (.iconst 2, 1) := by decide +kernel
theorem dX10_beardItem_54 : decode cX10_beardItem 54 = .ok (.invokestatic 46, 3) := by decide +kernel
theorem dX10_beardItem_57 : decode cX10_beardItem 57 = .ok (.sipush 999, 3) := by decide +kernel
theorem dX10_beardItem_60 : decode cX10_beardItem 60 = .ok (.invokevirtual 271, 3) := by decide +kernel
theorem dX10_beardItem_63 : decode cX10_beardItem 63 = .ok (.return_, 1) := by decide +kernel
theorem dX10_wearerItem_0 : decode cX10_wearerItem 0 = .ok (.aload_n 0, 1) := by decide +kernel
theorem dX10_wearerItem_1 : decode cX10_wearerItem 1 = .ok (.aload_n 0, 1) := by decide +kernel
theorem dX10_wearerItem_2 : decode cX10_wearerItem 2 = .ok (.getfield 7, 3) := by decide +kernel
theorem dX10_wearerItem_5 : decode cX10_wearerItem 5 = .ok (.iconst 2, 1) := by decide +kernel
theorem dX10_wearerItem_6 : decode cX10_wearerItem 6 = .ok (.iaload, 1) := by decide +kernel
theorem dX10_wearerItem_7 : decode cX10_wearerItem 7 = .ok (.bipush 6, 2) := by decide +kernel
theorem dX10_wearerItem_9 : decode cX10_wearerItem 9 = .ok (.if_icmp .ge 7, 3) := by decide +kernel
theorem dX10_wearerItem_12 : decode cX10_wearerItem 12 = .ok (.iconst 1, 1) := by decide +kernel
theorem dX10_wearerItem_13 : decode cX10_wearerItem 13 = .ok (.goto 4, 3) := by decide +kernel
theorem dX10_wearerItem_16 : decode cX10_wearerItem 16 = .ok (.iconst 0, 1) := by decide +kernel
theorem dX10_wearerItem_17 : decode cX10_wearerItem 17 = .ok (.invokevirtual 246, 3) := by decide +kernel
theorem dX10_wearerItem_20 : decode cX10_wearerItem 20 = .ok (.aload_n 0, 1) := by decide +kernel
theorem dX10_wearerItem_21 : decode cX10_wearerItem 21 = .ok (.iconst 0, 1) := by decide +kernel
theorem dX10_wearerItem_22 : decode cX10_wearerItem 22 = .ok (.sipush 9999, 3) := by decide +kernel
theorem dX10_wearerItem_25 : decode cX10_wearerItem 25 = .ok (.invokevirtual 266, 3) := by decide +kernel
theorem dX10_wearerItem_28 : decode cX10_wearerItem 28 = .ok (.aload_n 0, 1) := by decide +kernel
theorem dX10_wearerItem_29 : decode cX10_wearerItem 29 = .ok (.getfield 232, 3) := by decide +kernel
theorem dX10_wearerItem_32 : decode cX10_wearerItem 32 = .ok (.ifCond .eq 4, 3) := by decide +kernel
theorem dX10_wearerItem_35 : decode cX10_wearerItem 35 = .ok (.return_, 1) := by decide +kernel
theorem dX10_wearerItem_36 : decode cX10_wearerItem 36 = .ok (.aload_n 0, 1) := by decide +kernel
theorem dX10_wearerItem_37 : decode cX10_wearerItem 37 = .ok (.aload_n 0, 1) := by decide +kernel
theorem dX10_wearerItem_38 : decode cX10_wearerItem 38 = .ok (.getfield 243, 3) := by decide +kernel
theorem dX10_wearerItem_41 : decode cX10_wearerItem 41 = .ok (.invokevirtual 137, 3) := by decide +kernel
theorem dX10_wearerItem_44 : decode cX10_wearerItem 44 = .ok (.istore_n 1, 1) := by decide +kernel
theorem dX10_wearerItem_45 : decode cX10_wearerItem 45 = .ok (.aload_n 0, 1) := by decide +kernel
theorem dX10_wearerItem_46 : decode cX10_wearerItem 46 = .ok (.ldc2_w 277, 3) := by decide +kernel
theorem dX10_wearerItem_49 : decode cX10_wearerItem 49 = .ok (.iload_n 1, 1) := by decide +kernel
theorem dX10_wearerItem_50 : decode cX10_wearerItem 50 = .ok (.iconst 1, 1) := by decide +kernel
theorem dX10_wearerItem_51 : decode cX10_wearerItem 51 = .ok (.invokestatic 49, 3) := by decide +kernel
theorem dX10_wearerItem_54 : decode cX10_wearerItem 54 = .ok (.iconst 5, 1) := by decide +kernel
theorem dX10_wearerItem_55 : decode cX10_wearerItem 55 = .ok (.invokevirtual 271, 3) := by decide +kernel
theorem dX10_wearerItem_58 : decode cX10_wearerItem 58 = .ok (.return_, 1) := by decide +kernel
theorem dX10_houseItem_0 : decode cX10_houseItem 0 = .ok (.aload_n 0, 1) := by decide +kernel
theorem dX10_houseItem_1 : decode cX10_houseItem 1 = .ok (.iconst 1, 1) := by decide +kernel
theorem dX10_houseItem_2 : decode cX10_houseItem 2 = .ok (.invokevirtual 246, 3) := by decide +kernel
theorem dX10_houseItem_5 : decode cX10_houseItem 5 = .ok (.aload_n 0, 1) := by decide +kernel
theorem dX10_houseItem_6 : decode cX10_houseItem 6 = .ok (.iconst 0, 1) := by decide +kernel
theorem dX10_houseItem_7 : decode cX10_houseItem 7 = .ok (.iconst 5, 1) := by decide +kernel
theorem dX10_houseItem_8 : decode cX10_houseItem 8 = .ok (.invokevirtual 266, 3) := by decide +kernel
theorem dX10_houseItem_11 : decode cX10_houseItem 11 = .ok (.aload_n 0, 1) := by decide +kernel
theorem dX10_houseItem_12 : decode cX10_houseItem 12 = .ok (.getfield 232, 3) := by decide +kernel
theorem dX10_houseItem_15 : decode cX10_houseItem 15 = .ok (.ifCond .eq 4, 3) := by decide +kernel
theorem dX10_houseItem_18 : decode cX10_houseItem 18 = .ok (.return_, 1) := by decide +kernel
theorem dX10_houseItem_19 : decode cX10_houseItem 19 = .ok (.aload_n 0, 1) := by decide +kernel
theorem dX10_houseItem_20 : decode cX10_houseItem 20 = .ok (.getfield 243, 3) := by decide +kernel
theorem dX10_houseItem_23 : decode cX10_houseItem 23 = .ok (.istore_n 1, 1) := by decide +kernel
theorem dX10_houseItem_24 : decode cX10_houseItem 24 = .ok (.aload_n 0, 1) := by decide +kernel
theorem dX10_houseItem_25 : decode cX10_houseItem 25 = .ok (.invokevirtual 250, 3) := by decide +kernel
theorem dX10_houseItem_28 : decode cX10_houseItem 28 = .ok (.ldc2_w 279, 3) := by decide +kernel
theorem dX10_houseItem_31 : decode cX10_houseItem 31 = .ok (.lcmp, 1) := by decide +kernel
theorem dX10_houseItem_32 : decode cX10_houseItem 32 = .ok (.ifCond .ne 7, 3) := by decide +kernel
theorem dX10_houseItem_35 : decode cX10_houseItem 35 = .ok (.iconst 1, 1) := by decide +kernel
theorem dX10_houseItem_36 : decode cX10_houseItem 36 = .ok (.goto 4, 3) := by decide +kernel
theorem dX10_houseItem_39 : decode cX10_houseItem 39 = .ok (.iconst 0, 1) := by decide +kernel
theorem dX10_houseItem_40 : decode cX10_houseItem 40 = .ok (.istore_n 2, 1) := by decide +kernel
theorem dX10_houseItem_41 : decode cX10_houseItem 41 = .ok (.aload_n 0, 1) := by decide +kernel
theorem dX10_houseItem_42 : decode cX10_houseItem 42 = .ok (.iload_n 2, 1) := by decide +kernel
theorem dX10_houseItem_43 : decode cX10_houseItem 43 = .ok (.ifCond .ne 14, 3) := by decide +kernel
theorem dX10_houseItem_46 : decode cX10_houseItem 46 = .ok (.aload_n 0, 1) := by decide +kernel
theorem dX10_houseItem_47 : decode cX10_houseItem 47 = .ok (.invokevirtual 250, 3) := by decide +kernel
theorem dX10_houseItem_50 : decode cX10_houseItem 50 = .ok (.ldc2_w 281, 3) := by decide +kernel
theorem dX10_houseItem_53 : decode cX10_houseItem 53 = .ok (.lcmp, 1) := by decide +kernel
theorem dX10_houseItem_54 : decode cX10_houseItem 54 = .ok (.ifCond .ne 7, 3) := by decide +kernel
theorem dX10_houseItem_57 : decode cX10_houseItem 57 = .ok (.iconst 1, 1) := by decide +kernel
theorem dX10_houseItem_58 : decode cX10_houseItem 58 = .ok (.goto 4, 3) := by decide +kernel
theorem dX10_houseItem_61 : decode cX10_houseItem 61 = .ok (.iconst 0, 1) := by decide +kernel
theorem dX10_houseItem_62 : decode cX10_houseItem 62 = .ok (.invokevirtual 246, 3) := by decide +kernel
theorem dX10_houseItem_65 : decode cX10_houseItem 65 = .ok (.aload_n 0, 1) := by decide +kernel
theorem dX10_houseItem_66 : decode cX10_houseItem 66 = .ok (.iconst 0, 1) := by decide +kernel
theorem dX10_houseItem_67 : decode cX10_houseItem 67 = .ok (.bipush 50, 2) := by decide +kernel
theorem dX10_houseItem_69 : decode cX10_houseItem 69 = .ok (.invokevirtual 266, 3) := by decide +kernel
theorem dX10_houseItem_72 : decode cX10_houseItem 72 = .ok (.aload_n 0, 1) := by decide +kernel
theorem dX10_houseItem_73 : decode cX10_houseItem 73 = .ok (.getfield 7, 3) := by decide +kernel
theorem dX10_houseItem_76 : decode cX10_houseItem 76 = .ok (.iload_n 1, 1) := by decide +kernel
theorem dX10_houseItem_77 : decode cX10_houseItem 77 = .ok (.iconst 1, 1) := by decide +kernel
theorem dX10_houseItem_78 : decode cX10_houseItem 78 = .ok (.invokestatic 41, 3) := by decide +kernel
theorem dX10_houseItem_81 : decode cX10_houseItem 81 = .ok (.aload_n 0, 1) := by decide +kernel
theorem dX10_houseItem_82 : decode cX10_houseItem 82 = .ok (.getfield 232, 3) := by decide +kernel
theorem dX10_houseItem_85 : decode cX10_houseItem 85 = .ok (.ifCond .eq 12, 3) := by decide +kernel
theorem dX10_houseItem_88 : decode cX10_houseItem 88 = .ok (.aload_n 0, 1) := by decide +kernel
theorem dX10_houseItem_89 : decode cX10_houseItem 89 = .ok (.iload_n 1, 1) := by decide +kernel
theorem dX10_houseItem_90 : decode cX10_houseItem 90 = .ok (.iconst 1, 1) := by decide +kernel
theorem dX10_houseItem_91 : decode cX10_houseItem 91 = .ok (.invokevirtual 87, 3) := by decide +kernel
theorem dX10_houseItem_94 : decode cX10_houseItem 94 = .ok (.goto 20, 3) := by decide +kernel
theorem dX10_houseItem_97 : decode cX10_houseItem 97 = .ok (.iload_n 2, 1) := by decide +kernel
theorem dX10_houseItem_98 : decode cX10_houseItem 98 = .ok (.ifCond .eq 10, 3) := by decide +kernel
theorem dX10_houseItem_101 : decode cX10_houseItem 101 = .ok (.aload_n 0, 1) := by decide +kernel
theorem dX10_houseItem_102 : decode cX10_houseItem 102 = .ok (.getfield 243, 3) := by decide +kernel
theorem dX10_houseItem_105 : decode cX10_houseItem 105 = .ok (.goto 9, 3) := by decide +kernel
theorem dX10_houseItem_108 : decode cX10_houseItem 108 = .ok (.iconst 0, 1) := by decide +kernel
theorem dX10_houseItem_109 : decode cX10_houseItem 109 = .ok (.aload_n 0, 1) := by decide +kernel
theorem dX10_houseItem_110 : decode cX10_houseItem 110 = .ok (.getfield 243, 3) := by decide +kernel
theorem dX10_houseItem_113 : decode cX10_houseItem 113 = .ok (.isub, 1) := by decide +kernel
theorem dX10_houseItem_114 : decode cX10_houseItem 114 = .ok (.iastore, 1) := by decide +kernel
theorem dX10_houseItem_115 : decode cX10_houseItem 115 = .ok (.return_, 1) := by decide +kernel
theorem dX10_numberHere_0 : decode cX10_numberHere 0 = .ok (.iconst 0, 1) := by decide +kernel
theorem dX10_numberHere_1 : decode cX10_numberHere 1 = .ok (.istore_n 1, 1) := by decide +kernel
theorem dX10_numberHere_2 : decode cX10_numberHere 2 = .ok (.aload_n 0, 1) := by decide +kernel
theorem dX10_numberHere_3 : decode cX10_numberHere 3 = .ok (.getfield 220, 3) := by decide +kernel
theorem dX10_numberHere_6 : decode cX10_numberHere 6 = .ok (.istore_n 2, 1) := by decide +kernel
theorem dX10_numberHere_7 : decode cX10_numberHere 7 = .ok (.iload_n 2, 1) := by decide +kernel
theorem dX10_numberHere_8 : decode cX10_numberHere 8 = .ok (.aload_n 0, 1) := by decide +kernel
theorem dX10_numberHere_9 : decode cX10_numberHere 9 = .ok (.getfield 217, 3) := by decide +kernel
theorem dX10_numberHere_12 : decode cX10_numberHere 12 = .ok (.if_icmp .ge 34, 3) := by decide +kernel
theorem dX10_numberHere_15 : decode cX10_numberHere 15 = .ok (.iload_n 1, 1) := by decide +kernel
theorem dX10_numberHere_16 : decode cX10_numberHere 16 = .ok (.bipush 99, 2) := by decide +kernel
theorem dX10_numberHere_18 : decode cX10_numberHere 18 = .ok (.if_icmp .le 7, 3) := by decide +kernel
theorem dX10_numberHere_21 : decode cX10_numberHere 21 = .ok (.iload_n 1, 1) := by decide +kernel
theorem dX10_numberHere_22 : decode cX10_numberHere 22 = .ok (.goto 17, 3) := by decide +kernel
theorem dX10_numberHere_25 : decode cX10_numberHere 25 = .ok (.bipush 10, 2) := by decide +kernel
theorem dX10_numberHere_27 : decode cX10_numberHere 27 = .ok (.iload_n 1, 1) := by decide +kernel
theorem dX10_numberHere_28 : decode cX10_numberHere 28 = .ok (.imul, 1) := by decide +kernel
theorem dX10_numberHere_29 : decode cX10_numberHere 29 = .ok (.aload_n 0, 1) := by decide +kernel
theorem dX10_numberHere_30 : decode cX10_numberHere 30 = .ok (.getfield 25, 3) := by decide +kernel
theorem dX10_numberHere_33 : decode cX10_numberHere 33 = .ok (.iload_n 2, 1) := by decide +kernel
theorem dX10_numberHere_34 : decode cX10_numberHere 34 = .ok (.iaload, 1) := by decide +kernel
theorem dX10_numberHere_35 : decode cX10_numberHere 35 = .ok (.iadd, 1) := by decide +kernel
theorem dX10_numberHere_36 : decode cX10_numberHere 36 = .ok (.bipush 48, 2) := by decide +kernel
theorem dX10_numberHere_38 : decode cX10_numberHere 38 = .ok (.isub, 1) := by decide +kernel
theorem dX10_numberHere_39 : decode cX10_numberHere 39 = .ok (.istore_n 1, 1) := by decide +kernel
theorem dX10_numberHere_40 : decode cX10_numberHere 40 = .ok (.iinc 2 1, 3) := by decide +kernel
theorem dX10_numberHere_43 : decode cX10_numberHere 43 = .ok (.goto (-36), 3) := by decide +kernel
theorem dX10_numberHere_46 : decode cX10_numberHere 46 = .ok (.aload_n 0, 1) := by decide +kernel
theorem dX10_numberHere_47 : decode cX10_numberHere 47 = .ok (.aload_n 0, 1) := by decide +kernel
theorem dX10_numberHere_48 : decode cX10_numberHere 48 = .ok (.getfield 220, 3) := by decide +kernel
theorem dX10_numberHere_51 : decode cX10_numberHere 51 = .ok (.invokevirtual 223, 3) := by decide +kernel
theorem dX10_numberHere_54 : decode cX10_numberHere 54 = .ok (.invokestatic 229, 3) := by decide +kernel
theorem dX10_numberHere_57 : decode cX10_numberHere 57 = .ok (.ifCond .eq 13, 3) := by decide +kernel
theorem dX10_numberHere_60 : decode cX10_numberHere 60 = .ok (.iload_n 1, 1) := by decide +kernel
theorem dX10_numberHere_61 : decode cX10_numberHere 61 = .ok (.bipush 8, 2) := by decide +kernel
theorem dX10_numberHere_63 : decode cX10_numberHere 63 = .ok (.if_icmp .ge 7, 3) := by decide +kernel
theorem dX10_numberHere_66 : decode cX10_numberHere 66 = .ok (.iload_n 1, 1) := by decide +kernel
theorem dX10_numberHere_67 : decode cX10_numberHere 67 = .ok (.goto 4, 3) := by decide +kernel
theorem dX10_numberHere_70 : decode cX10_numberHere 70 = .ok (.iconst (-1), 1) := by decide +kernel
theorem dX10_numberHere_71 : decode cX10_numberHere 71 = .ok (.ireturn, 1) := by decide +kernel
theorem dX10_hireItem_0 : decode cX10_hireItem 0 = .ok (.aload_n 0, 1) := by decide +kernel
theorem dX10_hireItem_1 : decode cX10_hireItem 1 = .ok (.iconst 1, 1) := by decide +kernel
theorem dX10_hireItem_2 : decode cX10_hireItem 2 = .ok (.invokevirtual 246, 3) := by decide +kernel
theorem dX10_hireItem_5 : decode cX10_hireItem 5 = .ok (.aload_n 0, 1) := by decide +kernel
theorem dX10_hireItem_6 : decode cX10_hireItem 6 = .ok (.invokevirtual 283, 3) := by decide +kernel
theorem dX10_hireItem_9 : decode cX10_hireItem 9 = .ok (.istore_n 1, 1) := by decide +kernel
theorem dX10_hireItem_10 : decode cX10_hireItem 10 = .ok (.aload_n 0, 1) := by decide +kernel
theorem dX10_hireItem_11 : decode cX10_hireItem 11 = .ok (.aload_n 0, 1) := by decide +kernel
theorem dX10_hireItem_12 : decode cX10_hireItem 12 = .ok (.iload_n 1, 1) := by decide +kernel
theorem dX10_hireItem_13 : decode cX10_hireItem 13 = .ok (.invokevirtual 140, 3) := by decide +kernel
theorem dX10_hireItem_16 : decode cX10_hireItem 16 = .ok (.ifCond .eq 16, 3) := by decide +kernel
theorem dX10_hireItem_19 : decode cX10_hireItem 19 = .ok (.aload_n 0, 1) := by decide +kernel
theorem dX10_hireItem_20 : decode cX10_hireItem 20 = .ok (.iload_n 1, 1) := by decide +kernel
theorem dX10_hireItem_21 : decode cX10_hireItem 21 = .ok (.invokevirtual 145, 3) := by decide +kernel
theorem dX10_hireItem_24 : decode cX10_hireItem 24 = .ok (.iconst (-1), 1) := by decide +kernel
theorem dX10_hireItem_25 : decode cX10_hireItem 25 = .ok (.if_icmp .ne 7, 3) := by decide +kernel
theorem dX10_hireItem_28 : decode cX10_hireItem 28 = .ok (.iconst 1, 1) := by decide +kernel
theorem dX10_hireItem_29 : decode cX10_hireItem 29 = .ok (.goto 4, 3) := by decide +kernel
theorem dX10_hireItem_32 : decode cX10_hireItem 32 = .ok (.iconst 0, 1) := by decide +kernel
theorem dX10_hireItem_33 : decode cX10_hireItem 33 = .ok (.invokevirtual 246, 3) := by decide +kernel
theorem dX10_hireItem_36 : decode cX10_hireItem 36 = .ok (.aload_n 0, 1) := by decide +kernel
theorem dX10_hireItem_37 : decode cX10_hireItem 37 = .ok (.invokevirtual 283, 3) := by decide +kernel
theorem dX10_hireItem_40 : decode cX10_hireItem 40 = .ok (.istore_n 2, 1) := by decide +kernel
theorem dX10_hireItem_41 : decode cX10_hireItem 41 = .ok (.aload_n 0, 1) := by decide +kernel
theorem dX10_hireItem_42 : decode cX10_hireItem 42 = .ok (.aload_n 0, 1) := by decide +kernel
theorem dX10_hireItem_43 : decode cX10_hireItem 43 = .ok (.iload_n 2, 1) := by decide +kernel
theorem dX10_hireItem_44 : decode cX10_hireItem 44 = .ok (.invokevirtual 79, 3) := by decide +kernel
theorem dX10_hireItem_47 : decode cX10_hireItem 47 = .ok (.ifCond .eq 17, 3) := by decide +kernel
theorem dX10_hireItem_50 : decode cX10_hireItem 50 = .ok (.aload_n 0, 1) := by decide +kernel
theorem dX10_hireItem_51 : decode cX10_hireItem 51 = .ok (.iload_n 2, 1) := by decide +kernel
theorem dX10_hireItem_52 : decode cX10_hireItem 52 = .ok (.iconst 3, 1) := by decide +kernel
theorem dX10_hireItem_53 : decode cX10_hireItem 53 = .ok (.invokevirtual 61, 3) := by decide +kernel
theorem dX10_hireItem_56 : decode cX10_hireItem 56 = .ok (.iconst (-1), 1) := by decide +kernel
theorem dX10_hireItem_57 : decode cX10_hireItem 57 = .ok (.if_icmp .ne 7, 3) := by decide +kernel
theorem dX10_hireItem_60 : decode cX10_hireItem 60 = .ok (.iconst 1, 1) := by decide +kernel
theorem dX10_hireItem_61 : decode cX10_hireItem 61 = .ok (.goto 4, 3) := by decide +kernel
theorem dX10_hireItem_64 : decode cX10_hireItem 64 = .ok (.iconst 0, 1) := by decide +kernel
theorem dX10_hireItem_65 : decode cX10_hireItem 65 = .ok (.invokevirtual 246, 3) := by decide +kernel
theorem dX10_hireItem_68 : decode cX10_hireItem 68 = .ok (.aload_n 0, 1) := by decide +kernel
theorem dX10_hireItem_69 : decode cX10_hireItem 69 = .ok (.getfield 232, 3) := by decide +kernel
theorem dX10_hireItem_72 : decode cX10_hireItem 72 = .ok (.ifCond .ne 14, 3) := by decide +kernel
theorem dX10_hireItem_75 : decode cX10_hireItem 75 = .ok (.aload_n 0, 1) := by decide +kernel
theorem dX10_hireItem_76 : decode cX10_hireItem 76 = .ok (.getfield 7, 3) := by decide +kernel
theorem dX10_hireItem_79 : decode cX10_hireItem 79 = .ok (.iload_n 2, 1) := by decide +kernel
theorem dX10_hireItem_80 : decode cX10_hireItem 80 = .ok (.iconst 3, 1) := by decide +kernel
theorem dX10_hireItem_81 : decode cX10_hireItem 81 = .ok (.invokestatic 46, 3) := by decide +kernel
theorem dX10_hireItem_84 : decode cX10_hireItem 84 = .ok (.iload_n 1, 1) := by decide +kernel
theorem dX10_hireItem_85 : decode cX10_hireItem 85 = .ok (.iastore, 1) := by decide +kernel
theorem dX10_hireItem_86 : decode cX10_hireItem 86 = .ok (.return_, 1) := by decide +kernel
theorem dX10_item_0 : decode cX10_item 0 = .ok (.aload_n 0, 1) := by decide +kernel
theorem dX10_item_1 : decode cX10_item 1 = .ok (.invokevirtual 286, 3) := by decide +kernel
theorem dX10_item_4 : decode cX10_item 4 = .ok (.istore_n 1, 1) := by decide +kernel
theorem dX10_item_5 : decode cX10_item 5 = .ok (.aload_n 0, 1) := by decide +kernel
theorem dX10_item_6 : decode cX10_item 6 = .ok (.invokevirtual 250, 3) := by decide +kernel
theorem dX10_item_9 : decode cX10_item 9 = .ok (.lstore_n 2, 1) := by decide +kernel
theorem dX10_item_10 : decode cX10_item 10 = .ok (.iload_n 1, 1) := by decide +kernel
theorem dX10_item_11 : decode cX10_item 11 = .ok (.ifCond .lt 11, 3) := by decide +kernel
theorem dX10_item_14 : decode cX10_item 14 = .ok (.aload_n 0, 1) := by decide +kernel
theorem dX10_item_15 : decode cX10_item 15 = .ok (.iload_n 1, 1) := by decide +kernel
theorem dX10_item_16 : decode cX10_item 16 = .ok (.invokevirtual 289, 3) := by decide +kernel
theorem dX10_item_19 : decode cX10_item 19 = .ok (.goto 53, 3) := by decide +kernel
theorem dX10_item_22 : decode cX10_item 22 = .ok (.lload_n 2, 1) := by decide +kernel
theorem dX10_item_23 : decode cX10_item 23 = .ok (.ldc2_w 292, 3) := by decide +kernel
theorem dX10_item_26 : decode cX10_item 26 = .ok (.lcmp, 1) := by decide +kernel
theorem dX10_item_27 : decode cX10_item 27 = .ok (.ifCond .ne 10, 3) := by decide +kernel
theorem dX10_item_30 : decode cX10_item 30 = .ok (.aload_n 0, 1) := by decide +kernel
theorem dX10_item_31 : decode cX10_item 31 = .ok (.invokevirtual 294, 3) := by decide +kernel
theorem dX10_item_34 : decode cX10_item 34 = .ok (.goto 38, 3) := by decide +kernel
theorem dX10_item_37 : decode cX10_item 37 = .ok (.lload_n 2, 1) := by decide +kernel
theorem dX10_item_38 : decode cX10_item 38 = .ok (.ldc2_w 297, 3) := by decide +kernel
theorem dX10_item_41 : decode cX10_item 41 = .ok (.lcmp, 1) := by decide +kernel
theorem dX10_item_42 : decode cX10_item 42 = .ok (.ifCond .ne 10, 3) := by decide +kernel
theorem dX10_item_45 : decode cX10_item 45 = .ok (.aload_n 0, 1) := by decide +kernel
theorem dX10_item_46 : decode cX10_item 46 = .ok (.invokevirtual 299, 3) := by decide +kernel
theorem dX10_item_49 : decode cX10_item 49 = .ok (.goto 23, 3) := by decide +kernel
theorem dX10_item_52 : decode cX10_item 52 = .ok (.lload_n 2, 1) := by decide +kernel
theorem dX10_item_53 : decode cX10_item 53 = .ok (.ldc2_w 302, 3) := by decide +kernel
theorem dX10_item_56 : decode cX10_item 56 = .ok (.lcmp, 1) := by decide +kernel
theorem dX10_item_57 : decode cX10_item 57 = .ok (.ifCond .ne 10, 3) := by decide +kernel
theorem dX10_item_60 : decode cX10_item 60 = .ok (.aload_n 0, 1) := by decide +kernel
theorem dX10_item_61 : decode cX10_item 61 = .ok (.invokevirtual 304, 3) := by decide +kernel
theorem dX10_item_64 : decode cX10_item 64 = .ok (.goto 8, 3) := by decide +kernel
theorem dX10_item_67 : decode cX10_item 67 = .ok (.aload_n 0, 1) := by decide +kernel
theorem dX10_item_68 : decode cX10_item 68 = .ok (.iconst 0, 1) := by decide +kernel
theorem dX10_item_69 : decode cX10_item 69 = .ok (.invokevirtual 246, 3) := by decide +kernel
theorem dX10_item_72 : decode cX10_item 72 = .ok (.return_, 1) := by decide +kernel
theorem dX10_shop_0 : decode cX10_shop 0 = .ok (.aload_n 0, 1) := by decide +kernel
theorem dX10_shop_1 : decode cX10_shop 1 = .ok (.invokevirtual 307, 3) := by decide +kernel
theorem dX10_shop_4 : decode cX10_shop 4 = .ok (.aload_n 0, 1) := by decide +kernel
theorem dX10_shop_5 : decode cX10_shop 5 = .ok (.iconst 0, 1) := by decide +kernel
theorem dX10_shop_6 : decode cX10_shop 6 = .ok (.putfield 232, 3) := by decide +kernel
theorem dX10_shop_9 : decode cX10_shop 9 = .ok (.aload_n 0, 1) := by decide +kernel
theorem dX10_shop_10 : decode cX10_shop 10 = .ok (.iconst 0, 1) := by decide +kernel
theorem dX10_shop_11 : decode cX10_shop 11 = .ok (.putfield 217, 3) := by decide +kernel
theorem dX10_shop_14 : decode cX10_shop 14 = .ok (.aload_n 0, 1) := by decide +kernel
theorem dX10_shop_15 : decode cX10_shop 15 = .ok (.invokevirtual 236, 3) := by decide +kernel
theorem dX10_shop_18 : decode cX10_shop 18 = .ok (.iconst 1, 1) := by decide +kernel
theorem dX10_shop_19 : decode cX10_shop 19 = .ok (.istore_n 1, 1) := by decide +kernel
theorem dX10_shop_20 : decode cX10_shop 20 = .ok (.aload_n 0, 1) := by decide +kernel
theorem dX10_shop_21 : decode cX10_shop 21 = .ok (.invokevirtual 310, 3) := by decide +kernel
theorem dX10_shop_24 : decode cX10_shop 24 = .ok (.aload_n 0, 1) := by decide +kernel
theorem dX10_shop_25 : decode cX10_shop 25 = .ok (.getfield 232, 3) := by decide +kernel
theorem dX10_shop_28 : decode cX10_shop 28 = .ok (.ifCond .ne 31, 3) := by decide +kernel
theorem dX10_shop_31 : decode cX10_shop 31 = .ok (.aload_n 0, 1) := by decide +kernel
theorem dX10_shop_32 : decode cX10_shop 32 = .ok (.aload_n 0, 1) := by decide +kernel
theorem dX10_shop_33 : decode cX10_shop 33 = .ok (.getfield 220, 3) := by decide +kernel
theorem dX10_shop_36 : decode cX10_shop 36 = .ok (.invokevirtual 223, 3) := by decide +kernel
theorem dX10_shop_39 : decode cX10_shop 39 = .ok (.bipush 59, 2) := by decide +kernel
theorem dX10_shop_41 : decode cX10_shop 41 = .ok (.if_icmp .ne 18, 3) := by decide +kernel
theorem dX10_shop_44 : decode cX10_shop 44 = .ok (.aload_n 0, 1) := by decide +kernel
theorem dX10_shop_45 : decode cX10_shop 45 = .ok (.iconst 1, 1) := by decide +kernel
theorem dX10_shop_46 : decode cX10_shop 46 = .ok (.invokevirtual 246, 3) := by decide +kernel
theorem dX10_shop_49 : decode cX10_shop 49 = .ok (.aload_n 0, 1) := by decide +kernel
theorem dX10_shop_50 : decode cX10_shop 50 = .ok (.invokevirtual 310, 3) := by decide +kernel
theorem dX10_shop_53 : decode cX10_shop 53 = .ok (.iinc 1 1, 3) := by decide +kernel
theorem dX10_shop_56 : decode cX10_shop 56 = .ok (.goto (-32), 3) := by decide +kernel
theorem dX10_shop_59 : decode cX10_shop 59 = .ok (.aload_n 0, 1) := by decide +kernel
theorem dX10_shop_60 : decode cX10_shop 60 = .ok (.aload_n 0, 1) := by decide +kernel
theorem dX10_shop_61 : decode cX10_shop 61 = .ok (.getfield 232, 3) := by decide +kernel
theorem dX10_shop_64 : decode cX10_shop 64 = .ok (.ifCond .ne 14, 3) := by decide +kernel
theorem dX10_shop_67 : decode cX10_shop 67 = .ok (.aload_n 0, 1) := by decide +kernel
theorem dX10_shop_68 : decode cX10_shop 68 = .ok (.getfield 220, 3) := by decide +kernel
theorem dX10_shop_71 : decode cX10_shop 71 = .ok (.aload_n 0, 1) := by decide +kernel
theorem dX10_shop_72 : decode cX10_shop 72 = .ok (.getfield 205, 3) := by decide +kernel
theorem dX10_shop_75 : decode cX10_shop 75 = .ok (.if_icmp .ge 7, 3) := by decide +kernel
theorem dX10_shop_78 : decode cX10_shop 78 = .ok (.iconst 1, 1) := by decide +kernel
theorem dX10_shop_79 : decode cX10_shop 79 = .ok (.goto 4, 3) := by decide +kernel
theorem dX10_shop_82 : decode cX10_shop 82 = .ok (.iconst 0, 1) := by decide +kernel
theorem dX10_shop_83 : decode cX10_shop 83 = .ok (.putfield 232, 3) := by decide +kernel
theorem dX10_shop_86 : decode cX10_shop 86 = .ok (.aload_n 0, 1) := by decide +kernel
theorem dX10_shop_87 : decode cX10_shop 87 = .ok (.getfield 232, 3) := by decide +kernel
theorem dX10_shop_90 : decode cX10_shop 90 = .ok (.ifCond .eq 7, 3) := by decide +kernel
theorem dX10_shop_93 : decode cX10_shop 93 = .ok (.aload_n 0, 1) := by decide +kernel
theorem dX10_shop_94 : decode cX10_shop 94 = .ok (.invokevirtual 313, 3) := by decide +kernel
theorem dX10_shop_97 : decode cX10_shop 97 = .ok (.aload_n 0, 1) := by decide +kernel
theorem dX10_shop_98 : decode cX10_shop 98 = .ok (.iconst 0, 1) := by decide +kernel
theorem dX10_shop_99 : decode cX10_shop 99 = .ok (.putfield 205, 3) := by decide +kernel
theorem dX10_shop_102 : decode cX10_shop 102 = .ok (.aload_n 0, 1) := by decide +kernel
theorem dX10_shop_103 : decode cX10_shop 103 = .ok (.getfield 232, 3) := by decide +kernel
theorem dX10_shop_106 : decode cX10_shop 106 = .ok (.ifCond .eq 12, 3) := by decide +kernel
theorem dX10_shop_109 : decode cX10_shop 109 = .ok (.iconst (-1), 1) := by decide +kernel
theorem dX10_shop_110 : decode cX10_shop 110 = .ok (.aload_n 0, 1) := by decide +kernel
theorem dX10_shop_111 : decode cX10_shop 111 = .ok (.getfield 220, 3) := by decide +kernel
theorem dX10_shop_114 : decode cX10_shop 114 = .ok (.isub, 1) := by decide +kernel
theorem dX10_shop_115 : decode cX10_shop 115 = .ok (.goto 4, 3) := by decide +kernel
theorem dX10_shop_118 : decode cX10_shop 118 = .ok (.iload_n 1, 1) := by decide +kernel
theorem dX10_shop_119 : decode cX10_shop 119 = .ok (.ireturn, 1) := by decide +kernel
theorem dX10_isOne_0 : decode cX10_isOne 0 = .ok (.iload_n 0, 1) := by decide +kernel
theorem dX10_isOne_1 : decode cX10_isOne 1 = .ok (.i2l, 1) := by decide +kernel
theorem dX10_isOne_2 : decode cX10_isOne 2 = .ok (.lconst 0, 1) := by decide +kernel
theorem dX10_isOne_3 : decode cX10_isOne 3 = .ok (.ldc2_w 143, 3) := by decide +kernel
theorem dX10_isOne_6 : decode cX10_isOne 6 = .ok (.invokestatic 54, 3) := by decide +kernel
theorem dX10_isOne_9 : decode cX10_isOne 9 = .ok (.ireturn, 1) := by decide +kernel
theorem dX10_sheet_0 : decode cX10_sheet 0 = .ok (.iload_n 1, 1) := by decide +kernel
theorem dX10_sheet_1 : decode cX10_sheet 1 = .ok (.invokestatic 316, 3) := by decide +kernel
theorem dX10_sheet_4 : decode cX10_sheet 4 = .ok (.ifCond .eq 25, 3) := by decide +kernel
theorem dX10_sheet_7 : decode cX10_sheet 7 = .ok (.iload_n 2, 1) := by decide +kernel
theorem dX10_sheet_8 : decode cX10_sheet 8 = .ok (.ifCond .eq 28, 3) := by decide +kernel
theorem dX10_sheet_11 : decode cX10_sheet 11 = .ok (.iload_n 2, 1) := by decide +kernel
theorem dX10_sheet_12 : decode cX10_sheet 12 = .ok (.bipush 8, 2) := by decide +kernel
theorem dX10_sheet_14 : decode cX10_sheet 14 = .ok (.if_icmp .eq 22, 3) := by decide +kernel
theorem dX10_sheet_17 : decode cX10_sheet 17 = .ok (.iload_n 2, 1) := by decide +kernel
theorem dX10_sheet_18 : decode cX10_sheet 18 = .ok (.bipush 16, 2) := by decide +kernel
theorem dX10_sheet_20 : decode cX10_sheet 20 = .ok (.if_icmp .eq 16, 3) := by decide +kernel
theorem dX10_sheet_23 : decode cX10_sheet 23 = .ok (.iload_n 2, 1) := by decide +kernel
theorem dX10_sheet_24 : decode cX10_sheet 24 = .ok (.bipush 64, 2) := by decide +kernel
theorem dX10_sheet_26 : decode cX10_sheet 26 = .ok (.if_icmp .eq 10, 3) := by decide +kernel
theorem dX10_sheet_29 : decode cX10_sheet 29 = .ok (.aload_n 0, 1) := by decide +kernel
theorem dX10_sheet_30 : decode cX10_sheet 30 = .ok (.ldc 45, 2) := by decide +kernel
theorem dX10_sheet_32 : decode cX10_sheet 32 = .ok (.invokevirtual 75, 3) := by decide +kernel
theorem dX10_sheet_35 : decode cX10_sheet 35 = .ok (.ireturn, 1) := by decide +kernel
theorem dX10_sheet_36 : decode cX10_sheet 36 = .ok (.iload_n 3, 1) := by decide +kernel
theorem dX10_sheet_37 : decode cX10_sheet 37 = .ok (.ifCond .ge 11, 3) := by decide +kernel
theorem dX10_sheet_40 : decode cX10_sheet 40 = .ok (.aload_n 0, 1) := by decide +kernel
theorem dX10_sheet_41 : decode cX10_sheet 41 = .ok (.ldc_w 319, 3) := by decide +kernel
theorem dX10_sheet_44 : decode cX10_sheet 44 = .ok (.invokevirtual 75, 3) := by decide +kernel
theorem dX10_sheet_47 : decode cX10_sheet 47 = .ok (.ireturn, 1) := by decide +kernel
theorem dX10_sheet_48 : decode cX10_sheet 48 = .ok (.iload_n 3, 1) := by decide +kernel
theorem dX10_sheet_49 : decode cX10_sheet 49 = .ok (.bipush 40, 2) := by decide +kernel
theorem dX10_sheet_51 : decode cX10_sheet 51 = .ok (.if_icmp .le 10, 3) := by decide +kernel
theorem dX10_sheet_54 : decode cX10_sheet 54 = .ok (.aload_n 0, 1) := by decide +kernel
theorem dX10_sheet_55 : decode cX10_sheet 55 = .ok (.ldc 45, 2) := by decide +kernel
theorem dX10_sheet_57 : decode cX10_sheet 57 = .ok (.invokevirtual 75, 3) := by decide +kernel
theorem dX10_sheet_60 : decode cX10_sheet 60 = .ok (.ireturn, 1) := by decide +kernel
theorem dX10_sheet_61 : decode cX10_sheet 61 = .ok (.aload_n 0, 1) := by decide +kernel
theorem dX10_sheet_62 : decode cX10_sheet 62 = .ok (.getfield 28, 3) := by decide +kernel
theorem dX10_sheet_65 : decode cX10_sheet 65 = .ok (.iload_n 1, 1) := by decide +kernel
theorem dX10_sheet_66 : decode cX10_sheet 66 = .ok (.iload_n 2, 1) := by decide +kernel
theorem dX10_sheet_67 : decode cX10_sheet 67 = .ok (.iastore, 1) := by decide +kernel
theorem dX10_sheet_68 : decode cX10_sheet 68 = .ok (.aload_n 0, 1) := by decide +kernel
theorem dX10_sheet_69 : decode cX10_sheet 69 = .ok (.getfield 31, 3) := by decide +kernel
theorem dX10_sheet_72 : decode cX10_sheet 72 = .ok (.iload_n 1, 1) := by decide +kernel
theorem dX10_sheet_73 : decode cX10_sheet 73 = .ok (.iload_n 2, 1) := by decide +kernel
theorem dX10_sheet_74 : decode cX10_sheet 74 = .ok (.ifCond .ne 7, 3) := by decide +kernel
theorem dX10_sheet_77 : decode cX10_sheet 77 = .ok (.iconst 0, 1) := by decide +kernel
theorem dX10_sheet_78 : decode cX10_sheet 78 = .ok (.goto 4, 3) := by decide +kernel
theorem dX10_sheet_81 : decode cX10_sheet 81 = .ok (.iload_n 3, 1) := by decide +kernel
theorem dX10_sheet_82 : decode cX10_sheet 82 = .ok (.iastore, 1) := by decide +kernel
theorem dX10_sheet_83 : decode cX10_sheet 83 = .ok (.iconst 0, 1) := by decide +kernel
theorem dX10_sheet_84 : decode cX10_sheet 84 = .ok (.istore 4, 2) := by decide +kernel
theorem dX10_sheet_86 : decode cX10_sheet 86 = .ok (.iload 4, 2) := by decide +kernel
theorem dX10_sheet_88 : decode cX10_sheet 88 = .ok (.bipush 40, 2) := by decide +kernel
theorem dX10_sheet_90 : decode cX10_sheet 90 = .ok (.if_icmp .ge 22, 3) := by decide +kernel
theorem dX10_sheet_93 : decode cX10_sheet 93 = .ok (.aload_n 0, 1) := by decide +kernel
theorem dX10_sheet_94 : decode cX10_sheet 94 = .ok (.getfield 34, 3) := by decide +kernel
theorem dX10_sheet_97 : decode cX10_sheet 97 = .ok (.bipush 40, 2) := by decide +kernel
theorem dX10_sheet_99 : decode cX10_sheet 99 = .ok (.iload_n 1, 1) := by decide +kernel
theorem dX10_sheet_100 : decode cX10_sheet 100 = .ok (.imul, 1) := by decide +kernel
theorem dX10_sheet_101 : decode cX10_sheet 101 = .ok (.iload 4, 2) := by decide +kernel
theorem dX10_sheet_103 : decode cX10_sheet 103 = .ok (.iadd, 1) := by decide +kernel
theorem dX10_sheet_104 : decode cX10_sheet 104 = .ok (.lconst 0, 1) := by decide +kernel
theorem dX10_sheet_105 : decode cX10_sheet 105 = .ok (.lastore, 1) := by decide +kernel
theorem dX10_sheet_106 : decode cX10_sheet 106 = .ok (.iinc 4 1, 3) := by decide +kernel
theorem dX10_sheet_109 : decode cX10_sheet 109 = .ok (.goto (-23), 3) := by decide +kernel
theorem dX10_sheet_112 : decode cX10_sheet 112 = .ok (.aload_n 0, 1) := by decide +kernel
theorem dX10_sheet_113 : decode cX10_sheet 113 = .ok (.getfield 31, 3) := by decide +kernel
theorem dX10_sheet_116 : decode cX10_sheet 116 = .ok (.iload_n 1, 1) := by decide +kernel
theorem dX10_sheet_117 : decode cX10_sheet 117 = .ok (.iaload, 1) := by decide +kernel
theorem dX10_sheet_118 : decode cX10_sheet 118 = .ok (.ireturn, 1) := by decide +kernel
theorem dX10_narrowed_0 : decode cX10_narrowed 0 = .ok (.iload_n 0, 1) := by decide +kernel
theorem dX10_narrowed_1 : decode cX10_narrowed 1 = .ok (.bipush 8, 2) := by decide +kernel
theorem dX10_narrowed_3 : decode cX10_narrowed 3 = .ok (.if_icmp .ne 10, 3) := by decide +kernel
theorem dX10_narrowed_6 : decode cX10_narrowed 6 = .ok (.lload_n 1, 1) := by decide +kernel
theorem dX10_narrowed_7 : decode cX10_narrowed 7 = .ok (.l2i, 1) := by decide +kernel
theorem dX10_narrowed_8 : decode cX10_narrowed 8 = .ok (.i2b, 1) := by decide +kernel
theorem dX10_narrowed_9 : decode cX10_narrowed 9 = .ok (.i2l, 1) := by decide +kernel
theorem dX10_narrowed_10 : decode cX10_narrowed 10 = .ok (.goto 17, 3) := by decide +kernel
theorem dX10_narrowed_13 : decode cX10_narrowed 13 = .ok (.iload_n 0, 1) := by decide +kernel
theorem dX10_narrowed_14 : decode cX10_narrowed 14 = .ok (.bipush 16, 2) := by decide +kernel
theorem dX10_narrowed_16 : decode cX10_narrowed 16 = .ok (.if_icmp .ne 10, 3) := by decide +kernel
theorem dX10_narrowed_19 : decode cX10_narrowed 19 = .ok (.lload_n 1, 1) := by decide +kernel
theorem dX10_narrowed_20 : decode cX10_narrowed 20 = .ok (.l2i, 1) := by decide +kernel
theorem dX10_narrowed_21 : decode cX10_narrowed 21 = .ok (.i2s, 1) := by decide +kernel
theorem dX10_narrowed_22 : decode cX10_narrowed 22 = .ok (.i2l, 1) := by decide +kernel
theorem dX10_narrowed_23 : decode cX10_narrowed 23 = .ok (.goto 4, 3) := by decide +kernel
theorem dX10_narrowed_26 : decode cX10_narrowed 26 = .ok (.lload_n 1, 1) := by decide +kernel
theorem dX10_narrowed_27 : decode cX10_narrowed 27 = .ok (.lreturn, 1) := by decide +kernel
theorem dX10_wrongSheet_0 : decode cX10_wrongSheet 0 = .ok (.iload_n 1, 1) := by decide +kernel
theorem dX10_wrongSheet_1 : decode cX10_wrongSheet 1 = .ok (.invokestatic 316, 3) := by decide +kernel
theorem dX10_wrongSheet_4 : decode cX10_wrongSheet 4 = .ok (.ifCond .ne 8, 3) := by decide +kernel
theorem dX10_wrongSheet_7 : decode cX10_wrongSheet 7 = .ok (.ldc 45, 2) := by decide +kernel
theorem dX10_wrongSheet_9 : decode cX10_wrongSheet 9 = .ok (.goto 19, 3) := by decide +kernel
theorem dX10_wrongSheet_12 : decode cX10_wrongSheet 12 = .ok (.aload_n 0, 1) := by decide +kernel
theorem dX10_wrongSheet_13 : decode cX10_wrongSheet 13 = .ok (.getfield 28, 3) := by decide +kernel
theorem dX10_wrongSheet_16 : decode cX10_wrongSheet 16 = .ok (.iload_n 1, 1) := by decide +kernel
theorem dX10_wrongSheet_17 : decode cX10_wrongSheet 17 = .ok (.iaload, 1) := by decide +kernel
theorem dX10_wrongSheet_18 : decode cX10_wrongSheet 18 = .ok (.ifCond .ne 9, 3) := by decide +kernel
theorem dX10_wrongSheet_21 : decode cX10_wrongSheet 21 = .ok (.ldc_w 320, 3) := by decide +kernel
theorem dX10_wrongSheet_24 : decode cX10_wrongSheet 24 = .ok (.goto 4, 3) := by decide +kernel
theorem dX10_wrongSheet_27 : decode cX10_wrongSheet 27 = .ok (.iconst 0, 1) := by decide +kernel
theorem dX10_wrongSheet_28 : decode cX10_wrongSheet 28 = .ok (.ireturn, 1) := by decide +kernel
theorem dX10_write_0 : decode cX10_write 0 = .ok (.aload_n 0, 1) := by decide +kernel
theorem dX10_write_1 : decode cX10_write 1 = .ok (.iload_n 1, 1) := by decide +kernel
theorem dX10_write_2 : decode cX10_write 2 = .ok (.invokevirtual 321, 3) := by decide +kernel
theorem dX10_write_5 : decode cX10_write 5 = .ok (.istore 5, 2) := by decide +kernel
theorem dX10_write_7 : decode cX10_write 7 = .ok (.iload 5, 2) := by decide +kernel
theorem dX10_write_9 : decode cX10_write 9 = .ok (.ifCond .eq 11, 3) := by decide +kernel
theorem dX10_write_12 : decode cX10_write 12 = .ok (.aload_n 0, 1) := by decide +kernel
theorem dX10_write_13 : decode cX10_write 13 = .ok (.iload 5, 2) := by decide +kernel
theorem dX10_write_15 : decode cX10_write 15 = .ok (.invokevirtual 75, 3) := by decide +kernel
theorem dX10_write_18 : decode cX10_write 18 = .ok (.i2l, 1) := by decide +kernel
theorem dX10_write_19 : decode cX10_write 19 = .ok (.lreturn, 1) := by decide +kernel
theorem dX10_write_20 : decode cX10_write 20 = .ok (.iload_n 2, 1) := by decide +kernel
theorem dX10_write_21 : decode cX10_write 21 = .ok (.i2l, 1) := by decide +kernel
theorem dX10_write_22 : decode cX10_write 22 = .ok (.lconst 0, 1) := by decide +kernel
theorem dX10_write_23 : decode cX10_write 23 = .ok (.aload_n 0, 1) := by decide +kernel
theorem dX10_write_24 : decode cX10_write 24 = .ok (.getfield 31, 3) := by decide +kernel
theorem dX10_write_27 : decode cX10_write 27 = .ok (.iload_n 1, 1) := by decide +kernel
theorem dX10_write_28 : decode cX10_write 28 = .ok (.iaload, 1) := by decide +kernel
theorem dX10_write_29 : decode cX10_write 29 = .ok (.iconst 1, 1) := by decide +kernel
theorem dX10_write_30 : decode cX10_write 30 = .ok (.isub, 1) := by decide +kernel
theorem dX10_write_31 : decode cX10_write 31 = .ok (.i2l, 1) := by decide +kernel
theorem dX10_write_32 : decode cX10_write 32 = .ok (.invokestatic 54, 3) := by decide +kernel
theorem dX10_write_35 : decode cX10_write 35 = .ok (.ifCond .ne 11, 3) := by decide +kernel
theorem dX10_write_38 : decode cX10_write 38 = .ok (.aload_n 0, 1) := by decide +kernel
theorem dX10_write_39 : decode cX10_write 39 = .ok (.ldc 45, 2) := by decide +kernel
theorem dX10_write_41 : decode cX10_write 41 = .ok (.invokevirtual 75, 3) := by decide +kernel
theorem dX10_write_44 : decode cX10_write 44 = .ok (.i2l, 1) := by decide +kernel
theorem dX10_write_45 : decode cX10_write 45 = .ok (.lreturn, 1) := by decide +kernel
theorem dX10_write_46 : decode cX10_write 46 = .ok (.aload_n 0, 1) := by decide +kernel
theorem dX10_write_47 : decode cX10_write 47 = .ok (.getfield 34, 3) := by decide +kernel
theorem dX10_write_50 : decode cX10_write 50 = .ok (.bipush 40, 2) := by decide +kernel
theorem dX10_write_52 : decode cX10_write 52 = .ok (.iload_n 1, 1) := by decide +kernel
theorem dX10_write_53 : decode cX10_write 53 = .ok (.imul, 1) := by decide +kernel
theorem dX10_write_54 : decode cX10_write 54 = .ok (.iload_n 2, 1) := by decide +kernel
theorem dX10_write_55 : decode cX10_write 55 = .ok (.iadd, 1) := by decide +kernel
theorem dX10_write_56 : decode cX10_write 56 = .ok (.laload, 1) := by decide +kernel
theorem dX10_write_57 : decode cX10_write 57 = .ok (.lstore 6, 2) := by decide +kernel
theorem dX10_write_59 : decode cX10_write 59 = .ok (.aload_n 0, 1) := by decide +kernel
theorem dX10_write_60 : decode cX10_write 60 = .ok (.getfield 34, 3) := by decide +kernel
theorem dX10_write_63 : decode cX10_write 63 = .ok (.bipush 40, 2) := by decide +kernel
theorem dX10_write_65 : decode cX10_write 65 = .ok (.iload_n 1, 1) := by decide +kernel
theorem dX10_write_66 : decode cX10_write 66 = .ok (.imul, 1) := by decide +kernel
theorem dX10_write_67 : decode cX10_write 67 = .ok (.iload_n 2, 1) := by decide +kernel
theorem dX10_write_68 : decode cX10_write 68 = .ok (.iadd, 1) := by decide +kernel
theorem dX10_write_69 : decode cX10_write 69 = .ok (.aload_n 0, 1) := by decide +kernel
theorem dX10_write_70 : decode cX10_write 70 = .ok (.getfield 28, 3) := by decide +kernel
theorem dX10_write_73 : decode cX10_write 73 = .ok (.iload_n 1, 1) := by decide +kernel
theorem dX10_write_74 : decode cX10_write 74 = .ok (.iaload, 1) := by decide +kernel
theorem dX10_write_75 : decode cX10_write 75 = .ok (.lload_n 3, 1) := by decide +kernel
theorem dX10_write_76 : decode cX10_write 76 = .ok (.invokestatic 324, 3) := by decide +kernel
theorem dX10_write_79 : decode cX10_write 79 = .ok (.lastore, 1) := by decide +kernel
theorem dX10_write_80 : decode cX10_write 80 = .ok (.lload 6, 2) := by decide +kernel
theorem dX10_write_82 : decode cX10_write 82 = .ok (.lreturn, 1) := by decide +kernel
theorem dX10_copy_0 : decode cX10_copy 0 = .ok (.iload_n 1, 1) := by decide +kernel
theorem dX10_copy_1 : decode cX10_copy 1 = .ok (.invokestatic 316, 3) := by decide +kernel
theorem dX10_copy_4 : decode cX10_copy 4 = .ok (.ifCond .eq 10, 3) := by decide +kernel
theorem dX10_copy_7 : decode cX10_copy 7 = .ok (.iload_n 3, 1) := by decide +kernel
theorem dX10_copy_8 : decode cX10_copy 8 = .ok (.invokestatic 316, 3) := by decide +kernel
theorem dX10_copy_11 : decode cX10_copy 11 = .ok (.ifCond .ne 10, 3) := by decide +kernel
theorem dX10_copy_14 : decode cX10_copy 14 = .ok (.aload_n 0, 1) := by decide +kernel
theorem dX10_copy_15 : decode cX10_copy 15 = .ok (.ldc 45, 2) := by decide +kernel
theorem dX10_copy_17 : decode cX10_copy 17 = .ok (.invokevirtual 75, 3) := by decide +kernel
theorem dX10_copy_20 : decode cX10_copy 20 = .ok (.ireturn, 1) := by decide +kernel
theorem dX10_copy_21 : decode cX10_copy 21 = .ok (.aload_n 0, 1) := by decide +kernel
theorem dX10_copy_22 : decode cX10_copy 22 = .ok (.getfield 28, 3) := by decide +kernel
theorem dX10_copy_25 : decode cX10_copy 25 = .ok (.iload_n 1, 1) := by decide +kernel
theorem dX10_copy_26 : decode cX10_copy 26 = .ok (.iaload, 1) := by decide +kernel
theorem dX10_copy_27 : decode cX10_copy 27 = .ok (.ifCond .eq 12, 3) := by decide +kernel
theorem dX10_copy_30 : decode cX10_copy 30 = .ok (.aload_n 0, 1) := by decide +kernel
theorem dX10_copy_31 : decode cX10_copy 31 = .ok (.getfield 28, 3) := by decide +kernel
theorem dX10_copy_34 : decode cX10_copy 34 = .ok (.iload_n 3, 1) := by decide +kernel
theorem dX10_copy_35 : decode cX10_copy 35 = .ok (.iaload, 1) := by decide +kernel
theorem dX10_copy_36 : decode cX10_copy 36 = .ok (.ifCond .ne 11, 3) := by decide +kernel
theorem dX10_copy_39 : decode cX10_copy 39 = .ok (.aload_n 0, 1) := by decide +kernel
theorem dX10_copy_40 : decode cX10_copy 40 = .ok (.ldc_w 320, 3) := by decide +kernel
theorem dX10_copy_43 : decode cX10_copy 43 = .ok (.invokevirtual 75, 3) := by decide +kernel
theorem dX10_copy_46 : decode cX10_copy 46 = .ok (.ireturn, 1) := by decide +kernel
theorem dX10_copy_47 : decode cX10_copy 47 = .ok (.aload_n 0, 1) := by decide +kernel
theorem dX10_copy_48 : decode cX10_copy 48 = .ok (.getfield 28, 3) := by decide +kernel
theorem dX10_copy_51 : decode cX10_copy 51 = .ok (.iload_n 1, 1) := by decide +kernel
theorem dX10_copy_52 : decode cX10_copy 52 = .ok (.iaload, 1) := by decide +kernel
theorem dX10_copy_53 : decode cX10_copy 53 = .ok (.aload_n 0, 1) := by decide +kernel
theorem dX10_copy_54 : decode cX10_copy 54 = .ok (.getfield 28, 3) := by decide +kernel
theorem dX10_copy_57 : decode cX10_copy 57 = .ok (.iload_n 3, 1) := by decide +kernel
theorem dX10_copy_58 : decode cX10_copy 58 = .ok (.iaload, 1) := by decide +kernel
theorem dX10_copy_59 : decode cX10_copy 59 = .ok (.if_icmp .eq 10, 3) := by decide +kernel
theorem dX10_copy_62 : decode cX10_copy 62 = .ok (.aload_n 0, 1) := by decide +kernel
theorem dX10_copy_63 : decode cX10_copy 63 = .ok (.ldc 134, 2) := by decide +kernel
theorem dX10_copy_65 : decode cX10_copy 65 = .ok (.invokevirtual 75, 3) := by decide +kernel
theorem dX10_copy_68 : decode cX10_copy 68 = .ok (.ireturn, 1) := by decide +kernel
theorem dX10_copy_69 : decode cX10_copy 69 = .ok (.iload_n 2, 1) := by decide +kernel
theorem dX10_copy_70 : decode cX10_copy 70 = .ok (.ifCond .lt 40, 3) := by decide +kernel
theorem dX10_copy_73 : decode cX10_copy 73 = .ok (.iload 4, 2) := by decide +kernel
theorem dX10_copy_75 : decode cX10_copy 75 = .ok (.ifCond .lt 35, 3) := by decide +kernel
theorem dX10_copy_78 : decode cX10_copy 78 = .ok (.iload 5, 2) := by decide +kernel
theorem dX10_copy_80 : decode cX10_copy 80 = .ok (.ifCond .lt 30, 3) := by decide +kernel
theorem dX10_copy_83 : decode cX10_copy 83 = .ok (.iload 5, 2) := by decide +kernel
theorem dX10_copy_85 : decode cX10_copy 85 = .ok (.aload_n 0, 1) := by decide +kernel
theorem dX10_copy_86 : decode cX10_copy 86 = .ok (.getfield 31, 3) := by decide +kernel
theorem dX10_copy_89 : decode cX10_copy 89 = .ok (.iload_n 1, 1) := by decide +kernel
theorem dX10_copy_90 : decode cX10_copy 90 = .ok (.iaload, 1) := by decide +kernel
theorem dX10_copy_91 : decode cX10_copy 91 = .ok (.iload_n 2, 1) := by decide +kernel
theorem dX10_copy_92 : decode cX10_copy 92 = .ok (.isub, 1) := by decide +kernel
theorem dX10_copy_93 : decode cX10_copy 93 = .ok (.if_icmp .gt 17, 3) := by decide +kernel
theorem dX10_copy_96 : decode cX10_copy 96 = .ok (.iload 5, 2) := by decide +kernel
theorem dX10_copy_98 : decode cX10_copy 98 = .ok (.aload_n 0, 1) := by decide +kernel
theorem dX10_copy_99 : decode cX10_copy 99 = .ok (.getfield 31, 3) := by decide +kernel
theorem dX10_copy_102 : decode cX10_copy 102 = .ok (.iload_n 3, 1) := by decide +kernel
theorem dX10_copy_103 : decode cX10_copy 103 = .ok (.iaload, 1) := by decide +kernel
theorem dX10_copy_104 : decode cX10_copy 104 = .ok (.iload 4, 2) := by decide +kernel
theorem dX10_copy_106 : decode cX10_copy 106 = .ok (.isub, 1) := by decide +kernel
theorem dX10_copy_107 : decode cX10_copy 107 = .ok (.if_icmp .le 10, 3) := by decide +kernel
theorem dX10_copy_110 : decode cX10_copy 110 = .ok (.aload_n 0, 1) := by decide +kernel
theorem dX10_copy_111 : decode cX10_copy 111 = .ok (.ldc 45, 2) := by decide +kernel
theorem dX10_copy_113 : decode cX10_copy 113 = .ok (.invokevirtual 75, 3) := by decide +kernel
theorem dX10_copy_116 : decode cX10_copy 116 = .ok (.ireturn, 1) := by decide +kernel
theorem dX10_copy_117 : decode cX10_copy 117 = .ok (.iconst 0, 1) := by decide +kernel
theorem dX10_copy_118 : decode cX10_copy 118 = .ok (.istore 6, 2) := by decide +kernel
theorem dX10_copy_120 : decode cX10_copy 120 = .ok (.iload 6, 2) := by decide +kernel
theorem dX10_copy_122 : decode cX10_copy 122 = .ok (.iload 5, 2) := by decide +kernel
theorem dX10_copy_124 : decode cX10_copy 124 = .ok (.if_icmp .ge 30, 3) := by decide +kernel
theorem dX10_copy_127 : decode cX10_copy 127 = .ok (.aload_n 0, 1) := by decide +kernel
theorem dX10_copy_128 : decode cX10_copy 128 = .ok (.getfield 38, 3) := by decide +kernel
theorem dX10_copy_131 : decode cX10_copy 131 = .ok (.iload 6, 2) := by decide +kernel
theorem dX10_copy_133 : decode cX10_copy 133 = .ok (.aload_n 0, 1) := by decide +kernel
theorem dX10_copy_134 : decode cX10_copy 134 = .ok (.getfield 34, 3) := by decide +kernel
theorem dX10_copy_137 : decode cX10_copy 137 = .ok (.bipush 40, 2) := by decide +kernel
theorem dX10_copy_139 : decode cX10_copy 139 = .ok (.iload_n 1, 1) := by decide +kernel
theorem dX10_copy_140 : decode cX10_copy 140 = .ok (.imul, 1) := by decide +kernel
theorem dX10_copy_141 : decode cX10_copy 141 = .ok (.iload_n 2, 1) := by decide +kernel
theorem dX10_copy_142 : decode cX10_copy 142 = .ok (.iadd, 1) := by decide +kernel
theorem dX10_copy_143 : decode cX10_copy 143 = .ok (.iload 6, 2) := by decide +kernel
theorem dX10_copy_145 : decode cX10_copy 145 = .ok (.iadd, 1) := by decide +kernel
theorem dX10_copy_146 : decode cX10_copy 146 = .ok (.laload, 1) := by decide +kernel
theorem dX10_copy_147 : decode cX10_copy 147 = .ok (.lastore, 1) := by decide +kernel
theorem dX10_copy_148 : decode cX10_copy 148 = .ok (.iinc 6 1, 3) := by decide +kernel
theorem dX10_copy_151 : decode cX10_copy 151 = .ok (.goto (-31), 3) := by decide +kernel
theorem dX10_copy_154 : decode cX10_copy 154 = .ok (.iconst 0, 1) := by decide +kernel
theorem dX10_copy_155 : decode cX10_copy 155 = .ok (.istore 6, 2) := by decide +kernel
theorem dX10_copy_157 : decode cX10_copy 157 = .ok (.iload 6, 2) := by decide +kernel
theorem dX10_copy_159 : decode cX10_copy 159 = .ok (.iload 5, 2) := by decide +kernel
theorem dX10_copy_161 : decode cX10_copy 161 = .ok (.if_icmp .ge 31, 3) := by decide +kernel
theorem dX10_copy_164 : decode cX10_copy 164 = .ok (.aload_n 0, 1) := by decide +kernel
theorem dX10_copy_165 : decode cX10_copy 165 = .ok (.getfield 34, 3) := by decide +kernel
theorem dX10_copy_168 : decode cX10_copy 168 = .ok (.bipush 40, 2) := by decide +kernel
theorem dX10_copy_170 : decode cX10_copy 170 = .ok (.iload_n 3, 1) := by decide +kernel
theorem dX10_copy_171 : decode cX10_copy 171 = .ok (.imul, 1) := by decide +kernel
theorem dX10_copy_172 : decode cX10_copy 172 = .ok (.iload 4, 2) := by decide +kernel
theorem dX10_copy_174 : decode cX10_copy 174 = .ok (.iadd, 1) := by decide +kernel
theorem dX10_copy_175 : decode cX10_copy 175 = .ok (.iload 6, 2) := by decide +kernel
theorem dX10_copy_177 : decode cX10_copy 177 = .ok (.iadd, 1) := by decide +kernel
theorem dX10_copy_178 : decode cX10_copy 178 = .ok (.aload_n 0, 1) := by decide +kernel
theorem dX10_copy_179 : decode cX10_copy 179 = .ok (.getfield 38, 3) := by decide +kernel
theorem dX10_copy_182 : decode cX10_copy 182 = .ok (.iload 6, 2) := by decide +kernel
theorem dX10_copy_184 : decode cX10_copy 184 = .ok (.laload, 1) := by decide +kernel
theorem dX10_copy_185 : decode cX10_copy 185 = .ok (.lastore, 1) := by decide +kernel
theorem dX10_copy_186 : decode cX10_copy 186 = .ok (.iinc 6 1, 3) := by decide +kernel
theorem dX10_copy_189 : decode cX10_copy 189 = .ok (.goto (-32), 3) := by decide +kernel
theorem dX10_copy_192 : decode cX10_copy 192 = .ok (.iload 5, 2) := by decide +kernel
theorem dX10_copy_194 : decode cX10_copy 194 = .ok (.ireturn, 1) := by decide +kernel
theorem dX10_lays_0 : decode cX10_lays 0 = .ok (.aload_n 0, 1) := by decide +kernel
theorem dX10_lays_1 : decode cX10_lays 1 = .ok (.iload_n 1, 1) := by decide +kernel
theorem dX10_lays_2 : decode cX10_lays 2 = .ok (.invokevirtual 321, 3) := by decide +kernel
theorem dX10_lays_5 : decode cX10_lays 5 = .ok (.istore_n 2, 1) := by decide +kernel
theorem dX10_lays_6 : decode cX10_lays 6 = .ok (.iload_n 2, 1) := by decide +kernel
theorem dX10_lays_7 : decode cX10_lays 7 = .ok (.ifCond .eq 9, 3) := by decide +kernel
theorem dX10_lays_10 : decode cX10_lays 10 = .ok (.aload_n 0, 1) := by decide +kernel
theorem dX10_lays_11 : decode cX10_lays 11 = .ok (.iload_n 2, 1) := by decide +kernel
theorem dX10_lays_12 : decode cX10_lays 12 = .ok (.invokevirtual 75, 3) := by decide +kernel
theorem dX10_lays_15 : decode cX10_lays 15 = .ok (.ireturn, 1) := by decide +kernel
theorem dX10_lays_16 : decode cX10_lays 16 = .ok (.iconst 0, 1) := by decide +kernel
theorem dX10_lays_17 : decode cX10_lays 17 = .ok (.istore_n 3, 1) := by decide +kernel
theorem dX10_lays_18 : decode cX10_lays 18 = .ok (.iconst 0, 1) := by decide +kernel
theorem dX10_lays_19 : decode cX10_lays 19 = .ok (.istore 4, 2) := by decide +kernel
theorem dX10_lays_21 : decode cX10_lays 21 = .ok (.iload 4, 2) := by decide +kernel
theorem dX10_lays_23 : decode cX10_lays 23 = .ok (.aload_n 0, 1) := by decide +kernel
theorem dX10_lays_24 : decode cX10_lays 24 = .ok (.getfield 31, 3) := by decide +kernel
theorem dX10_lays_27 : decode cX10_lays 27 = .ok (.iload_n 1, 1) := by decide +kernel
theorem dX10_lays_28 : decode cX10_lays 28 = .ok (.iaload, 1) := by decide +kernel
theorem dX10_lays_29 : decode cX10_lays 29 = .ok (.if_icmp .ge 93, 3) := by decide +kernel
theorem dX10_lays_32 : decode cX10_lays 32 = .ok (.iload 4, 2) := by decide +kernel
theorem dX10_lays_34 : decode cX10_lays 34 = .ok (.aload_n 0, 1) := by decide +kernel
theorem dX10_lays_35 : decode cX10_lays 35 = .ok (.getfield 7, 3) := by decide +kernel
theorem dX10_lays_38 : decode cX10_lays 38 = .ok (.iconst 2, 1) := by decide +kernel
theorem dX10_lays_39 : decode cX10_lays 39 = .ok (.iaload, 1) := by decide +kernel
theorem dX10_lays_40 : decode cX10_lays 40 = .ok (.if_icmp .ge 82, 3) := by decide +kernel
theorem dX10_lays_43 : decode cX10_lays 43 = .ok (.aload_n 0, 1) := by decide +kernel
theorem dX10_lays_44 : decode cX10_lays 44 = .ok (.getfield 34, 3) := by decide +kernel
theorem dX10_lays_47 : decode cX10_lays 47 = .ok (.bipush 40, 2) := by decide +kernel
theorem dX10_lays_49 : decode cX10_lays 49 = .ok (.iload_n 1, 1) := by decide +kernel
theorem dX10_lays_50 : decode cX10_lays 50 = .ok (.imul, 1) := by decide +kernel
theorem dX10_lays_51 : decode cX10_lays 51 = .ok (.iload 4, 2) := by decide +kernel
theorem dX10_lays_53 : decode cX10_lays 53 = .ok (.iadd, 1) := by decide +kernel
theorem dX10_lays_54 : decode cX10_lays 54 = .ok (.laload, 1) := by decide +kernel
theorem dX10_lays_55 : decode cX10_lays 55 = .ok (.lconst 0, 1) := by decide +kernel
theorem dX10_lays_56 : decode cX10_lays 56 = .ok (.ldc2_w 135, 3) := by decide +kernel
theorem dX10_lays_59 : decode cX10_lays 59 = .ok (.invokestatic 54, 3) := by decide +kernel
theorem dX10_lays_62 : decode cX10_lays 62 = .ok (.istore 5, 2) := by decide +kernel
theorem dX10_lays_64 : decode cX10_lays 64 = .ok (.aload_n 0, 1) := by decide +kernel
theorem dX10_lays_65 : decode cX10_lays 65 = .ok (.getfield 7, 3) := by decide +kernel
theorem dX10_lays_68 : decode cX10_lays 68 = .ok (.iload 4, 2) := by decide +kernel
theorem dX10_lays_70 : decode cX10_lays 70 = .ok (.iconst 0, 1) := by decide +kernel
theorem dX10_lays_71 : decode cX10_lays 71 = .ok (.invokestatic 49, 3) := by decide +kernel
theorem dX10_lays_74 : decode cX10_lays 74 = .ok (.iload 5, 2) := by decide +kernel
theorem dX10_lays_76 : decode cX10_lays 76 = .ok (.ifCond .eq 19, 3) := by decide +kernel
theorem dX10_lays_79 : decode cX10_lays 79 = .ok (.aload_n 0, 1) := by decide +kernel
theorem dX10_lays_80 : decode cX10_lays 80 = .ok (.getfield 34, 3) := by decide +kernel
theorem dX10_lays_83 : decode cX10_lays 83 = .ok (.bipush 40, 2) := by decide +kernel
theorem dX10_lays_85 : decode cX10_lays 85 = .ok (.iload_n 1, 1) := by decide +kernel
theorem dX10_lays_86 : decode cX10_lays 86 = .ok (.imul, 1) := by decide +kernel
theorem dX10_lays_87 : decode cX10_lays 87 = .ok (.iload 4, 2) := by decide +kernel
theorem dX10_lays_89 : decode cX10_lays 89 = .ok (.iadd, 1) := by decide +kernel
theorem dX10_lays_90 : decode cX10_lays 90 = .ok (.laload, 1) := by decide +kernel
theorem dX10_lays_91 : decode cX10_lays 91 = .ok (.l2i, 1) := by decide +kernel
theorem dX10_lays_92 : decode cX10_lays 92 = .ok (.goto 10, 3) := by decide +kernel
theorem dX10_lays_95 : decode cX10_lays 95 = .ok (.aload_n 0, 1) := by decide +kernel
theorem dX10_lays_96 : decode cX10_lays 96 = .ok (.iload 4, 2) := by decide +kernel
theorem dX10_lays_98 : decode cX10_lays 98 = .ok (.iconst 0, 1) := by decide +kernel
theorem dX10_lays_99 : decode cX10_lays 99 = .ok (.invokevirtual 58, 3) := by decide +kernel
theorem dX10_lays_102 : decode cX10_lays 102 = .ok (.iastore, 1) := by decide +kernel
theorem dX10_lays_103 : decode cX10_lays 103 = .ok (.iload_n 3, 1) := by decide +kernel
theorem dX10_lays_104 : decode cX10_lays 104 = .ok (.iload 5, 2) := by decide +kernel
theorem dX10_lays_106 : decode cX10_lays 106 = .ok (.ifCond .eq 7, 3) := by decide +kernel
theorem dX10_lays_109 : decode cX10_lays 109 = .ok (.iconst 1, 1) := by decide +kernel
theorem dX10_lays_110 : decode cX10_lays 110 = .ok (.goto 4, 3) := by decide +kernel
theorem dX10_lays_113 : decode cX10_lays 113 = .ok (.iconst 0, 1) := by decide +kernel
theorem dX10_lays_114 : decode cX10_lays 114 = .ok (.iadd, 1) := by decide +kernel
theorem dX10_lays_115 : decode cX10_lays 115 = .ok (.istore_n 3, 1) := by decide +kernel
theorem dX10_lays_116 : decode cX10_lays 116 = .ok (.iinc 4 1, 3) := by decide +kernel
theorem dX10_lays_119 : decode cX10_lays 119 = .ok (.goto (-98), 3) := by decide +kernel
theorem dX10_lays_122 : decode cX10_lays 122 = .ok (.iload_n 3, 1) := by decide +kernel
theorem dX10_lays_123 : decode cX10_lays 123 = .ok (.ireturn, 1) := by decide +kernel
theorem dX10_book_0 : decode cX10_book 0 = .ok (.aload_n 0, 1) := by decide +kernel
theorem dX10_book_1 : decode cX10_book 1 = .ok (.iload_n 1, 1) := by decide +kernel
theorem dX10_book_2 : decode cX10_book 2 = .ok (.invokevirtual 321, 3) := by decide +kernel
theorem dX10_book_5 : decode cX10_book 5 = .ok (.istore_n 3, 1) := by decide +kernel
theorem dX10_book_6 : decode cX10_book 6 = .ok (.iload_n 3, 1) := by decide +kernel
theorem dX10_book_7 : decode cX10_book 7 = .ok (.ifCond .eq 9, 3) := by decide +kernel
theorem dX10_book_10 : decode cX10_book 10 = .ok (.aload_n 0, 1) := by decide +kernel
theorem dX10_book_11 : decode cX10_book 11 = .ok (.iload_n 3, 1) := by decide +kernel
theorem dX10_book_12 : decode cX10_book 12 = .ok (.invokevirtual 75, 3) := by decide +kernel
theorem dX10_book_15 : decode cX10_book 15 = .ok (.ireturn, 1) := by decide +kernel
theorem dX10_book_16 : decode cX10_book 16 = .ok (.aload_n 0, 1) := by decide +kernel
theorem dX10_book_17 : decode cX10_book 17 = .ok (.iload_n 2, 1) := by decide +kernel
theorem dX10_book_18 : decode cX10_book 18 = .ok (.invokevirtual 140, 3) := by decide +kernel
theorem dX10_book_21 : decode cX10_book 21 = .ok (.ifCond .ne 10, 3) := by decide +kernel
theorem dX10_book_24 : decode cX10_book 24 = .ok (.aload_n 0, 1) := by decide +kernel
theorem dX10_book_25 : decode cX10_book 25 = .ok (.ldc 45, 2) := by decide +kernel
theorem dX10_book_27 : decode cX10_book 27 = .ok (.invokevirtual 75, 3) := by decide +kernel
theorem dX10_book_30 : decode cX10_book 30 = .ok (.ireturn, 1) := by decide +kernel
theorem dX10_book_31 : decode cX10_book 31 = .ok (.aload_n 0, 1) := by decide +kernel
theorem dX10_book_32 : decode cX10_book 32 = .ok (.invokevirtual 172, 3) := by decide +kernel
theorem dX10_book_35 : decode cX10_book 35 = .ok (.iconst 0, 1) := by decide +kernel
theorem dX10_book_36 : decode cX10_book 36 = .ok (.istore 4, 2) := by decide +kernel
theorem dX10_book_38 : decode cX10_book 38 = .ok (.iload 4, 2) := by decide +kernel
theorem dX10_book_40 : decode cX10_book 40 = .ok (.aload_n 0, 1) := by decide +kernel
theorem dX10_book_41 : decode cX10_book 41 = .ok (.getfield 31, 3) := by decide +kernel
theorem dX10_book_44 : decode cX10_book 44 = .ok (.iload_n 1, 1) := by decide +kernel
theorem dX10_book_45 : decode cX10_book 45 = .ok (.iaload, 1) := by decide +kernel
theorem dX10_book_46 : decode cX10_book 46 = .ok (.if_icmp .ge 41, 3) := by decide +kernel
theorem dX10_book_49 : decode cX10_book 49 = .ok (.aload_n 0, 1) := by decide +kernel
theorem dX10_book_50 : decode cX10_book 50 = .ok (.getfield 34, 3) := by decide +kernel
theorem dX10_book_53 : decode cX10_book 53 = .ok (.bipush 40, 2) := by decide +kernel
theorem dX10_book_55 : decode cX10_book 55 = .ok (.iload_n 1, 1) := by decide +kernel
theorem dX10_book_56 : decode cX10_book 56 = .ok (.imul, 1) := by decide +kernel
theorem dX10_book_57 : decode cX10_book 57 = .ok (.iload 4, 2) := by decide +kernel
theorem dX10_book_59 : decode cX10_book 59 = .ok (.iadd, 1) := by decide +kernel
theorem dX10_book_60 : decode cX10_book 60 = .ok (.aload_n 0, 1) := by decide +kernel
theorem dX10_book_61 : decode cX10_book 61 = .ok (.getfield 28, 3) := by decide +kernel
theorem dX10_book_64 : decode cX10_book 64 = .ok (.iload_n 1, 1) := by decide +kernel
theorem dX10_book_65 : decode cX10_book 65 = .ok (.iaload, 1) := by decide +kernel
theorem dX10_book_66 : decode cX10_book 66 = .ok (.aload_n 0, 1) := by decide +kernel
theorem dX10_book_67 : decode cX10_book 67 = .ok (.iload_n 2, 1) := by decide +kernel
theorem dX10_book_68 : decode cX10_book 68 = .ok (.iconst 0, 1) := by decide +kernel
theorem dX10_book_69 : decode cX10_book 69 = .ok (.invokevirtual 58, 3) := by decide +kernel
theorem dX10_book_72 : decode cX10_book 72 = .ok (.i2l, 1) := by decide +kernel
theorem dX10_book_73 : decode cX10_book 73 = .ok (.invokestatic 324, 3) := by decide +kernel
theorem dX10_book_76 : decode cX10_book 76 = .ok (.lastore, 1) := by decide +kernel
theorem dX10_book_77 : decode cX10_book 77 = .ok (.aload_n 0, 1) := by decide +kernel
theorem dX10_book_78 : decode cX10_book 78 = .ok (.invokevirtual 160, 3) := by decide +kernel
theorem dX10_book_81 : decode cX10_book 81 = .ok (.iinc 4 1, 3) := by decide +kernel
theorem dX10_book_84 : decode cX10_book 84 = .ok (.goto (-46), 3) := by decide +kernel
theorem dX10_book_87 : decode cX10_book 87 = .ok (.aload_n 0, 1) := by decide +kernel
theorem dX10_book_88 : decode cX10_book 88 = .ok (.aload_n 0, 1) := by decide +kernel
theorem dX10_book_89 : decode cX10_book 89 = .ok (.getfield 31, 3) := by decide +kernel
theorem dX10_book_92 : decode cX10_book 92 = .ok (.iload_n 1, 1) := by decide +kernel
theorem dX10_book_93 : decode cX10_book 93 = .ok (.iaload, 1) := by decide +kernel
theorem dX10_book_94 : decode cX10_book 94 = .ok (.invokevirtual 175, 3) := by decide +kernel
theorem dX10_book_97 : decode cX10_book 97 = .ok (.ireturn, 1) := by decide +kernel
theorem dX10_isBook_0 : decode cX10_isBook 0 = .ok (.iconst 0, 1) := by decide +kernel
theorem dX10_isBook_1 : decode cX10_isBook 1 = .ok (.istore_n 3, 1) := by decide +kernel
theorem dX10_isBook_2 : decode cX10_isBook 2 = .ok (.iload_n 3, 1) := by decide +kernel
theorem dX10_isBook_3 : decode cX10_isBook 3 = .ok (.aload_n 0, 1) := by decide +kernel
theorem dX10_isBook_4 : decode cX10_isBook 4 = .ok (.getfield 31, 3) := by decide +kernel
theorem dX10_isBook_7 : decode cX10_isBook 7 = .ok (.iload_n 1, 1) := by decide +kernel
theorem dX10_isBook_8 : decode cX10_isBook 8 = .ok (.iaload, 1) := by decide +kernel
theorem dX10_isBook_9 : decode cX10_isBook 9 = .ok (.if_icmp .ge 37, 3) := by decide +kernel
theorem dX10_isBook_12 : decode cX10_isBook 12 = .ok (.aload_n 0, 1) := by decide +kernel
theorem dX10_isBook_13 : decode cX10_isBook 13 = .ok (.getfield 34, 3) := by decide +kernel
theorem dX10_isBook_16 : decode cX10_isBook 16 = .ok (.bipush 40, 2) := by decide +kernel
theorem dX10_isBook_18 : decode cX10_isBook 18 = .ok (.iload_n 1, 1) := by decide +kernel
theorem dX10_isBook_19 : decode cX10_isBook 19 = .ok (.imul, 1) := by decide +kernel
theorem dX10_isBook_20 : decode cX10_isBook 20 = .ok (.iload_n 3, 1) := by decide +kernel
theorem dX10_isBook_21 : decode cX10_isBook 21 = .ok (.iadd, 1) := by decide +kernel
theorem dX10_isBook_22 : decode cX10_isBook 22 = .ok (.laload, 1) := by decide +kernel
theorem dX10_isBook_23 : decode cX10_isBook 23 = .ok (.aload_n 0, 1) := by decide +kernel
theorem dX10_isBook_24 : decode cX10_isBook 24 = .ok (.iload_n 2, 1) := by decide +kernel
theorem dX10_isBook_25 : decode cX10_isBook 25 = .ok (.iconst 0, 1) := by decide +kernel
theorem dX10_isBook_26 : decode cX10_isBook 26 = .ok (.invokevirtual 58, 3) := by decide +kernel
theorem dX10_isBook_29 : decode cX10_isBook 29 = .ok (.i2l, 1) := by decide +kernel
theorem dX10_isBook_30 : decode cX10_isBook 30 = .ok (.lcmp, 1) := by decide +kernel
theorem dX10_isBook_31 : decode cX10_isBook 31 = .ok (.ifCond .eq 5, 3) := by decide +kernel
theorem dX10_isBook_34 : decode cX10_isBook 34 = .ok (.iconst 0, 1) := by decide +kernel
theorem dX10_isBook_35 : decode cX10_isBook 35 = .ok (.ireturn, 1) := by decide +kernel
theorem dX10_isBook_36 : decode cX10_isBook 36 = .ok (.aload_n 0, 1) := by decide +kernel
theorem dX10_isBook_37 : decode cX10_isBook 37 = .ok (.invokevirtual 160, 3) := by decide +kernel
theorem dX10_isBook_40 : decode cX10_isBook 40 = .ok (.iinc 3 1, 3) := by decide +kernel
theorem dX10_isBook_43 : decode cX10_isBook 43 = .ok (.goto (-41), 3) := by decide +kernel
theorem dX10_isBook_46 : decode cX10_isBook 46 = .ok (.iconst 1, 1) := by decide +kernel
theorem dX10_isBook_47 : decode cX10_isBook 47 = .ok (.ireturn, 1) := by decide +kernel
theorem dX10_read_0 : decode cX10_read 0 = .ok (.aload_n 0, 1) := by decide +kernel
theorem dX10_read_1 : decode cX10_read 1 = .ok (.iload_n 1, 1) := by decide +kernel
theorem dX10_read_2 : decode cX10_read 2 = .ok (.invokevirtual 321, 3) := by decide +kernel
theorem dX10_read_5 : decode cX10_read 5 = .ok (.istore 4, 2) := by decide +kernel
theorem dX10_read_7 : decode cX10_read 7 = .ok (.iload 4, 2) := by decide +kernel
theorem dX10_read_9 : decode cX10_read 9 = .ok (.ifCond .eq 10, 3) := by decide +kernel
theorem dX10_read_12 : decode cX10_read 12 = .ok (.aload_n 0, 1) := by decide +kernel
theorem dX10_read_13 : decode cX10_read 13 = .ok (.iload 4, 2) := by decide +kernel
theorem dX10_read_15 : decode cX10_read 15 = .ok (.invokevirtual 75, 3) := by decide +kernel
theorem dX10_read_18 : decode cX10_read 18 = .ok (.ireturn, 1) := by decide +kernel
theorem dX10_read_19 : decode cX10_read 19 = .ok (.aload_n 0, 1) := by decide +kernel
theorem dX10_read_20 : decode cX10_read 20 = .ok (.iload_n 2, 1) := by decide +kernel
theorem dX10_read_21 : decode cX10_read 21 = .ok (.invokevirtual 140, 3) := by decide +kernel
theorem dX10_read_24 : decode cX10_read 24 = .ok (.ifCond .eq 11, 3) := by decide +kernel
theorem dX10_read_27 : decode cX10_read 27 = .ok (.aload_n 0, 1) := by decide +kernel
theorem dX10_read_28 : decode cX10_read 28 = .ok (.iload_n 3, 1) := by decide +kernel
theorem dX10_read_29 : decode cX10_read 29 = .ok (.invokevirtual 79, 3) := by decide +kernel
theorem dX10_read_32 : decode cX10_read 32 = .ok (.ifCond .ne 10, 3) := by decide +kernel
theorem dX10_read_35 : decode cX10_read 35 = .ok (.aload_n 0, 1) := by decide +kernel
theorem dX10_read_36 : decode cX10_read 36 = .ok (.ldc 45, 2) := by decide +kernel
theorem dX10_read_38 : decode cX10_read 38 = .ok (.invokevirtual 75, 3) := by decide +kernel
theorem dX10_read_41 : decode cX10_read 41 = .ok (.ireturn, 1) := by decide +kernel
theorem dX10_read_42 : decode cX10_read 42 = .ok (.aload_n 0, 1) := by decide +kernel
theorem dX10_read_43 : decode cX10_read 43 = .ok (.invokevirtual 172, 3) := by decide +kernel
theorem dX10_read_46 : decode cX10_read 46 = .ok (.iconst 0, 1) := by decide +kernel
theorem dX10_read_47 : decode cX10_read 47 = .ok (.istore 5, 2) := by decide +kernel
theorem dX10_read_49 : decode cX10_read 49 = .ok (.iconst 0, 1) := by decide +kernel
theorem dX10_read_50 : decode cX10_read 50 = .ok (.istore 6, 2) := by decide +kernel
theorem dX10_read_52 : decode cX10_read 52 = .ok (.iload 6, 2) := by decide +kernel
theorem dX10_read_54 : decode cX10_read 54 = .ok (.bipush 36, 2) := by decide +kernel
theorem dX10_read_56 : decode cX10_read 56 = .ok (.if_icmp .ge 62, 3) := by decide +kernel
theorem dX10_read_59 : decode cX10_read 59 = .ok (.aload_n 0, 1) := by decide +kernel
theorem dX10_read_60 : decode cX10_read 60 = .ok (.getfield 7, 3) := by decide +kernel
theorem dX10_read_63 : decode cX10_read 63 = .ok (.iload_n 3, 1) := by decide +kernel
theorem dX10_read_64 : decode cX10_read 64 = .ok (.iconst 0, 1) := by decide +kernel
theorem dX10_read_65 : decode cX10_read 65 = .ok (.invokestatic 46, 3) := by decide +kernel
theorem dX10_read_68 : decode cX10_read 68 = .ok (.iload 6, 2) := by decide +kernel
theorem dX10_read_70 : decode cX10_read 70 = .ok (.bipush 6, 2) := by decide +kernel
theorem dX10_read_72 : decode cX10_read 72 = .ok (.idiv, 1) := by decide +kernel
theorem dX10_read_73 : decode cX10_read 73 = .ok (.iastore, 1) := by decide +kernel
theorem dX10_read_74 : decode cX10_read 74 = .ok (.aload_n 0, 1) := by decide +kernel
theorem dX10_read_75 : decode cX10_read 75 = .ok (.getfield 7, 3) := by decide +kernel
theorem dX10_read_78 : decode cX10_read 78 = .ok (.iload_n 2, 1) := by decide +kernel
theorem dX10_read_79 : decode cX10_read 79 = .ok (.iconst 1, 1) := by decide +kernel
theorem dX10_read_80 : decode cX10_read 80 = .ok (.invokestatic 49, 3) := by decide +kernel
theorem dX10_read_83 : decode cX10_read 83 = .ok (.iload 6, 2) := by decide +kernel
theorem dX10_read_85 : decode cX10_read 85 = .ok (.bipush 6, 2) := by decide +kernel
theorem dX10_read_87 : decode cX10_read 87 = .ok (.irem, 1) := by decide +kernel
theorem dX10_read_88 : decode cX10_read 88 = .ok (.iastore, 1) := by decide +kernel
theorem dX10_read_89 : decode cX10_read 89 = .ok (.aload_n 0, 1) := by decide +kernel
theorem dX10_read_90 : decode cX10_read 90 = .ok (.iload 5, 2) := by decide +kernel
theorem dX10_read_92 : decode cX10_read 92 = .ok (.aload_n 0, 1) := by decide +kernel
theorem dX10_read_93 : decode cX10_read 93 = .ok (.iload_n 1, 1) := by decide +kernel
theorem dX10_read_94 : decode cX10_read 94 = .ok (.iload_n 2, 1) := by decide +kernel
theorem dX10_read_95 : decode cX10_read 95 = .ok (.invokevirtual 328, 3) := by decide +kernel
theorem dX10_read_98 : decode cX10_read 98 = .ok (.ifCond .eq 7, 3) := by decide +kernel
theorem dX10_read_101 : decode cX10_read 101 = .ok (.iconst 1, 1) := by decide +kernel
theorem dX10_read_102 : decode cX10_read 102 = .ok (.goto 4, 3) := by decide +kernel
theorem dX10_read_105 : decode cX10_read 105 = .ok (.iconst 0, 1) := by decide +kernel
theorem dX10_read_106 : decode cX10_read 106 = .ok (.iadd, 1) := by decide +kernel
theorem dX10_read_107 : decode cX10_read 107 = .ok (.invokevirtual 175, 3) := by decide +kernel
theorem dX10_read_110 : decode cX10_read 110 = .ok (.istore 5, 2) := by decide +kernel
theorem dX10_read_112 : decode cX10_read 112 = .ok (.iinc 6 1, 3) := by decide +kernel
theorem dX10_read_115 : decode cX10_read 115 = .ok (.goto (-63), 3) := by decide +kernel
theorem dX10_read_118 : decode cX10_read 118 = .ok (.iload 5, 2) := by decide +kernel
theorem dX10_read_120 : decode cX10_read 120 = .ok (.ireturn, 1) := by decide +kernel
theorem dX10_image_0 : decode cX10_image 0 = .ok (.iconst 0, 1) := by decide +kernel
theorem dX10_image_1 : decode cX10_image 1 = .ok (.istore_n 1, 1) := by decide +kernel
theorem dX10_image_2 : decode cX10_image 2 = .ok (.iload_n 1, 1) := by decide +kernel
theorem dX10_image_3 : decode cX10_image 3 = .ok (.bipush 59, 2) := by decide +kernel
theorem dX10_image_5 : decode cX10_image 5 = .ok (.if_icmp .ge 21, 3) := by decide +kernel
theorem dX10_image_8 : decode cX10_image 8 = .ok (.aload_n 0, 1) := by decide +kernel
theorem dX10_image_9 : decode cX10_image 9 = .ok (.getfield 13, 3) := by decide +kernel
theorem dX10_image_12 : decode cX10_image 12 = .ok (.iload_n 1, 1) := by decide +kernel
theorem dX10_image_13 : decode cX10_image 13 = .ok (.aload_n 0, 1) := by decide +kernel
theorem dX10_image_14 : decode cX10_image 14 = .ok (.getfield 7, 3) := by decide +kernel
theorem dX10_image_17 : decode cX10_image 17 = .ok (.iload_n 1, 1) := by decide +kernel
theorem dX10_image_18 : decode cX10_image 18 = .ok (.iaload, 1) := by decide +kernel
theorem dX10_image_19 : decode cX10_image 19 = .ok (.iastore, 1) := by decide +kernel
theorem dX10_image_20 : decode cX10_image 20 = .ok (.iinc 1 1, 3) := by decide +kernel
theorem dX10_image_23 : decode cX10_image 23 = .ok (.goto (-21), 3) := by decide +kernel
theorem dX10_image_26 : decode cX10_image 26 = .ok (.aload_n 0, 1) := by decide +kernel
theorem dX10_image_27 : decode cX10_image 27 = .ok (.iconst 1, 1) := by decide +kernel
theorem dX10_image_28 : decode cX10_image 28 = .ok (.putfield 331, 3) := by decide +kernel
theorem dX10_image_31 : decode cX10_image 31 = .ok (.iconst 1, 1) := by decide +kernel
theorem dX10_image_32 : decode cX10_image 32 = .ok (.ireturn, 1) := by decide +kernel
theorem dX10_undo_0 : decode cX10_undo 0 = .ok (.aload_n 0, 1) := by decide +kernel
theorem dX10_undo_1 : decode cX10_undo 1 = .ok (.getfield 331, 3) := by decide +kernel
theorem dX10_undo_4 : decode cX10_undo 4 = .ok (.ifCond .ne 10, 3) := by decide +kernel
theorem dX10_undo_7 : decode cX10_undo 7 = .ok (.aload_n 0, 1) := by decide +kernel
theorem dX10_undo_8 : decode cX10_undo 8 = .ok (.ldc 187, 2) := by decide +kernel
theorem dX10_undo_10 : decode cX10_undo 10 = .ok (.invokevirtual 75, 3) := by decide +kernel
theorem dX10_undo_13 : decode cX10_undo 13 = .ok (.ireturn, 1) := by decide +kernel
theorem dX10_undo_14 : decode cX10_undo 14 = .ok (.iconst 0, 1) := by decide +kernel
theorem dX10_undo_15 : decode cX10_undo 15 = .ok (.istore_n 1, 1) := by decide +kernel
theorem dX10_undo_16 : decode cX10_undo 16 = .ok (.iload_n 1, 1) := by decide +kernel
theorem dX10_undo_17 : decode cX10_undo 17 = .ok (.bipush 59, 2) := by decide +kernel
theorem dX10_undo_19 : decode cX10_undo 19 = .ok (.if_icmp .ge 21, 3) := by decide +kernel
theorem dX10_undo_22 : decode cX10_undo 22 = .ok (.aload_n 0, 1) := by decide +kernel
theorem dX10_undo_23 : decode cX10_undo 23 = .ok (.getfield 7, 3) := by decide +kernel
theorem dX10_undo_26 : decode cX10_undo 26 = .ok (.iload_n 1, 1) := by decide +kernel
theorem dX10_undo_27 : decode cX10_undo 27 = .ok (.aload_n 0, 1) := by decide +kernel
theorem dX10_undo_28 : decode cX10_undo 28 = .ok (.getfield 13, 3) := by decide +kernel
theorem dX10_undo_31 : decode cX10_undo 31 = .ok (.iload_n 1, 1) := by decide +kernel
theorem dX10_undo_32 : decode cX10_undo 32 = .ok (.iaload, 1) := by decide +kernel
theorem dX10_undo_33 : decode cX10_undo 33 = .ok (.iastore, 1) := by decide +kernel
theorem dX10_undo_34 : decode cX10_undo 34 = .ok (.iinc 1 1, 3) := by decide +kernel
theorem dX10_undo_37 : decode cX10_undo 37 = .ok (.goto (-21), 3) := by decide +kernel
theorem dX10_undo_40 : decode cX10_undo 40 = .ok (.aload_n 0, 1) := by decide +kernel
theorem dX10_undo_41 : decode cX10_undo 41 = .ok (.getfield 7, 3) := by decide +kernel
theorem dX10_undo_44 : decode cX10_undo 44 = .ok (.iconst 1, 1) := by decide +kernel
theorem dX10_undo_45 : decode cX10_undo 45 = .ok (.iaload, 1) := by decide +kernel
theorem dX10_undo_46 : decode cX10_undo 46 = .ok (.ireturn, 1) := by decide +kernel
theorem dX10_tear_0 : decode cX10_tear 0 = .ok (.aload_n 0, 1) := by decide +kernel
theorem dX10_tear_1 : decode cX10_tear 1 = .ok (.getfield 331, 3) := by decide +kernel
theorem dX10_tear_4 : decode cX10_tear 4 = .ok (.ifCond .eq 7, 3) := by decide +kernel
theorem dX10_tear_7 : decode cX10_tear 7 = .ok (.iconst 1, 1) := by decide +kernel
theorem dX10_tear_8 : decode cX10_tear 8 = .ok (.goto 4, 3) := by decide +kernel
theorem dX10_tear_11 : decode cX10_tear 11 = .ok (.iconst 0, 1) := by decide +kernel
theorem dX10_tear_12 : decode cX10_tear 12 = .ok (.istore_n 1, 1) := by decide +kernel
theorem dX10_tear_13 : decode cX10_tear 13 = .ok (.aload_n 0, 1) := by decide +kernel
theorem dX10_tear_14 : decode cX10_tear 14 = .ok (.iconst 0, 1) := by decide +kernel
theorem dX10_tear_15 : decode cX10_tear 15 = .ok (.putfield 331, 3) := by decide +kernel
theorem dX10_tear_18 : decode cX10_tear 18 = .ok (.iload_n 1, 1) := by decide +kernel
theorem dX10_tear_19 : decode cX10_tear 19 = .ok (.ireturn, 1) := by decide +kernel
theorem dX10_count_0 : decode cX10_count 0 = .ok (.iload_n 1, 1) := by decide +kernel
theorem dX10_count_1 : decode cX10_count 1 = .ok (.tableswitch 55 0 3 #[31, 38, 45, 50], 31) := by decide +kernel
theorem dX10_count_32 : decode cX10_count 32 = .ok (.aload_n 0, 1) := by decide +kernel
theorem dX10_count_33 : decode cX10_count 33 = .ok (.getfield 7, 3) := by decide +kernel
theorem dX10_count_36 : decode cX10_count 36 = .ok (.iconst 1, 1) := by decide +kernel
theorem dX10_count_37 : decode cX10_count 37 = .ok (.iaload, 1) := by decide +kernel
theorem dX10_count_38 : decode cX10_count 38 = .ok (.ireturn, 1) := by decide +kernel
theorem dX10_count_39 : decode cX10_count 39 = .ok (.aload_n 0, 1) := by decide +kernel
theorem dX10_count_40 : decode cX10_count 40 = .ok (.getfield 7, 3) := by decide +kernel
theorem dX10_count_43 : decode cX10_count 43 = .ok (.iconst 2, 1) := by decide +kernel
theorem dX10_count_44 : decode cX10_count 44 = .ok (.iaload, 1) := by decide +kernel
theorem dX10_count_45 : decode cX10_count 45 = .ok (.ireturn, 1) := by decide +kernel
theorem dX10_count_46 : decode cX10_count 46 = .ok (.aload_n 0, 1) := by decide +kernel
theorem dX10_count_47 : decode cX10_count 47 = .ok (.getfield 205, 3) := by decide +kernel
theorem dX10_count_50 : decode cX10_count 50 = .ok (.ireturn, 1) := by decide +kernel
theorem dX10_count_51 : decode cX10_count 51 = .ok (.aload_n 0, 1) := by decide +kernel
theorem dX10_count_52 : decode cX10_count 52 = .ok (.invokevirtual 334, 3) := by decide +kernel
theorem dX10_count_55 : decode cX10_count 55 = .ok (.ireturn, 1) := by decide +kernel
theorem dX10_count_56 : decode cX10_count 56 = .ok (.aload_n 0, 1) := by decide +kernel
theorem dX10_count_57 : decode cX10_count 57 = .ok (.ldc 45, 2) := by decide +kernel
theorem dX10_count_59 : decode cX10_count 59 = .ok (.invokevirtual 75, 3) := by decide +kernel
theorem dX10_count_62 : decode cX10_count 62 = .ok (.ireturn, 1) := by decide +kernel
theorem dX10_status_0 : decode cX10_status 0 = .ok (.iload_n 1, 1) := by decide +kernel
theorem dX10_status_1 : decode cX10_status 1 = .ok (.i2l, 1) := by decide +kernel
theorem dX10_status_2 : decode cX10_status 2 = .ok (.ldc2_w 337, 3) := by decide +kernel
theorem dX10_status_5 : decode cX10_status 5 = .ok (.ldc2_w 339, 3) := by decide +kernel
theorem dX10_status_8 : decode cX10_status 8 = .ok (.invokestatic 54, 3) := by decide +kernel
theorem dX10_status_11 : decode cX10_status 11 = .ok (.ifCond .ne 10, 3) := by decide +kernel
theorem dX10_status_14 : decode cX10_status 14 = .ok (.aload_n 0, 1) := by decide +kernel
theorem dX10_status_15 : decode cX10_status 15 = .ok (.ldc 45, 2) := by decide +kernel
theorem dX10_status_17 : decode cX10_status 17 = .ok (.invokevirtual 75, 3) := by decide +kernel
theorem dX10_status_20 : decode cX10_status 20 = .ok (.ireturn, 1) := by decide +kernel
theorem dX10_status_21 : decode cX10_status 21 = .ok (.iconst 0, 1) := by decide +kernel
theorem dX10_status_22 : decode cX10_status 22 = .ok (.istore_n 2, 1) := by decide +kernel
theorem dX10_status_23 : decode cX10_status 23 = .ok (.iconst 0, 1) := by decide +kernel
theorem dX10_status_24 : decode cX10_status 24 = .ok (.istore_n 3, 1) := by decide +kernel
theorem dX10_status_25 : decode cX10_status 25 = .ok (.iload_n 3, 1) := by decide +kernel
theorem dX10_status_26 : decode cX10_status 26 = .ok (.bipush 7, 2) := by decide +kernel
theorem dX10_status_28 : decode cX10_status 28 = .ok (.if_icmp .ge 31, 3) := by decide +kernel
theorem dX10_status_31 : decode cX10_status 31 = .ok (.iload_n 2, 1) := by decide +kernel
theorem dX10_status_32 : decode cX10_status 32 = .ok (.iload_n 1, 1) := by decide +kernel
theorem dX10_status_33 : decode cX10_status 33 = .ok (.ifCond .lt 8, 3) := by decide +kernel
theorem dX10_status_36 : decode cX10_status 36 = .ok (.iload_n 3, 1) := by decide +kernel
theorem dX10_status_37 : decode cX10_status 37 = .ok (.iload_n 1, 1) := by decide +kernel
theorem dX10_status_38 : decode cX10_status 38 = .ok (.if_icmp .ne 12, 3) := by decide +kernel
theorem dX10_status_41 : decode cX10_status 41 = .ok (.aload_n 0, 1) := by decide +kernel
theorem dX10_status_42 : decode cX10_status 42 = .ok (.getfield 22, 3) := by decide +kernel
theorem dX10_status_45 : decode cX10_status 45 = .ok (.iload_n 3, 1) := by decide +kernel
theorem dX10_status_46 : decode cX10_status 46 = .ok (.iaload, 1) := by decide +kernel
theorem dX10_status_47 : decode cX10_status 47 = .ok (.goto 4, 3) := by decide +kernel
theorem dX10_status_50 : decode cX10_status 50 = .ok (.iconst 0, 1) := by decide +kernel
theorem dX10_status_51 : decode cX10_status 51 = .ok (.iadd, 1) := by decide +kernel
theorem dX10_status_52 : decode cX10_status 52 = .ok (.istore_n 2, 1) := by decide +kernel
theorem dX10_status_53 : decode cX10_status 53 = .ok (.iinc 3 1, 3) := by decide +kernel
theorem dX10_status_56 : decode cX10_status 56 = .ok (.goto (-31), 3) := by decide +kernel
theorem dX10_status_59 : decode cX10_status 59 = .ok (.iload_n 2, 1) := by decide +kernel
theorem dX10_status_60 : decode cX10_status 60 = .ok (.ireturn, 1) := by decide +kernel
