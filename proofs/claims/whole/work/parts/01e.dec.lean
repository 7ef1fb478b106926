theorem dX9_init_0 : decode cX9_init 0 = .ok (.aload_n 0, 1) := by decide +kernel
theorem dX9_init_1 : decode cX9_init 1 = .ok (.invokespecial 1, 3) := by decide +kernel
theorem dX9_init_4 : decode cX9_init 4 = .ok (.bipush 6, 2) := by decide +kernel
theorem dX9_init_6 : decode cX9_init 6 = .ok (.anewarray 7, 3) := by decide +kernel
theorem dX9_init_9 : decode cX9_init 9 = .ok (.dup, 1) := by decide +kernel
theorem dX9_init_10 : decode cX9_init 10 = .ok (.iconst 0, 1) := by decide +kernel
theorem dX9_init_11 : decode cX9_init 11 = .ok (.new 7, 3) := by decide +kernel
theorem dX9_init_14 : decode cX9_init 14 = .ok (.dup, 1) := by decide +kernel
theorem dX9_init_15 : decode cX9_init 15 = .ok (.invokespecial 9, 3) := by decide +kernel
theorem dX9_init_18 : decode cX9_init 18 = .ok (.aastore, 1) := by decide +kernel
theorem dX9_init_19 : decode cX9_init 19 = .ok (.dup, 1) := by decide +kernel
theorem dX9_init_20 : decode cX9_init 20 = .ok (.iconst 1, 1) := by decide +kernel
theorem dX9_init_21 : decode cX9_init 21 = .ok (.new 10, 3) := by decide +kernel
theorem dX9_init_24 : decode cX9_init 24 = .ok (.dup, 1) := by decide +kernel
theorem dX9_init_25 : decode cX9_init 25 = .ok (.invokespecial 12, 3) := by decide +kernel
theorem dX9_init_28 : decode cX9_init 28 = .ok (.aastore, 1) := by decide +kernel
theorem dX9_init_29 : decode cX9_init 29 = .ok (.dup, 1) := by decide +kernel
theorem dX9_init_30 : decode cX9_init 30 = .ok (.iconst 2, 1) := by decide +kernel
theorem dX9_init_31 : decode cX9_init 31 = .ok (.new 13, 3) := by decide +kernel
theorem dX9_init_34 : decode cX9_init 34 = .ok (.dup, 1) := by decide +kernel
theorem dX9_init_35 : decode cX9_init 35 = .ok (.invokespecial 15, 3) := by decide +kernel
theorem dX9_init_38 : decode cX9_init 38 = .ok (.aastore, 1) := by decide +kernel
theorem dX9_init_39 : decode cX9_init 39 = .ok (.dup, 1) := by decide +kernel
theorem dX9_init_40 : decode cX9_init 40 = .ok (.iconst 3, 1) := by decide +kernel
theorem dX9_init_41 : decode cX9_init 41 = .ok (.new 16, 3) := by decide +kernel
theorem dX9_init_44 : decode cX9_init 44 = .ok (.dup, 1) := by decide +kernel
theorem dX9_init_45 : decode cX9_init 45 = .ok (.invokespecial 18, 3) := by decide +kernel
theorem dX9_init_48 : decode cX9_init 48 = .ok (.aastore, 1) := by decide +kernel
theorem dX9_init_49 : decode cX9_init 49 = .ok (.dup, 1) := by decide +kernel
theorem dX9_init_50 : decode cX9_init 50 = .ok (.iconst 4, 1) := by decide +kernel
theorem dX9_init_51 : decode cX9_init 51 = .ok (.new 19, 3) := by decide +kernel
theorem dX9_init_54 : decode cX9_init 54 = .ok (.dup, 1) := by decide +kernel
theorem dX9_init_55 : decode cX9_init 55 = .ok (.invokespecial 21, 3) := by decide +kernel
theorem dX9_init_58 : decode cX9_init 58 = .ok (.aastore, 1) := by decide +kernel
theorem dX9_init_59 : decode cX9_init 59 = .ok (.dup, 1) := by decide +kernel
theorem dX9_init_60 : decode cX9_init 60 = .ok (.iconst 5, 1) := by decide +kernel
theorem dX9_init_61 : decode cX9_init 61 = .ok (.new 22, 3) := by decide +kernel
theorem dX9_init_64 : decode cX9_init 64 = .ok (.dup, 1) := by decide +kernel
theorem dX9_init_65 : decode cX9_init 65 = .ok (.invokespecial 24, 3) := by decide +kernel
theorem dX9_init_68 : decode cX9_init 68 = .ok (.aastore, 1) := by decide +kernel
theorem dX9_init_69 : decode cX9_init 69 = .ok (.astore_n 1, 1) := by decide +kernel
theorem dX9_init_70 : decode cX9_init 70 = .ok (.aload_n 0, 1) := by decide +kernel
theorem dX9_init_71 : decode cX9_init 71 = .ok (.new 25, 3) := by decide +kernel
theorem dX9_init_74 : decode cX9_init 74 = .ok (.dup, 1) := by decide +kernel
theorem dX9_init_75 : decode cX9_init 75 = .ok (.aload_n 1, 1) := by decide +kernel
theorem dX9_init_76 : decode cX9_init 76 = .ok (.invokespecial 27, 3) := by decide +kernel
theorem dX9_init_79 : decode cX9_init 79 = .ok (.putfield 30, 3) := by decide +kernel
theorem dX9_init_82 : decode cX9_init 82 = .ok (.aload_n 0, 1) := by decide +kernel
theorem dX9_init_83 : decode cX9_init 83 = .ok (.new 25, 3) := by decide +kernel
theorem dX9_init_86 : decode cX9_init 86 = .ok (.dup, 1) := by decide +kernel
theorem dX9_init_87 : decode cX9_init 87 = .ok (.aload_n 1, 1) := by decide +kernel
theorem dX9_init_88 : decode cX9_init 88 = .ok (.invokespecial 27, 3) := by decide +kernel
theorem dX9_init_91 : decode cX9_init 91 = .ok (.putfield 36, 3) := by decide +kernel
theorem dX9_init_94 : decode cX9_init 94 = .ok (.aload_n 0, 1) := by decide +kernel
theorem dX9_init_95 : decode cX9_init 95 = .ok (.new 25, 3) := by decide +kernel
theorem dX9_init_98 : decode cX9_init 98 = .ok (.dup, 1) := by decide +kernel
theorem dX9_init_99 : decode cX9_init 99 = .ok (.aload_n 1, 1) := by decide +kernel
theorem dX9_init_100 : decode cX9_init 100 = .ok (.invokespecial 27, 3) := by decide +kernel
theorem dX9_init_103 : decode cX9_init 103 = .ok (.putfield 39, 3) := by decide +kernel
theorem dX9_init_106 : decode cX9_init 106 = .ok (.aload_n 0, 1) := by decide +kernel
theorem dX9_init_107 : decode cX9_init 107 = .ok (.iconst 0, 1) := by decide +kernel
theorem dX9_init_108 : decode cX9_init 108 = .ok (.putfield 42, 3) := by decide +kernel
theorem dX9_init_111 : decode cX9_init 111 = .ok (.aload_n 0, 1) := by decide +kernel
theorem dX9_init_112 : decode cX9_init 112 = .ok (.new 46, 3) := by decide +kernel
theorem dX9_init_115 : decode cX9_init 115 = .ok (.dup, 1) := by decide +kernel
theorem dX9_init_116 : decode cX9_init 116 = .ok (.aload_n 1, 1) := by decide +kernel
theorem dX9_init_117 : decode cX9_init 117 = .ok (.aload_n 0, 1) := by decide +kernel
theorem dX9_init_118 : decode cX9_init 118 = .ok (.getfield 36, 3) := by decide +kernel
theorem dX9_init_121 : decode cX9_init 121 = .ok (.invokespecial 48, 3) := by decide +kernel
theorem dX9_init_124 : decode cX9_init 124 = .ok (.putfield 51, 3) := by decide +kernel
theorem dX9_init_127 : decode cX9_init 127 = .ok (.aload_n 0, 1) := by decide +kernel
theorem dX9_init_128 : decode cX9_init 128 = .ok (.iconst 4, 1) := by decide +kernel
theorem dX9_init_129 : decode cX9_init 129 = .ok (.anewarray 55, 3) := by decide +kernel
theorem dX9_init_132 : decode cX9_init 132 = .ok (.putfield 57, 3) := by decide +kernel
theorem dX9_init_135 : decode cX9_init 135 = .ok (.iconst 0, 1) := by decide +kernel
theorem dX9_init_136 : decode cX9_init 136 = .ok (.istore_n 2, 1) := by decide +kernel
theorem dX9_init_137 : decode cX9_init 137 = .ok (.iload_n 2, 1) := by decide +kernel
theorem dX9_init_138 : decode cX9_init 138 = .ok (.iconst 4, 1) := by decide +kernel
theorem dX9_init_139 : decode cX9_init 139 = .ok (.if_icmp .ge 22, 3) := by decide +kernel
theorem dX9_init_142 : decode cX9_init 142 = .ok (.aload_n 0, 1) := by decide +kernel
theorem dX9_init_143 : decode cX9_init 143 = .ok (.getfield 57, 3) := by decide +kernel
theorem dX9_init_146 : decode cX9_init 146 = .ok (.iload_n 2, 1) := by decide +kernel
theorem dX9_init_147 : decode cX9_init 147 = .ok (.new 55, 3) := by decide +kernel
theorem dX9_init_150 : decode cX9_init 150 = .ok (.dup, 1) := by decide +kernel
theorem dX9_init_151 : decode cX9_init 151 = .ok (.invokespecial 61, 3) := by decide +kernel
theorem dX9_init_154 : decode cX9_init 154 = .ok (.aastore, 1) := by decide +kernel
theorem dX9_init_155 : decode cX9_init 155 = .ok (.iinc 2 1, 3) := by decide +kernel
theorem dX9_init_158 : decode cX9_init 158 = .ok (.goto (-21), 3) := by decide +kernel
theorem dX9_init_161 : decode cX9_init 161 = .ok (.aload_n 0, 1) := by decide +kernel
theorem dX9_init_162 : decode cX9_init 162 = .ok (.bipush 7, 2) := by decide +kernel
theorem dX9_init_164 : decode cX9_init 164 = .ok (.newarray .int, 2) := by decide +kernel
theorem dX9_init_166 : decode cX9_init 166 = .ok (.putfield 62, 3) := by decide +kernel
theorem dX9_init_169 : decode cX9_init 169 = .ok (.return_, 1) := by decide +kernel
theorem dX9_mood_0 : decode cX9_mood 0 = .ok (.iload_n 1, 1) := by decide +kernel
theorem dX9_mood_1 : decode cX9_mood 1 = .ok (.invokestatic 66, 3) := by decide +kernel
theorem dX9_mood_4 : decode cX9_mood 4 = .ok (.ifCond .eq 14, 3) := by decide +kernel
theorem dX9_mood_7 : decode cX9_mood 7 = .ok (.iload_n 2, 1) := by decide +kernel
theorem dX9_mood_8 : decode cX9_mood 8 = .ok (.bipush (-50), 2) := by decide +kernel
theorem dX9_mood_10 : decode cX9_mood 10 = .ok (.bipush 50, 2) := by decide +kernel
theorem dX9_mood_12 : decode cX9_mood 12 = .ok (.invokestatic 70, 3) := by decide +kernel
theorem dX9_mood_15 : decode cX9_mood 15 = .ok (.ifCond .ne 9, 3) := by decide +kernel
theorem dX9_mood_18 : decode cX9_mood 18 = .ok (.aload_n 0, 1) := by decide +kernel
theorem dX9_mood_19 : decode cX9_mood 19 = .ok (.iconst 0, 1) := by decide +kernel
theorem dX9_mood_20 : decode cX9_mood 20 = .ok (.invokevirtual 74, 3) := by decide +kernel
theorem dX9_mood_23 : decode cX9_mood 23 = .ok (.ireturn, 1) := by decide +kernel
theorem dX9_mood_24 : decode cX9_mood 24 = .ok (.aload_n 0, 1) := by decide +kernel
theorem dX9_mood_25 : decode cX9_mood 25 = .ok (.getfield 30, 3) := by decide +kernel
theorem dX9_mood_28 : decode cX9_mood 28 = .ok (.getfield 78, 3) := by decide +kernel
theorem dX9_mood_31 : decode cX9_mood 31 = .ok (.iload_n 1, 1) := by decide +kernel
theorem dX9_mood_32 : decode cX9_mood 32 = .ok (.iaload, 1) := by decide +kernel
theorem dX9_mood_33 : decode cX9_mood 33 = .ok (.istore_n 3, 1) := by decide +kernel
theorem dX9_mood_34 : decode cX9_mood 34 = .ok (.aload_n 0, 1) := by decide +kernel
theorem dX9_mood_35 : decode cX9_mood 35 = .ok (.getfield 30, 3) := by decide +kernel
theorem dX9_mood_38 : decode cX9_mood 38 = .ok (.getfield 78, 3) := by decide +kernel
theorem dX9_mood_41 : decode cX9_mood 41 = .ok (.iload_n 1, 1) := by decide +kernel
theorem dX9_mood_42 : decode cX9_mood 42 = .ok (.iload_n 2, 1) := by decide +kernel
theorem dX9_mood_43 : decode cX9_mood 43 = .ok (.iastore, 1) := by decide +kernel
theorem dX9_mood_44 : decode cX9_mood 44 = .ok (.iload_n 3, 1) := by decide +kernel
theorem dX9_mood_45 : decode cX9_mood 45 = .ok (.ireturn, 1) := by decide +kernel
theorem dX9_recall_0 : decode cX9_recall 0 = .ok (.iload_n 1, 1) := by decide +kernel
theorem dX9_recall_1 : decode cX9_recall 1 = .ok (.invokestatic 66, 3) := by decide +kernel
theorem dX9_recall_4 : decode cX9_recall 4 = .ok (.ifCond .eq 16, 3) := by decide +kernel
theorem dX9_recall_7 : decode cX9_recall 7 = .ok (.iload_n 2, 1) := by decide +kernel
theorem dX9_recall_8 : decode cX9_recall 8 = .ok (.iconst (-1), 1) := by decide +kernel
theorem dX9_recall_9 : decode cX9_recall 9 = .ok (.if_icmp .eq 17, 3) := by decide +kernel
theorem dX9_recall_12 : decode cX9_recall 12 = .ok (.aload_n 0, 1) := by decide +kernel
theorem dX9_recall_13 : decode cX9_recall 13 = .ok (.iload_n 2, 1) := by decide +kernel
theorem dX9_recall_14 : decode cX9_recall 14 = .ok (.invokevirtual 81, 3) := by decide +kernel
theorem dX9_recall_17 : decode cX9_recall 17 = .ok (.ifCond .ne 9, 3) := by decide +kernel
theorem dX9_recall_20 : decode cX9_recall 20 = .ok (.aload_n 0, 1) := by decide +kernel
theorem dX9_recall_21 : decode cX9_recall 21 = .ok (.iconst 0, 1) := by decide +kernel
theorem dX9_recall_22 : decode cX9_recall 22 = .ok (.invokevirtual 74, 3) := by decide +kernel
theorem dX9_recall_25 : decode cX9_recall 25 = .ok (.ireturn, 1) := by decide +kernel
theorem dX9_recall_26 : decode cX9_recall 26 = .ok (.aload_n 0, 1) := by decide +kernel
theorem dX9_recall_27 : decode cX9_recall 27 = .ok (.getfield 30, 3) := by decide +kernel
theorem dX9_recall_30 : decode cX9_recall 30 = .ok (.getfield 84, 3) := by decide +kernel
theorem dX9_recall_33 : decode cX9_recall 33 = .ok (.iload_n 1, 1) := by decide +kernel
theorem dX9_recall_34 : decode cX9_recall 34 = .ok (.iaload, 1) := by decide +kernel
theorem dX9_recall_35 : decode cX9_recall 35 = .ok (.istore_n 3, 1) := by decide +kernel
theorem dX9_recall_36 : decode cX9_recall 36 = .ok (.aload_n 0, 1) := by decide +kernel
theorem dX9_recall_37 : decode cX9_recall 37 = .ok (.getfield 30, 3) := by decide +kernel
theorem dX9_recall_40 : decode cX9_recall 40 = .ok (.getfield 84, 3) := by decide +kernel
theorem dX9_recall_43 : decode cX9_recall 43 = .ok (.iload_n 1, 1) := by decide +kernel
theorem dX9_recall_44 : decode cX9_recall 44 = .ok (.iload_n 2, 1) := by decide +kernel
theorem dX9_recall_45 : decode cX9_recall 45 = .ok (.iastore, 1) := by decide +kernel
theorem dX9_recall_46 : decode cX9_recall 46 = .ok (.iload_n 3, 1) := by decide +kernel
theorem dX9_recall_47 : decode cX9_recall 47 = .ok (.ireturn, 1) := by decide +kernel
theorem dX9_houseOf_0 : decode cX9_houseOf 0 = .ok (.iload_n 1, 1) := by decide +kernel
theorem dX9_houseOf_1 : decode cX9_houseOf 1 = .ok (.invokestatic 66, 3) := by decide +kernel
theorem dX9_houseOf_4 : decode cX9_houseOf 4 = .ok (.ifCond .ne 9, 3) := by decide +kernel
theorem dX9_houseOf_7 : decode cX9_houseOf 7 = .ok (.aload_n 0, 1) := by decide +kernel
theorem dX9_houseOf_8 : decode cX9_houseOf 8 = .ok (.iconst 0, 1) := by decide +kernel
theorem dX9_houseOf_9 : decode cX9_houseOf 9 = .ok (.invokevirtual 74, 3) := by decide +kernel
theorem dX9_houseOf_12 : decode cX9_houseOf 12 = .ok (.ireturn, 1) := by decide +kernel
theorem dX9_houseOf_13 : decode cX9_houseOf 13 = .ok (.iload_n 2, 1) := by decide +kernel
theorem dX9_houseOf_14 : decode cX9_houseOf 14 = .ok (.tableswitch 58 0 2 #[26, 39, 49], 26) := by decide +kernel
theorem dX9_houseOf_40 : decode cX9_houseOf 40 = .ok (.bipush 100, 2) := by decide +kernel
theorem dX9_houseOf_42 : decode cX9_houseOf 42 = .ok (.aload_n 0, 1) := by decide +kernel
theorem dX9_houseOf_43 : decode cX9_houseOf 43 = .ok (.getfield 30, 3) := by decide +kernel
theorem dX9_houseOf_46 : decode cX9_houseOf 46 = .ok (.getfield 78, 3) := by decide +kernel
theorem dX9_houseOf_49 : decode cX9_houseOf 49 = .ok (.iload_n 1, 1) := by decide +kernel
theorem dX9_houseOf_50 : decode cX9_houseOf 50 = .ok (.iaload, 1) := by decide +kernel
theorem dX9_houseOf_51 : decode cX9_houseOf 51 = .ok (.iadd, 1) := by decide +kernel
theorem dX9_houseOf_52 : decode cX9_houseOf 52 = .ok (.ireturn, 1) := by decide +kernel
theorem dX9_houseOf_53 : decode cX9_houseOf 53 = .ok (.aload_n 0, 1) := by decide +kernel
theorem dX9_houseOf_54 : decode cX9_houseOf 54 = .ok (.getfield 30, 3) := by decide +kernel
theorem dX9_houseOf_57 : decode cX9_houseOf 57 = .ok (.getfield 84, 3) := by decide +kernel
theorem dX9_houseOf_60 : decode cX9_houseOf 60 = .ok (.iload_n 1, 1) := by decide +kernel
theorem dX9_houseOf_61 : decode cX9_houseOf 61 = .ok (.iaload, 1) := by decide +kernel
theorem dX9_houseOf_62 : decode cX9_houseOf 62 = .ok (.ireturn, 1) := by decide +kernel
theorem dX9_houseOf_63 : decode cX9_houseOf 63 = .ok (.aload_n 0, 1) := by decide +kernel
theorem dX9_houseOf_64 : decode cX9_houseOf 64 = .ok (.getfield 30, 3) := by decide +kernel
theorem dX9_houseOf_67 : decode cX9_houseOf 67 = .ok (.iload_n 1, 1) := by decide +kernel
theorem dX9_houseOf_68 : decode cX9_houseOf 68 = .ok (.invokevirtual 87, 3) := by decide +kernel
theorem dX9_houseOf_71 : decode cX9_houseOf 71 = .ok (.ireturn, 1) := by decide +kernel
theorem dX9_houseOf_72 : decode cX9_houseOf 72 = .ok (.aload_n 0, 1) := by decide +kernel
theorem dX9_houseOf_73 : decode cX9_houseOf 73 = .ok (.iconst 0, 1) := by decide +kernel
theorem dX9_houseOf_74 : decode cX9_houseOf 74 = .ok (.invokevirtual 74, 3) := by decide +kernel
theorem dX9_houseOf_77 : decode cX9_houseOf 77 = .ok (.ireturn, 1) := by decide +kernel
theorem dX9_now_0 : decode cX9_now 0 = .ok (.iload_n 1, 1) := by decide +kernel
theorem dX9_now_1 : decode cX9_now 1 = .ok (.tableswitch 83 0 4 #[35, 43, 59, 67, 75], 35) := by decide +kernel
theorem dX9_now_36 : decode cX9_now 36 = .ok (.aload_n 0, 1) := by decide +kernel
theorem dX9_now_37 : decode cX9_now 37 = .ok (.getfield 30, 3) := by decide +kernel
theorem dX9_now_40 : decode cX9_now 40 = .ok (.getfield 90, 3) := by decide +kernel
theorem dX9_now_43 : decode cX9_now 43 = .ok (.ireturn, 1) := by decide +kernel
theorem dX9_now_44 : decode cX9_now 44 = .ok (.aload_n 0, 1) := by decide +kernel
theorem dX9_now_45 : decode cX9_now 45 = .ok (.getfield 30, 3) := by decide +kernel
theorem dX9_now_48 : decode cX9_now 48 = .ok (.invokevirtual 94, 3) := by decide +kernel
theorem dX9_now_51 : decode cX9_now 51 = .ok (.ifCond .eq 7, 3) := by decide +kernel
theorem dX9_now_54 : decode cX9_now 54 = .ok (.iconst 1, 1) := by decide +kernel
theorem dX9_now_55 : decode cX9_now 55 = .ok (.goto 4, 3) := by decide +kernel
theorem dX9_now_58 : decode cX9_now 58 = .ok (.iconst 0, 1) := by decide +kernel
theorem dX9_now_59 : decode cX9_now 59 = .ok (.ireturn, 1) := by decide +kernel
theorem dX9_now_60 : decode cX9_now 60 = .ok (.aload_n 0, 1) := by decide +kernel
theorem dX9_now_61 : decode cX9_now 61 = .ok (.getfield 30, 3) := by decide +kernel
theorem dX9_now_64 : decode cX9_now 64 = .ok (.invokevirtual 98, 3) := by decide +kernel
theorem dX9_now_67 : decode cX9_now 67 = .ok (.ireturn, 1) := by decide +kernel
theorem dX9_now_68 : decode cX9_now 68 = .ok (.aload_n 0, 1) := by decide +kernel
theorem dX9_now_69 : decode cX9_now 69 = .ok (.getfield 30, 3) := by decide +kernel
theorem dX9_now_72 : decode cX9_now 72 = .ok (.invokevirtual 102, 3) := by decide +kernel
theorem dX9_now_75 : decode cX9_now 75 = .ok (.ireturn, 1) := by decide +kernel
theorem dX9_now_76 : decode cX9_now 76 = .ok (.aload_n 0, 1) := by decide +kernel
theorem dX9_now_77 : decode cX9_now 77 = .ok (.getfield 30, 3) := by decide +kernel
theorem dX9_now_80 : decode cX9_now 80 = .ok (.invokevirtual 105, 3) := by decide +kernel
theorem dX9_now_83 : decode cX9_now 83 = .ok (.ireturn, 1) := by decide +kernel
theorem dX9_now_84 : decode cX9_now 84 = .ok (.aload_n 0, 1) := by decide +kernel
theorem dX9_now_85 : decode cX9_now 85 = .ok (.iconst 0, 1) := by decide +kernel
theorem dX9_now_86 : decode cX9_now 86 = .ok (.invokevirtual 74, 3) := by decide +kernel
theorem dX9_now_89 : decode cX9_now 89 = .ok (.ireturn, 1) := by decide +kernel
theorem dX9_beard_0 : decode cX9_beard 0 = .ok (.iload_n 1, 1) := by decide +kernel
theorem dX9_beard_1 : decode cX9_beard 1 = .ok (.invokestatic 108, 3) := by decide +kernel
theorem dX9_beard_4 : decode cX9_beard 4 = .ok (.ifCond .ne 9, 3) := by decide +kernel
theorem dX9_beard_7 : decode cX9_beard 7 = .ok (.aload_n 0, 1) := by decide +kernel
theorem dX9_beard_8 : decode cX9_beard 8 = .ok (.iconst 0, 1) := by decide +kernel
theorem dX9_beard_9 : decode cX9_beard 9 = .ok (.invokevirtual 74, 3) := by decide +kernel
theorem dX9_beard_12 : decode cX9_beard 12 = .ok (.ireturn, 1) := by decide +kernel
theorem dX9_beard_13 : decode cX9_beard 13 = .ok (.aload_n 0, 1) := by decide +kernel
theorem dX9_beard_14 : decode cX9_beard 14 = .ok (.getfield 30, 3) := by decide +kernel
theorem dX9_beard_17 : decode cX9_beard 17 = .ok (.iload_n 1, 1) := by decide +kernel
theorem dX9_beard_18 : decode cX9_beard 18 = .ok (.invokevirtual 111, 3) := by decide +kernel
theorem dX9_beard_21 : decode cX9_beard 21 = .ok (.istore_n 2, 1) := by decide +kernel
theorem dX9_beard_22 : decode cX9_beard 22 = .ok (.iload_n 2, 1) := by decide +kernel
theorem dX9_beard_23 : decode cX9_beard 23 = .ok (.ifCond .ge 11, 3) := by decide +kernel
theorem dX9_beard_26 : decode cX9_beard 26 = .ok (.aload_n 0, 1) := by decide +kernel
theorem dX9_beard_27 : decode cX9_beard 27 = .ok (.iconst 1, 1) := by decide +kernel
theorem dX9_beard_28 : decode cX9_beard 28 = .ok (.invokevirtual 74, 3) := by decide +kernel
theorem dX9_beard_31 : decode cX9_beard 31 = .ok (.goto 4, 3) := by decide +kernel
theorem dX9_beard_34 : decode cX9_beard 34 = .ok (.iload_n 2, 1) := by decide +kernel
theorem dX9_beard_35 : decode cX9_beard 35 = .ok (.ireturn, 1) := by decide +kernel
theorem dX9_of_0 : decode cX9_of 0 = .ok (.aload_n 0, 1) := by decide +kernel
theorem dX9_of_1 : decode cX9_of 1 = .ok (.iload_n 1, 1) := by decide +kernel
theorem dX9_of_2 : decode cX9_of 2 = .ok (.invokevirtual 81, 3) := by decide +kernel
theorem dX9_of_5 : decode cX9_of 5 = .ok (.ifCond .ne 9, 3) := by decide +kernel
theorem dX9_of_8 : decode cX9_of 8 = .ok (.aload_n 0, 1) := by decide +kernel
theorem dX9_of_9 : decode cX9_of 9 = .ok (.iconst 0, 1) := by decide +kernel
theorem dX9_of_10 : decode cX9_of 10 = .ok (.invokevirtual 74, 3) := by decide +kernel
theorem dX9_of_13 : decode cX9_of 13 = .ok (.ireturn, 1) := by decide +kernel
theorem dX9_of_14 : decode cX9_of 14 = .ok (.iload_n 2, 1) := by decide +kernel
theorem dX9_of_15 : decode cX9_of 15 = .ok (.tableswitch 98 0 5 #[37, 47, 57, 67, 77, 86], 37) := by decide +kernel
theorem dX9_of_52 : decode cX9_of 52 = .ok (.aload_n 0, 1) := by decide +kernel
theorem dX9_of_53 : decode cX9_of 53 = .ok (.getfield 30, 3) := by decide +kernel
theorem dX9_of_56 : decode cX9_of 56 = .ok (.getfield 114, 3) := by decide +kernel
theorem dX9_of_59 : decode cX9_of 59 = .ok (.iload_n 1, 1) := by decide +kernel
theorem dX9_of_60 : decode cX9_of 60 = .ok (.iaload, 1) := by decide +kernel
theorem dX9_of_61 : decode cX9_of 61 = .ok (.ireturn, 1) := by decide +kernel
theorem dX9_of_62 : decode cX9_of 62 = .ok (.aload_n 0, 1) := by decide +kernel
theorem dX9_of_63 : decode cX9_of 63 = .ok (.getfield 30, 3) := by decide +kernel
theorem dX9_of_66 : decode cX9_of 66 = .ok (.getfield 117, 3) := by decide +kernel
theorem dX9_of_69 : decode cX9_of 69 = .ok (.iload_n 1, 1) := by decide +kernel
theorem dX9_of_70 : decode cX9_of 70 = .ok (.iaload, 1) := by decide +kernel
theorem dX9_of_71 : decode cX9_of 71 = .ok (.ireturn, 1) := by decide +kernel
theorem dX9_of_72 : decode cX9_of 72 = .ok (.aload_n 0, 1) := by decide +kernel
theorem dX9_of_73 : decode cX9_of 73 = .ok (.getfield 30, 3) := by decide +kernel
theorem dX9_of_76 : decode cX9_of 76 = .ok (.getfield 120, 3) := by decide +kernel
theorem dX9_of_79 : decode cX9_of 79 = .ok (.iload_n 1, 1) := by decide +kernel
theorem dX9_of_80 : decode cX9_of 80 = .ok (.iaload, 1) := by decide +kernel
theorem dX9_of_81 : decode cX9_of 81 = .ok (.ireturn, 1) := by decide +kernel
theorem dX9_of_82 : decode cX9_of 82 = .ok (.aload_n 0, 1) := by decide +kernel
theorem dX9_of_83 : decode cX9_of 83 = .ok (.getfield 30, 3) := by decide +kernel
theorem dX9_of_86 : decode cX9_of 86 = .ok (.getfield 123, 3) := by decide +kernel
theorem dX9_of_89 : decode cX9_of 89 = .ok (.iload_n 1, 1) := by decide +kernel
theorem dX9_of_90 : decode cX9_of 90 = .ok (.iaload, 1) := by decide +kernel
theorem dX9_of_91 : decode cX9_of 91 = .ok (.ireturn, 1) := by decide +kernel
theorem dX9_of_92 : decode cX9_of 92 = .ok (.aload_n 0, 1) := by decide +kernel
theorem dX9_of_93 : decode cX9_of 93 = .ok (.getfield 30, 3) := by decide +kernel
theorem dX9_of_96 : decode cX9_of 96 = .ok (.iload_n 1, 1) := by decide +kernel
theorem dX9_of_97 : decode cX9_of 97 = .ok (.invokevirtual 126, 3) := by decide +kernel
theorem dX9_of_100 : decode cX9_of 100 = .ok (.ireturn, 1) := by decide +kernel
theorem dX9_of_101 : decode cX9_of 101 = .ok (.bipush 100, 2) := by decide +kernel
theorem dX9_of_103 : decode cX9_of 103 = .ok (.aload_n 0, 1) := by decide +kernel
theorem dX9_of_104 : decode cX9_of 104 = .ok (.getfield 30, 3) := by decide +kernel
theorem dX9_of_107 : decode cX9_of 107 = .ok (.iload_n 1, 1) := by decide +kernel
theorem dX9_of_108 : decode cX9_of 108 = .ok (.invokevirtual 129, 3) := by decide +kernel
theorem dX9_of_111 : decode cX9_of 111 = .ok (.iadd, 1) := by decide +kernel
theorem dX9_of_112 : decode cX9_of 112 = .ok (.ireturn, 1) := by decide +kernel
theorem dX9_of_113 : decode cX9_of 113 = .ok (.aload_n 0, 1) := by decide +kernel
theorem dX9_of_114 : decode cX9_of 114 = .ok (.iconst 0, 1) := by decide +kernel
theorem dX9_of_115 : decode cX9_of 115 = .ok (.invokevirtual 74, 3) := by decide +kernel
theorem dX9_of_118 : decode cX9_of 118 = .ok (.ireturn, 1) := by decide +kernel
theorem dX9_can_0 : decode cX9_can 0 = .ok (.aload_n 0, 1) := by decide +kernel
theorem dX9_can_1 : decode cX9_can 1 = .ok (.iload_n 1, 1) := by decide +kernel
theorem dX9_can_2 : decode cX9_can 2 = .ok (.invokevirtual 81, 3) := by decide +kernel
theorem dX9_can_5 : decode cX9_can 5 = .ok (.ifCond .eq 10, 3) := by decide +kernel
theorem dX9_can_8 : decode cX9_can 8 = .ok (.iload_n 2, 1) := by decide +kernel
theorem dX9_can_9 : decode cX9_can 9 = .ok (.invokestatic 66, 3) := by decide +kernel
theorem dX9_can_12 : decode cX9_can 12 = .ok (.ifCond .ne 9, 3) := by decide +kernel
theorem dX9_can_15 : decode cX9_can 15 = .ok (.aload_n 0, 1) := by decide +kernel
theorem dX9_can_16 : decode cX9_can 16 = .ok (.iconst 0, 1) := by decide +kernel
theorem dX9_can_17 : decode cX9_can 17 = .ok (.invokevirtual 74, 3) := by decide +kernel
theorem dX9_can_20 : decode cX9_can 20 = .ok (.ireturn, 1) := by decide +kernel
theorem dX9_can_21 : decode cX9_can 21 = .ok (.iload_n 3, 1) := by decide +kernel
theorem dX9_can_22 : decode cX9_can 22 = .ok (.lookupswitch 51 #[(0, 26), (1, 39)], 26) := by decide +kernel
theorem dX9_can_48 : decode cX9_can 48 = .ok (.bipush 100, 2) := by decide +kernel
theorem dX9_can_50 : decode cX9_can 50 = .ok (.aload_n 0, 1) := by decide +kernel
theorem dX9_can_51 : decode cX9_can 51 = .ok (.getfield 30, 3) := by decide +kernel
theorem dX9_can_54 : decode cX9_can 54 = .ok (.iload_n 1, 1) := by decide +kernel
theorem dX9_can_55 : decode cX9_can 55 = .ok (.iload_n 2, 1) := by decide +kernel
theorem dX9_can_56 : decode cX9_can 56 = .ok (.invokevirtual 132, 3) := by decide +kernel
theorem dX9_can_59 : decode cX9_can 59 = .ok (.iadd, 1) := by decide +kernel
theorem dX9_can_60 : decode cX9_can 60 = .ok (.ireturn, 1) := by decide +kernel
theorem dX9_can_61 : decode cX9_can 61 = .ok (.bipush 100, 2) := by decide +kernel
theorem dX9_can_63 : decode cX9_can 63 = .ok (.aload_n 0, 1) := by decide +kernel
theorem dX9_can_64 : decode cX9_can 64 = .ok (.getfield 30, 3) := by decide +kernel
theorem dX9_can_67 : decode cX9_can 67 = .ok (.iload_n 1, 1) := by decide +kernel
theorem dX9_can_68 : decode cX9_can 68 = .ok (.invokevirtual 136, 3) := by decide +kernel
theorem dX9_can_71 : decode cX9_can 71 = .ok (.iadd, 1) := by decide +kernel
theorem dX9_can_72 : decode cX9_can 72 = .ok (.ireturn, 1) := by decide +kernel
theorem dX9_can_73 : decode cX9_can 73 = .ok (.aload_n 0, 1) := by decide +kernel
theorem dX9_can_74 : decode cX9_can 74 = .ok (.iconst 0, 1) := by decide +kernel
theorem dX9_can_75 : decode cX9_can 75 = .ok (.invokevirtual 74, 3) := by decide +kernel
theorem dX9_can_78 : decode cX9_can 78 = .ok (.ireturn, 1) := by decide +kernel
theorem dX9_set_0 : decode cX9_set 0 = .ok (.aload_n 0, 1) := by decide +kernel
theorem dX9_set_1 : decode cX9_set 1 = .ok (.iload_n 1, 1) := by decide +kernel
theorem dX9_set_2 : decode cX9_set 2 = .ok (.invokevirtual 81, 3) := by decide +kernel
theorem dX9_set_5 : decode cX9_set 5 = .ok (.ifCond .ne 9, 3) := by decide +kernel
theorem dX9_set_8 : decode cX9_set 8 = .ok (.aload_n 0, 1) := by decide +kernel
theorem dX9_set_9 : decode cX9_set 9 = .ok (.iconst 0, 1) := by decide +kernel
theorem dX9_set_10 : decode cX9_set 10 = .ok (.invokevirtual 74, 3) := by decide +kernel
theorem dX9_set_13 : decode cX9_set 13 = .ok (.ireturn, 1) := by decide +kernel
theorem dX9_set_14 : decode cX9_set 14 = .ok (.iload_n 2, 1) := by decide +kernel
theorem dX9_set_15 : decode cX9_set 15 = .ok (.iconst 1, 1) := by decide +kernel
theorem dX9_set_16 : decode cX9_set 16 = .ok (.if_icmp .ne 37, 3) := by decide +kernel
theorem dX9_set_19 : decode cX9_set 19 = .ok (.iload_n 3, 1) := by decide +kernel
theorem dX9_set_20 : decode cX9_set 20 = .ok (.iconst 0, 1) := by decide +kernel
theorem dX9_set_21 : decode cX9_set 21 = .ok (.bipush 99, 2) := by decide +kernel
theorem dX9_set_23 : decode cX9_set 23 = .ok (.invokestatic 70, 3) := by decide +kernel
theorem dX9_set_26 : decode cX9_set 26 = .ok (.ifCond .eq 27, 3) := by decide +kernel
theorem dX9_set_29 : decode cX9_set 29 = .ok (.aload_n 0, 1) := by decide +kernel
theorem dX9_set_30 : decode cX9_set 30 = .ok (.getfield 30, 3) := by decide +kernel
theorem dX9_set_33 : decode cX9_set 33 = .ok (.getfield 117, 3) := by decide +kernel
theorem dX9_set_36 : decode cX9_set 36 = .ok (.iload_n 1, 1) := by decide +kernel
theorem dX9_set_37 : decode cX9_set 37 = .ok (.iaload, 1) := by decide +kernel
theorem dX9_set_38 : decode cX9_set 38 = .ok (.istore 4, 2) := by decide +kernel
theorem dX9_set_40 : decode cX9_set 40 = .ok (.aload_n 0, 1) := by decide +kernel
theorem dX9_set_41 : decode cX9_set 41 = .ok (.getfield 30, 3) := by decide +kernel
theorem dX9_set_44 : decode cX9_set 44 = .ok (.getfield 117, 3) := by decide +kernel
theorem dX9_set_47 : decode cX9_set 47 = .ok (.iload_n 1, 1) := by decide +kernel
theorem dX9_set_48 : decode cX9_set 48 = .ok (.iload_n 3, 1) := by decide +kernel
theorem dX9_set_49 : decode cX9_set 49 = .ok (.iastore, 1) := by decide +kernel
theorem dX9_set_50 : decode cX9_set 50 = .ok (.iload 4, 2) := by decide +kernel
theorem dX9_set_52 : decode cX9_set 52 = .ok (.ireturn, 1) := by decide +kernel
theorem dX9_set_53 : decode cX9_set 53 = .ok (.iload_n 2, 1) := by decide +kernel
theorem dX9_set_54 : decode cX9_set 54 = .ok (.iconst 2, 1) := by decide +kernel
theorem dX9_set_55 : decode cX9_set 55 = .ok (.if_icmp .ne 38, 3) := by decide +kernel
theorem dX9_set_58 : decode cX9_set 58 = .ok (.iload_n 3, 1) := by decide +kernel
theorem dX9_set_59 : decode cX9_set 59 = .ok (.iconst 0, 1) := by decide +kernel
theorem dX9_set_60 : decode cX9_set 60 = .ok (.sipush 999, 3) := by decide +kernel
theorem dX9_set_63 : decode cX9_set 63 = .ok (.invokestatic 70, 3) := by decide +kernel
theorem dX9_set_66 : decode cX9_set 66 = .ok (.ifCond .eq 27, 3) := by decide +kernel
theorem dX9_set_69 : decode cX9_set 69 = .ok (.aload_n 0, 1) := by decide +kernel
theorem dX9_set_70 : decode cX9_set 70 = .ok (.getfield 30, 3) := by decide +kernel
theorem dX9_set_73 : decode cX9_set 73 = .ok (.getfield 120, 3) := by decide +kernel
theorem dX9_set_76 : decode cX9_set 76 = .ok (.iload_n 1, 1) := by decide +kernel
theorem dX9_set_77 : decode cX9_set 77 = .ok (.iaload, 1) := by decide +kernel
theorem dX9_set_78 : decode cX9_set 78 = .ok (.istore 4, 2) := by decide +kernel
theorem dX9_set_80 : decode cX9_set 80 = .ok (.aload_n 0, 1) := by decide +kernel
theorem dX9_set_81 : decode cX9_set 81 = .ok (.getfield 30, 3) := by decide +kernel
theorem dX9_set_84 : decode cX9_set 84 = .ok (.getfield 120, 3) := by decide +kernel
theorem dX9_set_87 : decode cX9_set 87 = .ok (.iload_n 1, 1) := by decide +kernel
theorem dX9_set_88 : decode cX9_set 88 = .ok (.iload_n 3, 1) := by decide +kernel
theorem dX9_set_89 : decode cX9_set 89 = .ok (.iastore, 1) := by decide +kernel
theorem dX9_set_90 : decode cX9_set 90 = .ok (.iload 4, 2) := by decide +kernel
theorem dX9_set_92 : decode cX9_set 92 = .ok (.ireturn, 1) := by decide +kernel
theorem dX9_set_93 : decode cX9_set 93 = .ok (.aload_n 0, 1) := by decide +kernel
theorem dX9_set_94 : decode cX9_set 94 = .ok (.iconst 0, 1) := by decide +kernel
theorem dX9_set_95 : decode cX9_set 95 = .ok (.invokevirtual 74, 3) := by decide +kernel
theorem dX9_set_98 : decode cX9_set 98 = .ok (.ireturn, 1) := by decide +kernel
theorem dX9_turn_0 : decode cX9_turn 0 = .ok (.aload_n 0, 1) := by decide +kernel
theorem dX9_turn_1 : decode cX9_turn 1 = .ok (.iload_n 1, 1) := by decide +kernel
theorem dX9_turn_2 : decode cX9_turn 2 = .ok (.invokevirtual 81, 3) := by decide +kernel
theorem dX9_turn_5 : decode cX9_turn 5 = .ok (.ifCond .eq 10, 3) := by decide +kernel
theorem dX9_turn_8 : decode cX9_turn 8 = .ok (.iload_n 2, 1) := by decide +kernel
theorem dX9_turn_9 : decode cX9_turn 9 = .ok (.invokestatic 108, 3) := by decide +kernel
theorem dX9_turn_12 : decode cX9_turn 12 = .ok (.ifCond .ne 9, 3) := by decide +kernel
theorem dX9_turn_15 : decode cX9_turn 15 = .ok (.aload_n 0, 1) := by decide +kernel
theorem dX9_turn_16 : decode cX9_turn 16 = .ok (.iconst 0, 1) := by decide +kernel
theorem dX9_turn_17 : decode cX9_turn 17 = .ok (.invokevirtual 74, 3) := by decide +kernel
theorem dX9_turn_20 : decode cX9_turn 20 = .ok (.ireturn, 1) := by decide +kernel
theorem dX9_turn_21 : decode cX9_turn 21 = .ok (.aload_n 0, 1) := by decide +kernel
theorem dX9_turn_22 : decode cX9_turn 22 = .ok (.getfield 30, 3) := by decide +kernel
theorem dX9_turn_25 : decode cX9_turn 25 = .ok (.getfield 114, 3) := by decide +kernel
theorem dX9_turn_28 : decode cX9_turn 28 = .ok (.iload_n 1, 1) := by decide +kernel
theorem dX9_turn_29 : decode cX9_turn 29 = .ok (.iaload, 1) := by decide +kernel
theorem dX9_turn_30 : decode cX9_turn 30 = .ok (.istore_n 3, 1) := by decide +kernel
theorem dX9_turn_31 : decode cX9_turn 31 = .ok (.aload_n 0, 1) := by decide +kernel
theorem dX9_turn_32 : decode cX9_turn 32 = .ok (.getfield 30, 3) := by decide +kernel
theorem dX9_turn_35 : decode cX9_turn 35 = .ok (.getfield 114, 3) := by decide +kernel
theorem dX9_turn_38 : decode cX9_turn 38 = .ok (.iload_n 1, 1) := by decide +kernel
theorem dX9_turn_39 : decode cX9_turn 39 = .ok (.iload_n 2, 1) := by decide +kernel
theorem dX9_turn_40 : decode cX9_turn 40 = .ok (.iastore, 1) := by decide +kernel
theorem dX9_turn_41 : decode cX9_turn 41 = .ok (.iload_n 3, 1) := by decide +kernel
theorem dX9_turn_42 : decode cX9_turn 42 = .ok (.ireturn, 1) := by decide +kernel
theorem dX9_as_0 : decode cX9_as 0 = .ok (.aload_n 0, 1) := by decide +kernel
theorem dX9_as_1 : decode cX9_as 1 = .ok (.iload_n 1, 1) := by decide +kernel
theorem dX9_as_2 : decode cX9_as 2 = .ok (.invokevirtual 81, 3) := by decide +kernel
theorem dX9_as_5 : decode cX9_as 5 = .ok (.ifCond .eq 10, 3) := by decide +kernel
theorem dX9_as_8 : decode cX9_as 8 = .ok (.iload_n 2, 1) := by decide +kernel
theorem dX9_as_9 : decode cX9_as 9 = .ok (.invokestatic 108, 3) := by decide +kernel
theorem dX9_as_12 : decode cX9_as 12 = .ok (.ifCond .ne 9, 3) := by decide +kernel
theorem dX9_as_15 : decode cX9_as 15 = .ok (.aload_n 0, 1) := by decide +kernel
theorem dX9_as_16 : decode cX9_as 16 = .ok (.iconst 0, 1) := by decide +kernel
theorem dX9_as_17 : decode cX9_as 17 = .ok (.invokevirtual 74, 3) := by decide +kernel
theorem dX9_as_20 : decode cX9_as 20 = .ok (.ireturn, 1) := by decide +kernel
theorem dX9_as_21 : decode cX9_as 21 = .ok (.aload_n 0, 1) := by decide +kernel
theorem dX9_as_22 : decode cX9_as 22 = .ok (.getfield 30, 3) := by decide +kernel
theorem dX9_as_25 : decode cX9_as 25 = .ok (.getfield 114, 3) := by decide +kernel
theorem dX9_as_28 : decode cX9_as 28 = .ok (.iload_n 1, 1) := by decide +kernel
theorem dX9_as_29 : decode cX9_as 29 = .ok (.iaload, 1) := by decide +kernel
theorem dX9_as_30 : decode cX9_as 30 = .ok (.iload_n 2, 1) := by decide +kernel
theorem dX9_as_31 : decode cX9_as 31 = .ok (.invokestatic 139, 3) := by decide +kernel
theorem dX9_as_34 : decode cX9_as 34 = .ok (.ifCond .eq 15, 3) := by decide +kernel
theorem dX9_as_37 : decode cX9_as 37 = .ok (.aload_n 0, 1) := by decide +kernel
theorem dX9_as_38 : decode cX9_as 38 = .ok (.getfield 30, 3) := by decide +kernel
theorem dX9_as_41 : decode cX9_as 41 = .ok (.getfield 117, 3) := by decide +kernel
theorem dX9_as_44 : decode cX9_as 44 = .ok (.iload_n 1, 1) := by decide +kernel
theorem dX9_as_45 : decode cX9_as 45 = .ok (.iaload, 1) := by decide +kernel
theorem dX9_as_46 : decode cX9_as 46 = .ok (.goto 8, 3) := by decide +kernel
theorem dX9_as_49 : decode cX9_as 49 = .ok (.aload_n 0, 1) := by decide +kernel
theorem dX9_as_50 : decode cX9_as 50 = .ok (.iconst 2, 1) := by decide +kernel
theorem dX9_as_51 : decode cX9_as 51 = .ok (.invokevirtual 74, 3) := by decide +kernel
theorem dX9_as_54 : decode cX9_as 54 = .ok (.ireturn, 1) := by decide +kernel
theorem dX9_wearer_0 : decode cX9_wearer 0 = .ok (.iload_n 1, 1) := by decide +kernel
theorem dX9_wearer_1 : decode cX9_wearer 1 = .ok (.iconst 0, 1) := by decide +kernel
theorem dX9_wearer_2 : decode cX9_wearer 2 = .ok (.sipush 9999, 3) := by decide +kernel
theorem dX9_wearer_5 : decode cX9_wearer 5 = .ok (.invokestatic 70, 3) := by decide +kernel
theorem dX9_wearer_8 : decode cX9_wearer 8 = .ok (.ifCond .ne 9, 3) := by decide +kernel
theorem dX9_wearer_11 : decode cX9_wearer 11 = .ok (.aload_n 0, 1) := by decide +kernel
theorem dX9_wearer_12 : decode cX9_wearer 12 = .ok (.iconst 0, 1) := by decide +kernel
theorem dX9_wearer_13 : decode cX9_wearer 13 = .ok (.invokevirtual 74, 3) := by decide +kernel
theorem dX9_wearer_16 : decode cX9_wearer 16 = .ok (.ireturn, 1) := by decide +kernel
theorem dX9_wearer_17 : decode cX9_wearer 17 = .ok (.aload_n 0, 1) := by decide +kernel
theorem dX9_wearer_18 : decode cX9_wearer 18 = .ok (.getfield 30, 3) := by decide +kernel
theorem dX9_wearer_21 : decode cX9_wearer 21 = .ok (.iload_n 1, 1) := by decide +kernel
theorem dX9_wearer_22 : decode cX9_wearer 22 = .ok (.invokevirtual 143, 3) := by decide +kernel
theorem dX9_wearer_25 : decode cX9_wearer 25 = .ok (.istore_n 2, 1) := by decide +kernel
theorem dX9_wearer_26 : decode cX9_wearer 26 = .ok (.iload_n 2, 1) := by decide +kernel
theorem dX9_wearer_27 : decode cX9_wearer 27 = .ok (.ifCond .ge 11, 3) := by decide +kernel
theorem dX9_wearer_30 : decode cX9_wearer 30 = .ok (.aload_n 0, 1) := by decide +kernel
theorem dX9_wearer_31 : decode cX9_wearer 31 = .ok (.iconst 1, 1) := by decide +kernel
theorem dX9_wearer_32 : decode cX9_wearer 32 = .ok (.invokevirtual 74, 3) := by decide +kernel
theorem dX9_wearer_35 : decode cX9_wearer 35 = .ok (.goto 4, 3) := by decide +kernel
theorem dX9_wearer_38 : decode cX9_wearer 38 = .ok (.iload_n 2, 1) := by decide +kernel
theorem dX9_wearer_39 : decode cX9_wearer 39 = .ok (.ireturn, 1) := by decide +kernel
theorem dX9_wearerOf_0 : decode cX9_wearerOf 0 = .ok (.aload_n 0, 1) := by decide +kernel
theorem dX9_wearerOf_1 : decode cX9_wearerOf 1 = .ok (.iload_n 1, 1) := by decide +kernel
theorem dX9_wearerOf_2 : decode cX9_wearerOf 2 = .ok (.invokevirtual 146, 3) := by decide +kernel
theorem dX9_wearerOf_5 : decode cX9_wearerOf 5 = .ok (.ifCond .ne 9, 3) := by decide +kernel
theorem dX9_wearerOf_8 : decode cX9_wearerOf 8 = .ok (.aload_n 0, 1) := by decide +kernel
theorem dX9_wearerOf_9 : decode cX9_wearerOf 9 = .ok (.iconst 0, 1) := by decide +kernel
theorem dX9_wearerOf_10 : decode cX9_wearerOf 10 = .ok (.invokevirtual 74, 3) := by decide +kernel
theorem dX9_wearerOf_13 : decode cX9_wearerOf 13 = .ok (.ireturn, 1) := by decide +kernel
theorem dX9_wearerOf_14 : decode cX9_wearerOf 14 = .ok (.iload_n 2, 1) := by decide +kernel
theorem dX9_wearerOf_15 : decode cX9_wearerOf 15 = .ok (.tableswitch 68 0 3 #[29, 39, 49, 59], 29) := by decide +kernel
theorem dX9_wearerOf_44 : decode cX9_wearerOf 44 = .ok (.aload_n 0, 1) := by decide +kernel
theorem dX9_wearerOf_45 : decode cX9_wearerOf 45 = .ok (.getfield 30, 3) := by decide +kernel
theorem dX9_wearerOf_48 : decode cX9_wearerOf 48 = .ok (.getfield 149, 3) := by decide +kernel
theorem dX9_wearerOf_51 : decode cX9_wearerOf 51 = .ok (.iload_n 1, 1) := by decide +kernel
theorem dX9_wearerOf_52 : decode cX9_wearerOf 52 = .ok (.iaload, 1) := by decide +kernel
theorem dX9_wearerOf_53 : decode cX9_wearerOf 53 = .ok (.ireturn, 1) := by decide +kernel
theorem dX9_wearerOf_54 : decode cX9_wearerOf 54 = .ok (.aload_n 0, 1) := by decide +kernel
theorem dX9_wearerOf_55 : decode cX9_wearerOf 55 = .ok (.getfield 30, 3) := by decide +kernel
theorem dX9_wearerOf_58 : decode cX9_wearerOf 58 = .ok (.getfield 152, 3) := by decide +kernel
theorem dX9_wearerOf_61 : decode cX9_wearerOf 61 = .ok (.iload_n 1, 1) := by decide +kernel
theorem dX9_wearerOf_62 : decode cX9_wearerOf 62 = .ok (.iaload, 1) := by decide +kernel
theorem dX9_wearerOf_63 : decode cX9_wearerOf 63 = .ok (.ireturn, 1) := by decide +kernel
theorem dX9_wearerOf_64 : decode cX9_wearerOf 64 = .ok (.aload_n 0, 1) := by decide +kernel
theorem dX9_wearerOf_65 : decode cX9_wearerOf 65 = .ok (.getfield 30, 3) := by decide +kernel
theorem dX9_wearerOf_68 : decode cX9_wearerOf 68 = .ok (.getfield 155, 3) := by decide +kernel
theorem dX9_wearerOf_71 : decode cX9_wearerOf 71 = .ok (.iload_n 1, 1) := by decide +kernel
theorem dX9_wearerOf_72 : decode cX9_wearerOf 72 = .ok (.iaload, 1) := by decide +kernel
theorem dX9_wearerOf_73 : decode cX9_wearerOf 73 = .ok (.ireturn, 1) := by decide +kernel
theorem dX9_wearerOf_74 : decode cX9_wearerOf 74 = .ok (.aload_n 0, 1) := by decide +kernel
theorem dX9_wearerOf_75 : decode cX9_wearerOf 75 = .ok (.getfield 30, 3) := by decide +kernel
theorem dX9_wearerOf_78 : decode cX9_wearerOf 78 = .ok (.iload_n 1, 1) := by decide +kernel
theorem dX9_wearerOf_79 : decode cX9_wearerOf 79 = .ok (.invokevirtual 158, 3) := by decide +kernel
theorem dX9_wearerOf_82 : decode cX9_wearerOf 82 = .ok (.ireturn, 1) := by decide +kernel
theorem dX9_wearerOf_83 : decode cX9_wearerOf 83 = .ok (.aload_n 0, 1) := by decide +kernel
theorem dX9_wearerOf_84 : decode cX9_wearerOf 84 = .ok (.iconst 0, 1) := by decide +kernel
theorem dX9_wearerOf_85 : decode cX9_wearerOf 85 = .ok (.invokevirtual 74, 3) := by decide +kernel
theorem dX9_wearerOf_88 : decode cX9_wearerOf 88 = .ok (.ireturn, 1) := by decide +kernel
theorem dX9_give_0 : decode cX9_give 0 = .ok (.aload_n 0, 1) := by decide +kernel
theorem dX9_give_1 : decode cX9_give 1 = .ok (.iload_n 1, 1) := by decide +kernel
theorem dX9_give_2 : decode cX9_give 2 = .ok (.invokevirtual 146, 3) := by decide +kernel
theorem dX9_give_5 : decode cX9_give 5 = .ok (.ifCond .ne 9, 3) := by decide +kernel
theorem dX9_give_8 : decode cX9_give 8 = .ok (.aload_n 0, 1) := by decide +kernel
theorem dX9_give_9 : decode cX9_give 9 = .ok (.iconst 0, 1) := by decide +kernel
theorem dX9_give_10 : decode cX9_give 10 = .ok (.invokevirtual 74, 3) := by decide +kernel
theorem dX9_give_13 : decode cX9_give 13 = .ok (.ireturn, 1) := by decide +kernel
theorem dX9_give_14 : decode cX9_give 14 = .ok (.iload_n 2, 1) := by decide +kernel
theorem dX9_give_15 : decode cX9_give 15 = .ok (.ifCond .ne 38, 3) := by decide +kernel
theorem dX9_give_18 : decode cX9_give 18 = .ok (.iload_n 3, 1) := by decide +kernel
theorem dX9_give_19 : decode cX9_give 19 = .ok (.iconst 0, 1) := by decide +kernel
theorem dX9_give_20 : decode cX9_give 20 = .ok (.sipush 9999, 3) := by decide +kernel
theorem dX9_give_23 : decode cX9_give 23 = .ok (.invokestatic 70, 3) := by decide +kernel
theorem dX9_give_26 : decode cX9_give 26 = .ok (.ifCond .eq 27, 3) := by decide +kernel
theorem dX9_give_29 : decode cX9_give 29 = .ok (.aload_n 0, 1) := by decide +kernel
theorem dX9_give_30 : decode cX9_give 30 = .ok (.getfield 30, 3) := by decide +kernel
theorem dX9_give_33 : decode cX9_give 33 = .ok (.getfield 149, 3) := by decide +kernel
theorem dX9_give_36 : decode cX9_give 36 = .ok (.iload_n 1, 1) := by decide +kernel
theorem dX9_give_37 : decode cX9_give 37 = .ok (.iaload, 1) := by decide +kernel
theorem dX9_give_38 : decode cX9_give 38 = .ok (.istore 4, 2) := by decide +kernel
theorem dX9_give_40 : decode cX9_give 40 = .ok (.aload_n 0, 1) := by decide +kernel
theorem dX9_give_41 : decode cX9_give 41 = .ok (.getfield 30, 3) := by decide +kernel
theorem dX9_give_44 : decode cX9_give 44 = .ok (.getfield 149, 3) := by decide +kernel
theorem dX9_give_47 : decode cX9_give 47 = .ok (.iload_n 1, 1) := by decide +kernel
theorem dX9_give_48 : decode cX9_give 48 = .ok (.iload_n 3, 1) := by decide +kernel
theorem dX9_give_49 : decode cX9_give 49 = .ok (.iastore, 1) := by decide +kernel
theorem dX9_give_50 : decode cX9_give 50 = .ok (.iload 4, 2) := by decide +kernel
theorem dX9_give_52 : decode cX9_give 52 = .ok (.ireturn, 1) := by decide +kernel
theorem dX9_give_53 : decode cX9_give 53 = .ok (.iload_n 2, 1) := by decide +kernel
theorem dX9_give_54 : decode cX9_give 54 = .ok (.iconst 1, 1) := by decide +kernel
theorem dX9_give_55 : decode cX9_give 55 = .ok (.if_icmp .ne 34, 3) := by decide +kernel
theorem dX9_give_58 : decode cX9_give 58 = .ok (.iload_n 3, 1) := by decide +kernel
theorem dX9_give_59 : decode cX9_give 59 = .ok (.invokestatic 66, 3) := by decide +kernel
theorem dX9_give_62 : decode cX9_give 62 = .ok (.ifCond .eq 27, 3) := by decide +kernel
theorem dX9_give_65 : decode cX9_give 65 = .ok (.aload_n 0, 1) := by decide +kernel
theorem dX9_give_66 : decode cX9_give 66 = .ok (.getfield 30, 3) := by decide +kernel
theorem dX9_give_69 : decode cX9_give 69 = .ok (.getfield 152, 3) := by decide +kernel
theorem dX9_give_72 : decode cX9_give 72 = .ok (.iload_n 1, 1) := by decide +kernel
theorem dX9_give_73 : decode cX9_give 73 = .ok (.iaload, 1) := by decide +kernel
theorem dX9_give_74 : decode cX9_give 74 = .ok (.istore 4, 2) := by decide +kernel
theorem dX9_give_76 : decode cX9_give 76 = .ok (.aload_n 0, 1) := by decide +kernel
theorem dX9_give_77 : decode cX9_give 77 = .ok (.getfield 30, 3) := by decide +kernel
theorem dX9_give_80 : decode cX9_give 80 = .ok (.getfield 152, 3) := by decide +kernel
theorem dX9_give_83 : decode cX9_give 83 = .ok (.iload_n 1, 1) := by decide +kernel
theorem dX9_give_84 : decode cX9_give 84 = .ok (.iload_n 3, 1) := by decide +kernel
theorem dX9_give_85 : decode cX9_give 85 = .ok (.iastore, 1) := by decide +kernel
theorem dX9_give_86 : decode cX9_give 86 = .ok (.iload 4, 2) := by decide +kernel
theorem dX9_give_88 : decode cX9_give 88 = .ok (.ireturn, 1) := by decide +kernel
theorem dX9_give_89 : decode cX9_give 89 = .ok (.aload_n 0, 1) := by decide +kernel
theorem dX9_give_90 : decode cX9_give 90 = .ok (.iconst 0, 1) := by decide +kernel
theorem dX9_give_91 : decode cX9_give 91 = .ok (.invokevirtual 74, 3) := by decide +kernel
theorem dX9_give_94 : decode cX9_give 94 = .ok (.ireturn, 1) := by decide +kernel
theorem dX9_hire_0 : decode cX9_hire 0 = .ok (.aload_n 0, 1) := by decide +kernel
theorem dX9_hire_1 : decode cX9_hire 1 = .ok (.iload_n 1, 1) := by decide +kernel
theorem dX9_hire_2 : decode cX9_hire 2 = .ok (.invokevirtual 146, 3) := by decide +kernel
theorem dX9_hire_5 : decode cX9_hire 5 = .ok (.ifCond .eq 11, 3) := by decide +kernel
theorem dX9_hire_8 : decode cX9_hire 8 = .ok (.aload_n 0, 1) := by decide +kernel
theorem dX9_hire_9 : decode cX9_hire 9 = .ok (.iload_n 2, 1) := by decide +kernel
theorem dX9_hire_10 : decode cX9_hire 10 = .ok (.invokevirtual 81, 3) := by decide +kernel
theorem dX9_hire_13 : decode cX9_hire 13 = .ok (.ifCond .ne 9, 3) := by decide +kernel
theorem dX9_hire_16 : decode cX9_hire 16 = .ok (.aload_n 0, 1) := by decide +kernel
theorem dX9_hire_17 : decode cX9_hire 17 = .ok (.iconst 0, 1) := by decide +kernel
theorem dX9_hire_18 : decode cX9_hire 18 = .ok (.invokevirtual 74, 3) := by decide +kernel
theorem dX9_hire_21 : decode cX9_hire 21 = .ok (.ireturn, 1) := by decide +kernel
theorem dX9_hire_22 : decode cX9_hire 22 = .ok (.aload_n 0, 1) := by decide +kernel
theorem dX9_hire_23 : decode cX9_hire 23 = .ok (.getfield 30, 3) := by decide +kernel
theorem dX9_hire_26 : decode cX9_hire 26 = .ok (.getfield 155, 3) := by decide +kernel
theorem dX9_hire_29 : decode cX9_hire 29 = .ok (.iload_n 1, 1) := by decide +kernel
theorem dX9_hire_30 : decode cX9_hire 30 = .ok (.iaload, 1) := by decide +kernel
theorem dX9_hire_31 : decode cX9_hire 31 = .ok (.iconst (-1), 1) := by decide +kernel
theorem dX9_hire_32 : decode cX9_hire 32 = .ok (.if_icmp .ne 16, 3) := by decide +kernel
theorem dX9_hire_35 : decode cX9_hire 35 = .ok (.aload_n 0, 1) := by decide +kernel
theorem dX9_hire_36 : decode cX9_hire 36 = .ok (.getfield 30, 3) := by decide +kernel
theorem dX9_hire_39 : decode cX9_hire 39 = .ok (.getfield 123, 3) := by decide +kernel
theorem dX9_hire_42 : decode cX9_hire 42 = .ok (.iload_n 2, 1) := by decide +kernel
theorem dX9_hire_43 : decode cX9_hire 43 = .ok (.iaload, 1) := by decide +kernel
theorem dX9_hire_44 : decode cX9_hire 44 = .ok (.iconst (-1), 1) := by decide +kernel
theorem dX9_hire_45 : decode cX9_hire 45 = .ok (.if_icmp .eq 9, 3) := by decide +kernel
theorem dX9_hire_48 : decode cX9_hire 48 = .ok (.aload_n 0, 1) := by decide +kernel
theorem dX9_hire_49 : decode cX9_hire 49 = .ok (.iconst 4, 1) := by decide +kernel
theorem dX9_hire_50 : decode cX9_hire 50 = .ok (.invokevirtual 74, 3) := by decide +kernel
theorem dX9_hire_53 : decode cX9_hire 53 = .ok (.ireturn, 1) := by decide +kernel
theorem dX9_hire_54 : decode cX9_hire 54 = .ok (.aload_n 0, 1) := by decide +kernel
theorem dX9_hire_55 : decode cX9_hire 55 = .ok (.getfield 30, 3) := by decide +kernel
theorem dX9_hire_58 : decode cX9_hire 58 = .ok (.iload_n 1, 1) := by decide +kernel
theorem dX9_hire_59 : decode cX9_hire 59 = .ok (.iload_n 2, 1) := by decide +kernel
theorem dX9_hire_60 : decode cX9_hire 60 = .ok (.invokevirtual 161, 3) := by decide +kernel
theorem dX9_hire_63 : decode cX9_hire 63 = .ok (.aload_n 0, 1) := by decide +kernel
theorem dX9_hire_64 : decode cX9_hire 64 = .ok (.getfield 30, 3) := by decide +kernel
theorem dX9_hire_67 : decode cX9_hire 67 = .ok (.iload_n 2, 1) := by decide +kernel
theorem dX9_hire_68 : decode cX9_hire 68 = .ok (.invokevirtual 126, 3) := by decide +kernel
theorem dX9_hire_71 : decode cX9_hire 71 = .ok (.ireturn, 1) := by decide +kernel
theorem dX9_back_0 : decode cX9_back 0 = .ok (.aload_n 0, 1) := by decide +kernel
theorem dX9_back_1 : decode cX9_back 1 = .ok (.iload_n 1, 1) := by decide +kernel
theorem dX9_back_2 : decode cX9_back 2 = .ok (.invokevirtual 81, 3) := by decide +kernel
theorem dX9_back_5 : decode cX9_back 5 = .ok (.ifCond .ne 9, 3) := by decide +kernel
theorem dX9_back_8 : decode cX9_back 8 = .ok (.aload_n 0, 1) := by decide +kernel
theorem dX9_back_9 : decode cX9_back 9 = .ok (.iconst 0, 1) := by decide +kernel
theorem dX9_back_10 : decode cX9_back 10 = .ok (.invokevirtual 74, 3) := by decide +kernel
theorem dX9_back_13 : decode cX9_back 13 = .ok (.ireturn, 1) := by decide +kernel
theorem dX9_back_14 : decode cX9_back 14 = .ok (.aload_n 0, 1) := by decide +kernel
theorem dX9_back_15 : decode cX9_back 15 = .ok (.getfield 30, 3) := by decide +kernel
theorem dX9_back_18 : decode cX9_back 18 = .ok (.getfield 123, 3) := by decide +kernel
theorem dX9_back_21 : decode cX9_back 21 = .ok (.iload_n 1, 1) := by decide +kernel
theorem dX9_back_22 : decode cX9_back 22 = .ok (.iaload, 1) := by decide +kernel
theorem dX9_back_23 : decode cX9_back 23 = .ok (.istore_n 2, 1) := by decide +kernel
theorem dX9_back_24 : decode cX9_back 24 = .ok (.iload_n 2, 1) := by decide +kernel
theorem dX9_back_25 : decode cX9_back 25 = .ok (.iconst (-1), 1) := by decide +kernel
theorem dX9_back_26 : decode cX9_back 26 = .ok (.if_icmp .ne 9, 3) := by decide +kernel
theorem dX9_back_29 : decode cX9_back 29 = .ok (.aload_n 0, 1) := by decide +kernel
theorem dX9_back_30 : decode cX9_back 30 = .ok (.iconst 4, 1) := by decide +kernel
theorem dX9_back_31 : decode cX9_back 31 = .ok (.invokevirtual 74, 3) := by decide +kernel
theorem dX9_back_34 : decode cX9_back 34 = .ok (.ireturn, 1) := by decide +kernel
theorem dX9_back_35 : decode cX9_back 35 = .ok (.aload_n 0, 1) := by decide +kernel
theorem dX9_back_36 : decode cX9_back 36 = .ok (.getfield 30, 3) := by decide +kernel
theorem dX9_back_39 : decode cX9_back 39 = .ok (.iload_n 2, 1) := by decide +kernel
theorem dX9_back_40 : decode cX9_back 40 = .ok (.iload_n 1, 1) := by decide +kernel
theorem dX9_back_41 : decode cX9_back 41 = .ok (.invokevirtual 165, 3) := by decide +kernel
theorem dX9_back_44 : decode cX9_back 44 = .ok (.iload_n 2, 1) := by decide +kernel
theorem dX9_back_45 : decode cX9_back 45 = .ok (.ireturn, 1) := by decide +kernel
theorem dX9_nights_0 : decode cX9_nights 0 = .ok (.iload_n 1, 1) := by decide +kernel
theorem dX9_nights_1 : decode cX9_nights 1 = .ok (.iconst 1, 1) := by decide +kernel
theorem dX9_nights_2 : decode cX9_nights 2 = .ok (.bipush 100, 2) := by decide +kernel
theorem dX9_nights_4 : decode cX9_nights 4 = .ok (.invokestatic 70, 3) := by decide +kernel
theorem dX9_nights_7 : decode cX9_nights 7 = .ok (.ifCond .ne 9, 3) := by decide +kernel
theorem dX9_nights_10 : decode cX9_nights 10 = .ok (.aload_n 0, 1) := by decide +kernel
theorem dX9_nights_11 : decode cX9_nights 11 = .ok (.iconst 0, 1) := by decide +kernel
theorem dX9_nights_12 : decode cX9_nights 12 = .ok (.invokevirtual 74, 3) := by decide +kernel
theorem dX9_nights_15 : decode cX9_nights 15 = .ok (.ireturn, 1) := by decide +kernel
theorem dX9_nights_16 : decode cX9_nights 16 = .ok (.aload_n 0, 1) := by decide +kernel
theorem dX9_nights_17 : decode cX9_nights 17 = .ok (.getfield 30, 3) := by decide +kernel
theorem dX9_nights_20 : decode cX9_nights 20 = .ok (.getfield 90, 3) := by decide +kernel
theorem dX9_nights_23 : decode cX9_nights 23 = .ok (.iload_n 1, 1) := by decide +kernel
theorem dX9_nights_24 : decode cX9_nights 24 = .ok (.iadd, 1) := by decide +kernel
theorem dX9_nights_25 : decode cX9_nights 25 = .ok (.ldc 168, 2) := by decide +kernel
theorem dX9_nights_27 : decode cX9_nights 27 = .ok (.if_icmp .le 9, 3) := by decide +kernel
theorem dX9_nights_30 : decode cX9_nights 30 = .ok (.aload_n 0, 1) := by decide +kernel
theorem dX9_nights_31 : decode cX9_nights 31 = .ok (.iconst 4, 1) := by decide +kernel
theorem dX9_nights_32 : decode cX9_nights 32 = .ok (.invokevirtual 74, 3) := by decide +kernel
theorem dX9_nights_35 : decode cX9_nights 35 = .ok (.ireturn, 1) := by decide +kernel
theorem dX9_nights_36 : decode cX9_nights 36 = .ok (.aload_n 0, 1) := by decide +kernel
theorem dX9_nights_37 : decode cX9_nights 37 = .ok (.getfield 30, 3) := by decide +kernel
theorem dX9_nights_40 : decode cX9_nights 40 = .ok (.iload_n 1, 1) := by decide +kernel
theorem dX9_nights_41 : decode cX9_nights 41 = .ok (.invokevirtual 169, 3) := by decide +kernel
theorem dX9_nights_44 : decode cX9_nights 44 = .ok (.aload_n 0, 1) := by decide +kernel
theorem dX9_nights_45 : decode cX9_nights 45 = .ok (.getfield 30, 3) := by decide +kernel
theorem dX9_nights_48 : decode cX9_nights 48 = .ok (.invokevirtual 105, 3) := by decide +kernel
theorem dX9_nights_51 : decode cX9_nights 51 = .ok (.ireturn, 1) := by decide +kernel
theorem dX9_on_0 : decode cX9_on 0 = .ok (.aload_n 0, 1) := by decide +kernel
theorem dX9_on_1 : decode cX9_on 1 = .ok (.iload_n 1, 1) := by decide +kernel
theorem dX9_on_2 : decode cX9_on 2 = .ok (.invokevirtual 146, 3) := by decide +kernel
theorem dX9_on_5 : decode cX9_on 5 = .ok (.ifCond .eq 23, 3) := by decide +kernel
theorem dX9_on_8 : decode cX9_on 8 = .ok (.iload_n 2, 1) := by decide +kernel
theorem dX9_on_9 : decode cX9_on 9 = .ok (.iconst 0, 1) := by decide +kernel
theorem dX9_on_10 : decode cX9_on 10 = .ok (.sipush 200, 3) := by decide +kernel
theorem dX9_on_13 : decode cX9_on 13 = .ok (.invokestatic 70, 3) := by decide +kernel
theorem dX9_on_16 : decode cX9_on 16 = .ok (.ifCond .eq 12, 3) := by decide +kernel
theorem dX9_on_19 : decode cX9_on 19 = .ok (.iload_n 3, 1) := by decide +kernel
theorem dX9_on_20 : decode cX9_on 20 = .ok (.iconst 0, 1) := by decide +kernel
theorem dX9_on_21 : decode cX9_on 21 = .ok (.iconst 1, 1) := by decide +kernel
theorem dX9_on_22 : decode cX9_on 22 = .ok (.invokestatic 70, 3) := by decide +kernel
theorem dX9_on_25 : decode cX9_on 25 = .ok (.ifCond .ne 9, 3) := by decide +kernel
theorem dX9_on_28 : decode cX9_on 28 = .ok (.aload_n 0, 1) := by decide +kernel
theorem dX9_on_29 : decode cX9_on 29 = .ok (.iconst 0, 1) := by decide +kernel
theorem dX9_on_30 : decode cX9_on 30 = .ok (.invokevirtual 74, 3) := by decide +kernel
theorem dX9_on_33 : decode cX9_on 33 = .ok (.ireturn, 1) := by decide +kernel
theorem dX9_on_34 : decode cX9_on 34 = .ok (.aload_n 0, 1) := by decide +kernel
theorem dX9_on_35 : decode cX9_on 35 = .ok (.getfield 36, 3) := by decide +kernel
theorem dX9_on_38 : decode cX9_on 38 = .ok (.aload_n 0, 1) := by decide +kernel
theorem dX9_on_39 : decode cX9_on 39 = .ok (.getfield 30, 3) := by decide +kernel
theorem dX9_on_42 : decode cX9_on 42 = .ok (.invokevirtual 173, 3) := by decide +kernel
theorem dX9_on_45 : decode cX9_on 45 = .ok (.aload_n 0, 1) := by decide +kernel
theorem dX9_on_46 : decode cX9_on 46 = .ok (.getfield 36, 3) := by decide +kernel
theorem dX9_on_49 : decode cX9_on 49 = .ok (.iload_n 1, 1) := by decide +kernel
theorem dX9_on_50 : decode cX9_on 50 = .ok (.iload_n 2, 1) := by decide +kernel
theorem dX9_on_51 : decode cX9_on 51 = .ok (.invokevirtual 177, 3) := by decide +kernel
theorem dX9_on_54 : decode cX9_on 54 = .ok (.iload_n 3, 1) := by decide +kernel
theorem dX9_on_55 : decode cX9_on 55 = .ok (.ifCond .ne 15, 3) := by decide +kernel
theorem dX9_on_58 : decode cX9_on 58 = .ok (.aload_n 0, 1) := by decide +kernel
theorem dX9_on_59 : decode cX9_on 59 = .ok (.getfield 36, 3) := by decide +kernel
theorem dX9_on_62 : decode cX9_on 62 = .ok (.getfield 149, 3) := by decide +kernel
theorem dX9_on_65 : decode cX9_on 65 = .ok (.iload_n 1, 1) := by decide +kernel
theorem dX9_on_66 : decode cX9_on 66 = .ok (.iaload, 1) := by decide +kernel
theorem dX9_on_67 : decode cX9_on 67 = .ok (.goto 12, 3) := by decide +kernel
theorem dX9_on_70 : decode cX9_on 70 = .ok (.aload_n 0, 1) := by decide +kernel
theorem dX9_on_71 : decode cX9_on 71 = .ok (.getfield 36, 3) := by decide +kernel
theorem dX9_on_74 : decode cX9_on 74 = .ok (.getfield 155, 3) := by decide +kernel
theorem dX9_on_77 : decode cX9_on 77 = .ok (.iload_n 1, 1) := by decide +kernel
theorem dX9_on_78 : decode cX9_on 78 = .ok (.iaload, 1) := by decide +kernel
theorem dX9_on_79 : decode cX9_on 79 = .ok (.ireturn, 1) := by decide +kernel
theorem dX9_then_0 : decode cX9_then 0 = .ok (.aload_n 0, 1) := by decide +kernel
theorem dX9_then_1 : decode cX9_then 1 = .ok (.iload_n 1, 1) := by decide +kernel
theorem dX9_then_2 : decode cX9_then 2 = .ok (.invokevirtual 81, 3) := by decide +kernel
theorem dX9_then_5 : decode cX9_then 5 = .ok (.ifCond .eq 23, 3) := by decide +kernel
theorem dX9_then_8 : decode cX9_then 8 = .ok (.iload_n 2, 1) := by decide +kernel
theorem dX9_then_9 : decode cX9_then 9 = .ok (.iconst 0, 1) := by decide +kernel
theorem dX9_then_10 : decode cX9_then 10 = .ok (.sipush 200, 3) := by decide +kernel
theorem dX9_then_13 : decode cX9_then 13 = .ok (.invokestatic 70, 3) := by decide +kernel
theorem dX9_then_16 : decode cX9_then 16 = .ok (.ifCond .eq 12, 3) := by decide +kernel
theorem dX9_then_19 : decode cX9_then 19 = .ok (.iload_n 3, 1) := by decide +kernel
theorem dX9_then_20 : decode cX9_then 20 = .ok (.iconst 0, 1) := by decide +kernel
theorem dX9_then_21 : decode cX9_then 21 = .ok (.iconst 1, 1) := by decide +kernel
theorem dX9_then_22 : decode cX9_then 22 = .ok (.invokestatic 70, 3) := by decide +kernel
theorem dX9_then_25 : decode cX9_then 25 = .ok (.ifCond .ne 9, 3) := by decide +kernel
theorem dX9_then_28 : decode cX9_then 28 = .ok (.aload_n 0, 1) := by decide +kernel
theorem dX9_then_29 : decode cX9_then 29 = .ok (.iconst 0, 1) := by decide +kernel
theorem dX9_then_30 : decode cX9_then 30 = .ok (.invokevirtual 74, 3) := by decide +kernel
theorem dX9_then_33 : decode cX9_then 33 = .ok (.ireturn, 1) := by decide +kernel
theorem dX9_then_34 : decode cX9_then 34 = .ok (.aload_n 0, 1) := by decide +kernel
theorem dX9_then_35 : decode cX9_then 35 = .ok (.getfield 36, 3) := by decide +kernel
theorem dX9_then_38 : decode cX9_then 38 = .ok (.aload_n 0, 1) := by decide +kernel
theorem dX9_then_39 : decode cX9_then 39 = .ok (.getfield 30, 3) := by decide +kernel
theorem dX9_then_42 : decode cX9_then 42 = .ok (.invokevirtual 173, 3) := by decide +kernel
theorem dX9_then_45 : decode cX9_then 45 = .ok (.aload_n 0, 1) := by decide +kernel
theorem dX9_then_46 : decode cX9_then 46 = .ok (.getfield 36, 3) := by decide +kernel
theorem dX9_then_49 : decode cX9_then 49 = .ok (.iload_n 2, 1) := by decide +kernel
theorem dX9_then_50 : decode cX9_then 50 = .ok (.invokevirtual 169, 3) := by decide +kernel
theorem dX9_then_53 : decode cX9_then 53 = .ok (.iload_n 3, 1) := by decide +kernel
theorem dX9_then_54 : decode cX9_then 54 = .ok (.ifCond .ne 15, 3) := by decide +kernel
theorem dX9_then_57 : decode cX9_then 57 = .ok (.aload_n 0, 1) := by decide +kernel
theorem dX9_then_58 : decode cX9_then 58 = .ok (.getfield 36, 3) := by decide +kernel
theorem dX9_then_61 : decode cX9_then 61 = .ok (.getfield 117, 3) := by decide +kernel
theorem dX9_then_64 : decode cX9_then 64 = .ok (.iload_n 1, 1) := by decide +kernel
theorem dX9_then_65 : decode cX9_then 65 = .ok (.iaload, 1) := by decide +kernel
theorem dX9_then_66 : decode cX9_then 66 = .ok (.goto 12, 3) := by decide +kernel
theorem dX9_then_69 : decode cX9_then 69 = .ok (.aload_n 0, 1) := by decide +kernel
theorem dX9_then_70 : decode cX9_then 70 = .ok (.getfield 36, 3) := by decide +kernel
theorem dX9_then_73 : decode cX9_then 73 = .ok (.getfield 120, 3) := by decide +kernel
theorem dX9_then_76 : decode cX9_then 76 = .ok (.iload_n 1, 1) := by decide +kernel
theorem dX9_then_77 : decode cX9_then 77 = .ok (.iaload, 1) := by decide +kernel
theorem dX9_then_78 : decode cX9_then 78 = .ok (.ireturn, 1) := by decide +kernel
theorem dX9_fond_0 : decode cX9_fond 0 = .ok (.iload_n 1, 1) := by decide +kernel
theorem dX9_fond_1 : decode cX9_fond 1 = .ok (.invokestatic 66, 3) := by decide +kernel
theorem dX9_fond_4 : decode cX9_fond 4 = .ok (.ifCond .eq 14, 3) := by decide +kernel
theorem dX9_fond_7 : decode cX9_fond 7 = .ok (.iload_n 2, 1) := by decide +kernel
theorem dX9_fond_8 : decode cX9_fond 8 = .ok (.iconst 0, 1) := by decide +kernel
theorem dX9_fond_9 : decode cX9_fond 9 = .ok (.sipush 200, 3) := by decide +kernel
theorem dX9_fond_12 : decode cX9_fond 12 = .ok (.invokestatic 70, 3) := by decide +kernel
theorem dX9_fond_15 : decode cX9_fond 15 = .ok (.ifCond .ne 9, 3) := by decide +kernel
theorem dX9_fond_18 : decode cX9_fond 18 = .ok (.aload_n 0, 1) := by decide +kernel
theorem dX9_fond_19 : decode cX9_fond 19 = .ok (.iconst 0, 1) := by decide +kernel
theorem dX9_fond_20 : decode cX9_fond 20 = .ok (.invokevirtual 74, 3) := by decide +kernel
theorem dX9_fond_23 : decode cX9_fond 23 = .ok (.ireturn, 1) := by decide +kernel
theorem dX9_fond_24 : decode cX9_fond 24 = .ok (.aload_n 0, 1) := by decide +kernel
theorem dX9_fond_25 : decode cX9_fond 25 = .ok (.getfield 36, 3) := by decide +kernel
theorem dX9_fond_28 : decode cX9_fond 28 = .ok (.aload_n 0, 1) := by decide +kernel
theorem dX9_fond_29 : decode cX9_fond 29 = .ok (.getfield 30, 3) := by decide +kernel
theorem dX9_fond_32 : decode cX9_fond 32 = .ok (.invokevirtual 173, 3) := by decide +kernel
theorem dX9_fond_35 : decode cX9_fond 35 = .ok (.aload_n 0, 1) := by decide +kernel
theorem dX9_fond_36 : decode cX9_fond 36 = .ok (.getfield 36, 3) := by decide +kernel
theorem dX9_fond_39 : decode cX9_fond 39 = .ok (.iload_n 2, 1) := by decide +kernel
theorem dX9_fond_40 : decode cX9_fond 40 = .ok (.invokevirtual 169, 3) := by decide +kernel
theorem dX9_fond_43 : decode cX9_fond 43 = .ok (.aload_n 0, 1) := by decide +kernel
theorem dX9_fond_44 : decode cX9_fond 44 = .ok (.getfield 36, 3) := by decide +kernel
theorem dX9_fond_47 : decode cX9_fond 47 = .ok (.getfield 78, 3) := by decide +kernel
theorem dX9_fond_50 : decode cX9_fond 50 = .ok (.iload_n 1, 1) := by decide +kernel
theorem dX9_fond_51 : decode cX9_fond 51 = .ok (.iaload, 1) := by decide +kernel
theorem dX9_fond_52 : decode cX9_fond 52 = .ok (.ireturn, 1) := by decide +kernel
theorem dX9_home_0 : decode cX9_home 0 = .ok (.aload_n 0, 1) := by decide +kernel
theorem dX9_home_1 : decode cX9_home 1 = .ok (.iload_n 1, 1) := by decide +kernel
theorem dX9_home_2 : decode cX9_home 2 = .ok (.invokevirtual 81, 3) := by decide +kernel
theorem dX9_home_5 : decode cX9_home 5 = .ok (.ifCond .ne 9, 3) := by decide +kernel
theorem dX9_home_8 : decode cX9_home 8 = .ok (.aload_n 0, 1) := by decide +kernel
theorem dX9_home_9 : decode cX9_home 9 = .ok (.iconst 0, 1) := by decide +kernel
theorem dX9_home_10 : decode cX9_home 10 = .ok (.invokevirtual 74, 3) := by decide +kernel
theorem dX9_home_13 : decode cX9_home 13 = .ok (.ireturn, 1) := by decide +kernel
theorem dX9_home_14 : decode cX9_home 14 = .ok (.aload_n 0, 1) := by decide +kernel
theorem dX9_home_15 : decode cX9_home 15 = .ok (.getfield 36, 3) := by decide +kernel
theorem dX9_home_18 : decode cX9_home 18 = .ok (.aload_n 0, 1) := by decide +kernel
theorem dX9_home_19 : decode cX9_home 19 = .ok (.getfield 30, 3) := by decide +kernel
theorem dX9_home_22 : decode cX9_home 22 = .ok (.invokevirtual 173, 3) := by decide +kernel
theorem dX9_home_25 : decode cX9_home 25 = .ok (.iconst 0, 1) := by decide +kernel
theorem dX9_home_26 : decode cX9_home 26 = .ok (.istore_n 2, 1) := by decide +kernel
theorem dX9_home_27 : decode cX9_home 27 = .ok (.iload_n 2, 1) := by decide +kernel
theorem dX9_home_28 : decode cX9_home 28 = .ok (.sipush 200, 3) := by decide +kernel
theorem dX9_home_31 : decode cX9_home 31 = .ok (.if_icmp .gt 31, 3) := by decide +kernel
theorem dX9_home_34 : decode cX9_home 34 = .ok (.aload_n 0, 1) := by decide +kernel
theorem dX9_home_35 : decode cX9_home 35 = .ok (.getfield 36, 3) := by decide +kernel
theorem dX9_home_38 : decode cX9_home 38 = .ok (.getfield 123, 3) := by decide +kernel
theorem dX9_home_41 : decode cX9_home 41 = .ok (.iload_n 1, 1) := by decide +kernel
theorem dX9_home_42 : decode cX9_home 42 = .ok (.iaload, 1) := by decide +kernel
theorem dX9_home_43 : decode cX9_home 43 = .ok (.iconst (-1), 1) := by decide +kernel
theorem dX9_home_44 : decode cX9_home 44 = .ok (.if_icmp .ne 5, 3) := by decide +kernel
theorem dX9_home_47 : decode cX9_home 47 = .ok (.iload_n 2, 1) := by decide +kernel
theorem dX9_home_48 : decode cX9_home 48 = .ok (.ireturn, 1) := by decide +kernel
theorem dX9_home_49 : decode cX9_home 49 = .ok (.aload_n 0, 1) := by decide +kernel
theorem dX9_home_50 : decode cX9_home 50 = .ok (.getfield 36, 3) := by decide +kernel
theorem dX9_home_53 : decode cX9_home 53 = .ok (.invokevirtual 180, 3) := by decide +kernel
theorem dX9_home_56 : decode cX9_home 56 = .ok (.iinc 2 1, 3) := by decide +kernel
theorem dX9_home_59 : decode cX9_home 59 = .ok (.goto (-32), 3) := by decide +kernel
theorem dX9_home_62 : decode cX9_home 62 = .ok (.aload_n 0, 1) := by decide +kernel
theorem dX9_home_63 : decode cX9_home 63 = .ok (.iconst 3, 1) := by decide +kernel
theorem dX9_home_64 : decode cX9_home 64 = .ok (.invokevirtual 74, 3) := by decide +kernel
theorem dX9_home_67 : decode cX9_home 67 = .ok (.ireturn, 1) := by decide +kernel
theorem dX9_falls_0 : decode cX9_falls 0 = .ok (.aload_n 0, 1) := by decide +kernel
theorem dX9_falls_1 : decode cX9_falls 1 = .ok (.iload_n 1, 1) := by decide +kernel
theorem dX9_falls_2 : decode cX9_falls 2 = .ok (.invokevirtual 146, 3) := by decide +kernel
theorem dX9_falls_5 : decode cX9_falls 5 = .ok (.ifCond .eq 14, 3) := by decide +kernel
theorem dX9_falls_8 : decode cX9_falls 8 = .ok (.iload_n 2, 1) := by decide +kernel
theorem dX9_falls_9 : decode cX9_falls 9 = .ok (.iconst 0, 1) := by decide +kernel
theorem dX9_falls_10 : decode cX9_falls 10 = .ok (.sipush 9999, 3) := by decide +kernel
theorem dX9_falls_13 : decode cX9_falls 13 = .ok (.invokestatic 70, 3) := by decide +kernel
theorem dX9_falls_16 : decode cX9_falls 16 = .ok (.ifCond .ne 9, 3) := by decide +kernel
theorem dX9_falls_19 : decode cX9_falls 19 = .ok (.aload_n 0, 1) := by decide +kernel
theorem dX9_falls_20 : decode cX9_falls 20 = .ok (.iconst 0, 1) := by decide +kernel
theorem dX9_falls_21 : decode cX9_falls 21 = .ok (.invokevirtual 74, 3) := by decide +kernel
theorem dX9_falls_24 : decode cX9_falls 24 = .ok (.ireturn, 1) := by decide +kernel
theorem dX9_falls_25 : decode cX9_falls 25 = .ok (.aload_n 0, 1) := by decide +kernel
theorem dX9_falls_26 : decode cX9_falls 26 = .ok (.getfield 36, 3) := by decide +kernel
theorem dX9_falls_29 : decode cX9_falls 29 = .ok (.aload_n 0, 1) := by decide +kernel
theorem dX9_falls_30 : decode cX9_falls 30 = .ok (.getfield 30, 3) := by decide +kernel
theorem dX9_falls_33 : decode cX9_falls 33 = .ok (.invokevirtual 173, 3) := by decide +kernel
theorem dX9_falls_36 : decode cX9_falls 36 = .ok (.iconst 0, 1) := by decide +kernel
theorem dX9_falls_37 : decode cX9_falls 37 = .ok (.istore_n 3, 1) := by decide +kernel
theorem dX9_falls_38 : decode cX9_falls 38 = .ok (.iload_n 3, 1) := by decide +kernel
theorem dX9_falls_39 : decode cX9_falls 39 = .ok (.sipush 200, 3) := by decide +kernel
theorem dX9_falls_42 : decode cX9_falls 42 = .ok (.if_icmp .gt 31, 3) := by decide +kernel
theorem dX9_falls_45 : decode cX9_falls 45 = .ok (.aload_n 0, 1) := by decide +kernel
theorem dX9_falls_46 : decode cX9_falls 46 = .ok (.getfield 36, 3) := by decide +kernel
theorem dX9_falls_49 : decode cX9_falls 49 = .ok (.getfield 149, 3) := by decide +kernel
theorem dX9_falls_52 : decode cX9_falls 52 = .ok (.iload_n 1, 1) := by decide +kernel
theorem dX9_falls_53 : decode cX9_falls 53 = .ok (.iaload, 1) := by decide +kernel
theorem dX9_falls_54 : decode cX9_falls 54 = .ok (.iload_n 2, 1) := by decide +kernel
theorem dX9_falls_55 : decode cX9_falls 55 = .ok (.if_icmp .gt 5, 3) := by decide +kernel
theorem dX9_falls_58 : decode cX9_falls 58 = .ok (.iload_n 3, 1) := by decide +kernel
theorem dX9_falls_59 : decode cX9_falls 59 = .ok (.ireturn, 1) := by decide +kernel
theorem dX9_falls_60 : decode cX9_falls 60 = .ok (.aload_n 0, 1) := by decide +kernel
theorem dX9_falls_61 : decode cX9_falls 61 = .ok (.getfield 36, 3) := by decide +kernel
theorem dX9_falls_64 : decode cX9_falls 64 = .ok (.invokevirtual 180, 3) := by decide +kernel
theorem dX9_falls_67 : decode cX9_falls 67 = .ok (.iinc 3 1, 3) := by decide +kernel
theorem dX9_falls_70 : decode cX9_falls 70 = .ok (.goto (-32), 3) := by decide +kernel
theorem dX9_falls_73 : decode cX9_falls 73 = .ok (.aload_n 0, 1) := by decide +kernel
theorem dX9_falls_74 : decode cX9_falls 74 = .ok (.iconst 3, 1) := by decide +kernel
theorem dX9_falls_75 : decode cX9_falls 75 = .ok (.invokevirtual 74, 3) := by decide +kernel
theorem dX9_falls_78 : decode cX9_falls 78 = .ok (.ireturn, 1) := by decide +kernel
theorem dX9_best_0 : decode cX9_best 0 = .ok (.aload_n 0, 1) := by decide +kernel
theorem dX9_best_1 : decode cX9_best 1 = .ok (.iload_n 1, 1) := by decide +kernel
theorem dX9_best_2 : decode cX9_best 2 = .ok (.invokevirtual 146, 3) := by decide +kernel
theorem dX9_best_5 : decode cX9_best 5 = .ok (.ifCond .eq 13, 3) := by decide +kernel
theorem dX9_best_8 : decode cX9_best 8 = .ok (.iload_n 2, 1) := by decide +kernel
theorem dX9_best_9 : decode cX9_best 9 = .ok (.iconst 1, 1) := by decide +kernel
theorem dX9_best_10 : decode cX9_best 10 = .ok (.bipush 60, 2) := by decide +kernel
theorem dX9_best_12 : decode cX9_best 12 = .ok (.invokestatic 70, 3) := by decide +kernel
theorem dX9_best_15 : decode cX9_best 15 = .ok (.ifCond .ne 9, 3) := by decide +kernel
theorem dX9_best_18 : decode cX9_best 18 = .ok (.aload_n 0, 1) := by decide +kernel
theorem dX9_best_19 : decode cX9_best 19 = .ok (.iconst 0, 1) := by decide +kernel
theorem dX9_best_20 : decode cX9_best 20 = .ok (.invokevirtual 74, 3) := by decide +kernel
theorem dX9_best_23 : decode cX9_best 23 = .ok (.ireturn, 1) := by decide +kernel
theorem dX9_best_24 : decode cX9_best 24 = .ok (.aload_n 0, 1) := by decide +kernel
theorem dX9_best_25 : decode cX9_best 25 = .ok (.getfield 30, 3) := by decide +kernel
theorem dX9_best_28 : decode cX9_best 28 = .ok (.getfield 155, 3) := by decide +kernel
theorem dX9_best_31 : decode cX9_best 31 = .ok (.iload_n 1, 1) := by decide +kernel
theorem dX9_best_32 : decode cX9_best 32 = .ok (.iaload, 1) := by decide +kernel
theorem dX9_best_33 : decode cX9_best 33 = .ok (.iconst (-1), 1) := by decide +kernel
theorem dX9_best_34 : decode cX9_best 34 = .ok (.if_icmp .eq 9, 3) := by decide +kernel
theorem dX9_best_37 : decode cX9_best 37 = .ok (.aload_n 0, 1) := by decide +kernel
theorem dX9_best_38 : decode cX9_best 38 = .ok (.iconst 4, 1) := by decide +kernel
theorem dX9_best_39 : decode cX9_best 39 = .ok (.invokevirtual 74, 3) := by decide +kernel
theorem dX9_best_42 : decode cX9_best 42 = .ok (.ireturn, 1) := by decide +kernel
theorem dX9_best_43 : decode cX9_best 43 = .ok (.iconst (-1), 1) := by decide +kernel
theorem dX9_best_44 : decode cX9_best 44 = .ok (.istore_n 3, 1) := by decide +kernel
theorem dX9_best_45 : decode cX9_best 45 = .ok (.iconst (-1), 1) := by decide +kernel
theorem dX9_best_46 : decode cX9_best 46 = .ok (.istore 4, 2) := by decide +kernel
theorem dX9_best_48 : decode cX9_best 48 = .ok (.iconst 0, 1) := by decide +kernel
theorem dX9_best_49 : decode cX9_best 49 = .ok (.istore 5, 2) := by decide +kernel
theorem dX9_best_51 : decode cX9_best 51 = .ok (.iload 5, 2) := by decide +kernel
theorem dX9_best_53 : decode cX9_best 53 = .ok (.aload_n 0, 1) := by decide +kernel
theorem dX9_best_54 : decode cX9_best 54 = .ok (.getfield 30, 3) := by decide +kernel
theorem dX9_best_57 : decode cX9_best 57 = .ok (.getfield 183, 3) := by decide +kernel
theorem dX9_best_60 : decode cX9_best 60 = .ok (.if_icmp .ge 81, 3) := by decide +kernel
theorem dX9_best_63 : decode cX9_best 63 = .ok (.aload_n 0, 1) := by decide +kernel
theorem dX9_best_64 : decode cX9_best 64 = .ok (.getfield 30, 3) := by decide +kernel
theorem dX9_best_67 : decode cX9_best 67 = .ok (.getfield 123, 3) := by decide +kernel
theorem dX9_best_70 : decode cX9_best 70 = .ok (.iload 5, 2) := by decide +kernel
theorem dX9_best_72 : decode cX9_best 72 = .ok (.iaload, 1) := by decide +kernel
theorem dX9_best_73 : decode cX9_best 73 = .ok (.iconst (-1), 1) := by decide +kernel
theorem dX9_best_74 : decode cX9_best 74 = .ok (.if_icmp .ne 61, 3) := by decide +kernel
theorem dX9_best_77 : decode cX9_best 77 = .ok (.aload_n 0, 1) := by decide +kernel
theorem dX9_best_78 : decode cX9_best 78 = .ok (.getfield 36, 3) := by decide +kernel
theorem dX9_best_81 : decode cX9_best 81 = .ok (.aload_n 0, 1) := by decide +kernel
theorem dX9_best_82 : decode cX9_best 82 = .ok (.getfield 30, 3) := by decide +kernel
theorem dX9_best_85 : decode cX9_best 85 = .ok (.invokevirtual 173, 3) := by decide +kernel
theorem dX9_best_88 : decode cX9_best 88 = .ok (.aload_n 0, 1) := by decide +kernel
theorem dX9_best_89 : decode cX9_best 89 = .ok (.getfield 36, 3) := by decide +kernel
theorem dX9_best_92 : decode cX9_best 92 = .ok (.iload_n 1, 1) := by decide +kernel
theorem dX9_best_93 : decode cX9_best 93 = .ok (.iload 5, 2) := by decide +kernel
theorem dX9_best_95 : decode cX9_best 95 = .ok (.invokevirtual 161, 3) := by decide +kernel
theorem dX9_best_98 : decode cX9_best 98 = .ok (.aload_n 0, 1) := by decide +kernel
theorem dX9_best_99 : decode cX9_best 99 = .ok (.getfield 36, 3) := by decide +kernel
theorem dX9_best_102 : decode cX9_best 102 = .ok (.iload_n 1, 1) := by decide +kernel
theorem dX9_best_103 : decode cX9_best 103 = .ok (.iload_n 2, 1) := by decide +kernel
theorem dX9_best_104 : decode cX9_best 104 = .ok (.invokevirtual 177, 3) := by decide +kernel
theorem dX9_best_107 : decode cX9_best 107 = .ok (.aload_n 0, 1) := by decide +kernel
theorem dX9_best_108 : decode cX9_best 108 = .ok (.getfield 36, 3) := by decide +kernel
theorem dX9_best_111 : decode cX9_best 111 = .ok (.getfield 149, 3) := by decide +kernel
theorem dX9_best_114 : decode cX9_best 114 = .ok (.iload_n 1, 1) := by decide +kernel
theorem dX9_best_115 : decode cX9_best 115 = .ok (.iaload, 1) := by decide +kernel
theorem dX9_best_116 : decode cX9_best 116 = .ok (.iload 4, 2) := by decide +kernel
theorem dX9_best_118 : decode cX9_best 118 = .ok (.if_icmp .le 17, 3) := by decide +kernel
theorem dX9_best_121 : decode cX9_best 121 = .ok (.iload 5, 2) := by decide +kernel
theorem dX9_best_123 : decode cX9_best 123 = .ok (.istore_n 3, 1) := by decide +kernel
theorem dX9_best_124 : decode cX9_best 124 = .ok (.aload_n 0, 1) := by decide +kernel
theorem dX9_best_125 : decode cX9_best 125 = .ok (.getfield 36, 3) := by decide +kernel
theorem dX9_best_128 : decode cX9_best 128 = .ok (.getfield 149, 3) := by decide +kernel
theorem dX9_best_131 : decode cX9_best 131 = .ok (.iload_n 1, 1) := by decide +kernel
theorem dX9_best_132 : decode cX9_best 132 = .ok (.iaload, 1) := by decide +kernel
theorem dX9_best_133 : decode cX9_best 133 = .ok (.istore 4, 2) := by decide +kernel
theorem dX9_best_135 : decode cX9_best 135 = .ok (.iinc 5 1, 3) := by decide +kernel
theorem dX9_best_138 : decode cX9_best 138 = .ok (.goto (-87), 3) := by decide +kernel
theorem dX9_best_141 : decode cX9_best 141 = .ok (.iload_n 3, 1) := by decide +kernel
theorem dX9_best_142 : decode cX9_best 142 = .ok (.iconst (-1), 1) := by decide +kernel
theorem dX9_best_143 : decode cX9_best 143 = .ok (.if_icmp .ne 11, 3) := by decide +kernel
theorem dX9_best_146 : decode cX9_best 146 = .ok (.aload_n 0, 1) := by decide +kernel
theorem dX9_best_147 : decode cX9_best 147 = .ok (.iconst 3, 1) := by decide +kernel
theorem dX9_best_148 : decode cX9_best 148 = .ok (.invokevirtual 74, 3) := by decide +kernel
theorem dX9_best_151 : decode cX9_best 151 = .ok (.goto 4, 3) := by decide +kernel
theorem dX9_best_154 : decode cX9_best 154 = .ok (.iload_n 3, 1) := by decide +kernel
theorem dX9_best_155 : decode cX9_best 155 = .ok (.ireturn, 1) := by decide +kernel
theorem dX9_round_0 : decode cX9_round 0 = .ok (.aload_n 0, 1) := by decide +kernel
theorem dX9_round_1 : decode cX9_round 1 = .ok (.iload_n 1, 1) := by decide +kernel
theorem dX9_round_2 : decode cX9_round 2 = .ok (.invokevirtual 146, 3) := by decide +kernel
theorem dX9_round_5 : decode cX9_round 5 = .ok (.ifCond .eq 13, 3) := by decide +kernel
theorem dX9_round_8 : decode cX9_round 8 = .ok (.iload_n 2, 1) := by decide +kernel
theorem dX9_round_9 : decode cX9_round 9 = .ok (.iconst 1, 1) := by decide +kernel
theorem dX9_round_10 : decode cX9_round 10 = .ok (.bipush 60, 2) := by decide +kernel
theorem dX9_round_12 : decode cX9_round 12 = .ok (.invokestatic 70, 3) := by decide +kernel
theorem dX9_round_15 : decode cX9_round 15 = .ok (.ifCond .ne 9, 3) := by decide +kernel
theorem dX9_round_18 : decode cX9_round 18 = .ok (.aload_n 0, 1) := by decide +kernel
theorem dX9_round_19 : decode cX9_round 19 = .ok (.iconst 0, 1) := by decide +kernel
theorem dX9_round_20 : decode cX9_round 20 = .ok (.invokevirtual 74, 3) := by decide +kernel
theorem dX9_round_23 : decode cX9_round 23 = .ok (.ireturn, 1) := by decide +kernel
theorem dX9_round_24 : decode cX9_round 24 = .ok (.iconst 0, 1) := by decide +kernel
theorem dX9_round_25 : decode cX9_round 25 = .ok (.istore_n 3, 1) := by decide +kernel
theorem dX9_round_26 : decode cX9_round 26 = .ok (.iconst (-1), 1) := by decide +kernel
theorem dX9_round_27 : decode cX9_round 27 = .ok (.istore 4, 2) := by decide +kernel
theorem dX9_round_29 : decode cX9_round 29 = .ok (.iconst 0, 1) := by decide +kernel
theorem dX9_round_30 : decode cX9_round 30 = .ok (.istore 5, 2) := by decide +kernel
theorem dX9_round_32 : decode cX9_round 32 = .ok (.iload 5, 2) := by decide +kernel
theorem dX9_round_34 : decode cX9_round 34 = .ok (.bipush 6, 2) := by decide +kernel
theorem dX9_round_36 : decode cX9_round 36 = .ok (.if_icmp .ge 68, 3) := by decide +kernel
theorem dX9_round_39 : decode cX9_round 39 = .ok (.aload_n 0, 1) := by decide +kernel
theorem dX9_round_40 : decode cX9_round 40 = .ok (.getfield 36, 3) := by decide +kernel
theorem dX9_round_43 : decode cX9_round 43 = .ok (.aload_n 0, 1) := by decide +kernel
theorem dX9_round_44 : decode cX9_round 44 = .ok (.getfield 30, 3) := by decide +kernel
theorem dX9_round_47 : decode cX9_round 47 = .ok (.invokevirtual 173, 3) := by decide +kernel
theorem dX9_round_50 : decode cX9_round 50 = .ok (.aload_n 0, 1) := by decide +kernel
theorem dX9_round_51 : decode cX9_round 51 = .ok (.getfield 36, 3) := by decide +kernel
theorem dX9_round_54 : decode cX9_round 54 = .ok (.getfield 152, 3) := by decide +kernel
theorem dX9_round_57 : decode cX9_round 57 = .ok (.iload_n 1, 1) := by decide +kernel
theorem dX9_round_58 : decode cX9_round 58 = .ok (.iload 5, 2) := by decide +kernel
theorem dX9_round_60 : decode cX9_round 60 = .ok (.iastore, 1) := by decide +kernel
theorem dX9_round_61 : decode cX9_round 61 = .ok (.aload_n 0, 1) := by decide +kernel
theorem dX9_round_62 : decode cX9_round 62 = .ok (.getfield 36, 3) := by decide +kernel
theorem dX9_round_65 : decode cX9_round 65 = .ok (.iload_n 1, 1) := by decide +kernel
theorem dX9_round_66 : decode cX9_round 66 = .ok (.iload_n 2, 1) := by decide +kernel
theorem dX9_round_67 : decode cX9_round 67 = .ok (.invokevirtual 177, 3) := by decide +kernel
theorem dX9_round_70 : decode cX9_round 70 = .ok (.aload_n 0, 1) := by decide +kernel
theorem dX9_round_71 : decode cX9_round 71 = .ok (.getfield 36, 3) := by decide +kernel
theorem dX9_round_74 : decode cX9_round 74 = .ok (.getfield 149, 3) := by decide +kernel
theorem dX9_round_77 : decode cX9_round 77 = .ok (.iload_n 1, 1) := by decide +kernel
theorem dX9_round_78 : decode cX9_round 78 = .ok (.iaload, 1) := by decide +kernel
theorem dX9_round_79 : decode cX9_round 79 = .ok (.iload 4, 2) := by decide +kernel
theorem dX9_round_81 : decode cX9_round 81 = .ok (.if_icmp .le 17, 3) := by decide +kernel
theorem dX9_round_84 : decode cX9_round 84 = .ok (.iload 5, 2) := by decide +kernel
theorem dX9_round_86 : decode cX9_round 86 = .ok (.istore_n 3, 1) := by decide +kernel
theorem dX9_round_87 : decode cX9_round 87 = .ok (.aload_n 0, 1) := by decide +kernel
theorem dX9_round_88 : decode cX9_round 88 = .ok (.getfield 36, 3) := by decide +kernel
theorem dX9_round_91 : decode cX9_round 91 = .ok (.getfield 149, 3) := by decide +kernel
theorem dX9_round_94 : decode cX9_round 94 = .ok (.iload_n 1, 1) := by decide +kernel
theorem dX9_round_95 : decode cX9_round 95 = .ok (.iaload, 1) := by decide +kernel
theorem dX9_round_96 : decode cX9_round 96 = .ok (.istore 4, 2) := by decide +kernel
theorem dX9_round_98 : decode cX9_round 98 = .ok (.iinc 5 1, 3) := by decide +kernel
theorem dX9_round_101 : decode cX9_round 101 = .ok (.goto (-69), 3) := by decide +kernel
theorem dX9_round_104 : decode cX9_round 104 = .ok (.iload_n 3, 1) := by decide +kernel
theorem dX9_round_105 : decode cX9_round 105 = .ok (.ireturn, 1) := by decide +kernel
theorem dX9_kind_0 : decode cX9_kind 0 = .ok (.aload_n 0, 1) := by decide +kernel
theorem dX9_kind_1 : decode cX9_kind 1 = .ok (.iload_n 1, 1) := by decide +kernel
theorem dX9_kind_2 : decode cX9_kind 2 = .ok (.invokevirtual 81, 3) := by decide +kernel
theorem dX9_kind_5 : decode cX9_kind 5 = .ok (.ifCond .eq 13, 3) := by decide +kernel
theorem dX9_kind_8 : decode cX9_kind 8 = .ok (.iload_n 2, 1) := by decide +kernel
theorem dX9_kind_9 : decode cX9_kind 9 = .ok (.iconst 1, 1) := by decide +kernel
theorem dX9_kind_10 : decode cX9_kind 10 = .ok (.bipush 60, 2) := by decide +kernel
theorem dX9_kind_12 : decode cX9_kind 12 = .ok (.invokestatic 70, 3) := by decide +kernel
theorem dX9_kind_15 : decode cX9_kind 15 = .ok (.ifCond .ne 9, 3) := by decide +kernel
theorem dX9_kind_18 : decode cX9_kind 18 = .ok (.aload_n 0, 1) := by decide +kernel
theorem dX9_kind_19 : decode cX9_kind 19 = .ok (.iconst 0, 1) := by decide +kernel
theorem dX9_kind_20 : decode cX9_kind 20 = .ok (.invokevirtual 74, 3) := by decide +kernel
theorem dX9_kind_23 : decode cX9_kind 23 = .ok (.ireturn, 1) := by decide +kernel
theorem dX9_kind_24 : decode cX9_kind 24 = .ok (.iconst 0, 1) := by decide +kernel
theorem dX9_kind_25 : decode cX9_kind 25 = .ok (.istore_n 3, 1) := by decide +kernel
theorem dX9_kind_26 : decode cX9_kind 26 = .ok (.iconst (-1), 1) := by decide +kernel
theorem dX9_kind_27 : decode cX9_kind 27 = .ok (.istore 4, 2) := by decide +kernel
theorem dX9_kind_29 : decode cX9_kind 29 = .ok (.iconst 0, 1) := by decide +kernel
theorem dX9_kind_30 : decode cX9_kind 30 = .ok (.istore 5, 2) := by decide +kernel
theorem dX9_kind_32 : decode cX9_kind 32 = .ok (.iload 5, 2) := by decide +kernel
theorem dX9_kind_34 : decode cX9_kind 34 = .ok (.bipush 6, 2) := by decide +kernel
theorem dX9_kind_36 : decode cX9_kind 36 = .ok (.if_icmp .ge 62, 3) := by decide +kernel
theorem dX9_kind_39 : decode cX9_kind 39 = .ok (.aload_n 0, 1) := by decide +kernel
theorem dX9_kind_40 : decode cX9_kind 40 = .ok (.getfield 36, 3) := by decide +kernel
theorem dX9_kind_43 : decode cX9_kind 43 = .ok (.aload_n 0, 1) := by decide +kernel
theorem dX9_kind_44 : decode cX9_kind 44 = .ok (.getfield 30, 3) := by decide +kernel
theorem dX9_kind_47 : decode cX9_kind 47 = .ok (.invokevirtual 173, 3) := by decide +kernel
theorem dX9_kind_50 : decode cX9_kind 50 = .ok (.aload_n 0, 1) := by decide +kernel
theorem dX9_kind_51 : decode cX9_kind 51 = .ok (.getfield 36, 3) := by decide +kernel
theorem dX9_kind_54 : decode cX9_kind 54 = .ok (.getfield 114, 3) := by decide +kernel
theorem dX9_kind_57 : decode cX9_kind 57 = .ok (.iload_n 1, 1) := by decide +kernel
theorem dX9_kind_58 : decode cX9_kind 58 = .ok (.iload 5, 2) := by decide +kernel
theorem dX9_kind_60 : decode cX9_kind 60 = .ok (.iastore, 1) := by decide +kernel
theorem dX9_kind_61 : decode cX9_kind 61 = .ok (.aload_n 0, 1) := by decide +kernel
theorem dX9_kind_62 : decode cX9_kind 62 = .ok (.getfield 36, 3) := by decide +kernel
theorem dX9_kind_65 : decode cX9_kind 65 = .ok (.iload_n 2, 1) := by decide +kernel
theorem dX9_kind_66 : decode cX9_kind 66 = .ok (.invokevirtual 169, 3) := by decide +kernel
theorem dX9_kind_69 : decode cX9_kind 69 = .ok (.aload_n 0, 1) := by decide +kernel
theorem dX9_kind_70 : decode cX9_kind 70 = .ok (.getfield 36, 3) := by decide +kernel
theorem dX9_kind_73 : decode cX9_kind 73 = .ok (.invokevirtual 105, 3) := by decide +kernel
theorem dX9_kind_76 : decode cX9_kind 76 = .ok (.istore 6, 2) := by decide +kernel
theorem dX9_kind_78 : decode cX9_kind 78 = .ok (.iload 6, 2) := by decide +kernel
theorem dX9_kind_80 : decode cX9_kind 80 = .ok (.iload 4, 2) := by decide +kernel
theorem dX9_kind_82 : decode cX9_kind 82 = .ok (.if_icmp .le 10, 3) := by decide +kernel
theorem dX9_kind_85 : decode cX9_kind 85 = .ok (.iload 5, 2) := by decide +kernel
theorem dX9_kind_87 : decode cX9_kind 87 = .ok (.istore_n 3, 1) := by decide +kernel
theorem dX9_kind_88 : decode cX9_kind 88 = .ok (.iload 6, 2) := by decide +kernel
theorem dX9_kind_90 : decode cX9_kind 90 = .ok (.istore 4, 2) := by decide +kernel
theorem dX9_kind_92 : decode cX9_kind 92 = .ok (.iinc 5 1, 3) := by decide +kernel
theorem dX9_kind_95 : decode cX9_kind 95 = .ok (.goto (-63), 3) := by decide +kernel
theorem dX9_kind_98 : decode cX9_kind 98 = .ok (.iload_n 3, 1) := by decide +kernel
theorem dX9_kind_99 : decode cX9_kind 99 = .ok (.ireturn, 1) := by decide +kernel
theorem dX9_enough_0 : decode cX9_enough 0 = .ok (.aload_n 0, 1) := by decide +kernel
theorem dX9_enough_1 : decode cX9_enough 1 = .ok (.iload_n 1, 1) := by decide +kernel
theorem dX9_enough_2 : decode cX9_enough 2 = .ok (.invokevirtual 146, 3) := by decide +kernel
theorem dX9_enough_5 : decode cX9_enough 5 = .ok (.ifCond .eq 13, 3) := by decide +kernel
theorem dX9_enough_8 : decode cX9_enough 8 = .ok (.iload_n 2, 1) := by decide +kernel
theorem dX9_enough_9 : decode cX9_enough 9 = .ok (.iconst 1, 1) := by decide +kernel
theorem dX9_enough_10 : decode cX9_enough 10 = .ok (.bipush 60, 2) := by decide +kernel
theorem dX9_enough_12 : decode cX9_enough 12 = .ok (.invokestatic 70, 3) := by decide +kernel
theorem dX9_enough_15 : decode cX9_enough 15 = .ok (.ifCond .ne 9, 3) := by decide +kernel
theorem dX9_enough_18 : decode cX9_enough 18 = .ok (.aload_n 0, 1) := by decide +kernel
theorem dX9_enough_19 : decode cX9_enough 19 = .ok (.iconst 0, 1) := by decide +kernel
theorem dX9_enough_20 : decode cX9_enough 20 = .ok (.invokevirtual 74, 3) := by decide +kernel
theorem dX9_enough_23 : decode cX9_enough 23 = .ok (.ireturn, 1) := by decide +kernel
theorem dX9_enough_24 : decode cX9_enough 24 = .ok (.aload_n 0, 1) := by decide +kernel
theorem dX9_enough_25 : decode cX9_enough 25 = .ok (.getfield 30, 3) := by decide +kernel
theorem dX9_enough_28 : decode cX9_enough 28 = .ok (.getfield 155, 3) := by decide +kernel
theorem dX9_enough_31 : decode cX9_enough 31 = .ok (.iload_n 1, 1) := by decide +kernel
theorem dX9_enough_32 : decode cX9_enough 32 = .ok (.iaload, 1) := by decide +kernel
theorem dX9_enough_33 : decode cX9_enough 33 = .ok (.iconst (-1), 1) := by decide +kernel
theorem dX9_enough_34 : decode cX9_enough 34 = .ok (.if_icmp .ne 9, 3) := by decide +kernel
theorem dX9_enough_37 : decode cX9_enough 37 = .ok (.aload_n 0, 1) := by decide +kernel
theorem dX9_enough_38 : decode cX9_enough 38 = .ok (.iconst 4, 1) := by decide +kernel
theorem dX9_enough_39 : decode cX9_enough 39 = .ok (.invokevirtual 74, 3) := by decide +kernel
theorem dX9_enough_42 : decode cX9_enough 42 = .ok (.ireturn, 1) := by decide +kernel
theorem dX9_enough_43 : decode cX9_enough 43 = .ok (.iconst 0, 1) := by decide +kernel
theorem dX9_enough_44 : decode cX9_enough 44 = .ok (.istore_n 3, 1) := by decide +kernel
theorem dX9_enough_45 : decode cX9_enough 45 = .ok (.iload_n 3, 1) := by decide +kernel
theorem dX9_enough_46 : decode cX9_enough 46 = .ok (.sipush 2000, 3) := by decide +kernel
theorem dX9_enough_49 : decode cX9_enough 49 = .ok (.if_icmp .gt 54, 3) := by decide +kernel
theorem dX9_enough_52 : decode cX9_enough 52 = .ok (.aload_n 0, 1) := by decide +kernel
theorem dX9_enough_53 : decode cX9_enough 53 = .ok (.getfield 36, 3) := by decide +kernel
theorem dX9_enough_56 : decode cX9_enough 56 = .ok (.aload_n 0, 1) := by decide +kernel
theorem dX9_enough_57 : decode cX9_enough 57 = .ok (.getfield 30, 3) := by decide +kernel
theorem dX9_enough_60 : decode cX9_enough 60 = .ok (.invokevirtual 173, 3) := by decide +kernel
theorem dX9_enough_63 : decode cX9_enough 63 = .ok (.aload_n 0, 1) := by decide +kernel
theorem dX9_enough_64 : decode cX9_enough 64 = .ok (.getfield 36, 3) := by decide +kernel
theorem dX9_enough_67 : decode cX9_enough 67 = .ok (.getfield 149, 3) := by decide +kernel
theorem dX9_enough_70 : decode cX9_enough 70 = .ok (.iload_n 1, 1) := by decide +kernel
theorem dX9_enough_71 : decode cX9_enough 71 = .ok (.iload_n 3, 1) := by decide +kernel
theorem dX9_enough_72 : decode cX9_enough 72 = .ok (.iastore, 1) := by decide +kernel
theorem dX9_enough_73 : decode cX9_enough 73 = .ok (.aload_n 0, 1) := by decide +kernel
theorem dX9_enough_74 : decode cX9_enough 74 = .ok (.getfield 36, 3) := by decide +kernel
theorem dX9_enough_77 : decode cX9_enough 77 = .ok (.iload_n 1, 1) := by decide +kernel
theorem dX9_enough_78 : decode cX9_enough 78 = .ok (.iload_n 2, 1) := by decide +kernel
theorem dX9_enough_79 : decode cX9_enough 79 = .ok (.invokevirtual 177, 3) := by decide +kernel
theorem dX9_enough_82 : decode cX9_enough 82 = .ok (.aload_n 0, 1) := by decide +kernel
theorem dX9_enough_83 : decode cX9_enough 83 = .ok (.getfield 36, 3) := by decide +kernel
theorem dX9_enough_86 : decode cX9_enough 86 = .ok (.getfield 155, 3) := by decide +kernel
theorem dX9_enough_89 : decode cX9_enough 89 = .ok (.iload_n 1, 1) := by decide +kernel
theorem dX9_enough_90 : decode cX9_enough 90 = .ok (.iaload, 1) := by decide +kernel
theorem dX9_enough_91 : decode cX9_enough 91 = .ok (.iconst (-1), 1) := by decide +kernel
theorem dX9_enough_92 : decode cX9_enough 92 = .ok (.if_icmp .eq 5, 3) := by decide +kernel
theorem dX9_enough_95 : decode cX9_enough 95 = .ok (.iload_n 3, 1) := by decide +kernel
theorem dX9_enough_96 : decode cX9_enough 96 = .ok (.ireturn, 1) := by decide +kernel
theorem dX9_enough_97 : decode cX9_enough 97 = .ok (.iinc 3 10, 3) := by decide +kernel
theorem dX9_enough_100 : decode cX9_enough 100 = .ok (.goto (-55), 3) := by decide +kernel
theorem dX9_enough_103 : decode cX9_enough 103 = .ok (.aload_n 0, 1) := by decide +kernel
theorem dX9_enough_104 : decode cX9_enough 104 = .ok (.iconst 3, 1) := by decide +kernel
theorem dX9_enough_105 : decode cX9_enough 105 = .ok (.invokevirtual 74, 3) := by decide +kernel
theorem dX9_enough_108 : decode cX9_enough 108 = .ok (.ireturn, 1) := by decide +kernel
theorem dX9_please_0 : decode cX9_please 0 = .ok (.aload_n 0, 1) := by decide +kernel
theorem dX9_please_1 : decode cX9_please 1 = .ok (.iload_n 1, 1) := by decide +kernel
theorem dX9_please_2 : decode cX9_please 2 = .ok (.invokevirtual 146, 3) := by decide +kernel
theorem dX9_please_5 : decode cX9_please 5 = .ok (.ifCond .eq 32, 3) := by decide +kernel
theorem dX9_please_8 : decode cX9_please 8 = .ok (.iload_n 2, 1) := by decide +kernel
theorem dX9_please_9 : decode cX9_please 9 = .ok (.invokestatic 66, 3) := by decide +kernel
theorem dX9_please_12 : decode cX9_please 12 = .ok (.ifCond .eq 25, 3) := by decide +kernel
theorem dX9_please_15 : decode cX9_please 15 = .ok (.iload_n 3, 1) := by decide +kernel
theorem dX9_please_16 : decode cX9_please 16 = .ok (.iconst 1, 1) := by decide +kernel
theorem dX9_please_17 : decode cX9_please 17 = .ok (.bipush 60, 2) := by decide +kernel
theorem dX9_please_19 : decode cX9_please 19 = .ok (.invokestatic 70, 3) := by decide +kernel
theorem dX9_please_22 : decode cX9_please 22 = .ok (.ifCond .eq 15, 3) := by decide +kernel
theorem dX9_please_25 : decode cX9_please 25 = .ok (.iload 4, 2) := by decide +kernel
theorem dX9_please_27 : decode cX9_please 27 = .ok (.iconst 0, 1) := by decide +kernel
theorem dX9_please_28 : decode cX9_please 28 = .ok (.sipush 9999, 3) := by decide +kernel
theorem dX9_please_31 : decode cX9_please 31 = .ok (.invokestatic 70, 3) := by decide +kernel
theorem dX9_please_34 : decode cX9_please 34 = .ok (.ifCond .ne 9, 3) := by decide +kernel
theorem dX9_please_37 : decode cX9_please 37 = .ok (.aload_n 0, 1) := by decide +kernel
theorem dX9_please_38 : decode cX9_please 38 = .ok (.iconst 0, 1) := by decide +kernel
theorem dX9_please_39 : decode cX9_please 39 = .ok (.invokevirtual 74, 3) := by decide +kernel
theorem dX9_please_42 : decode cX9_please 42 = .ok (.ireturn, 1) := by decide +kernel
theorem dX9_please_43 : decode cX9_please 43 = .ok (.bipush (-50), 2) := by decide +kernel
theorem dX9_please_45 : decode cX9_please 45 = .ok (.istore 5, 2) := by decide +kernel
theorem dX9_please_47 : decode cX9_please 47 = .ok (.iload 5, 2) := by decide +kernel
theorem dX9_please_49 : decode cX9_please 49 = .ok (.bipush 50, 2) := by decide +kernel
theorem dX9_please_51 : decode cX9_please 51 = .ok (.if_icmp .gt 57, 3) := by decide +kernel
theorem dX9_please_54 : decode cX9_please 54 = .ok (.aload_n 0, 1) := by decide +kernel
theorem dX9_please_55 : decode cX9_please 55 = .ok (.getfield 36, 3) := by decide +kernel
theorem dX9_please_58 : decode cX9_please 58 = .ok (.aload_n 0, 1) := by decide +kernel
theorem dX9_please_59 : decode cX9_please 59 = .ok (.getfield 30, 3) := by decide +kernel
theorem dX9_please_62 : decode cX9_please 62 = .ok (.invokevirtual 173, 3) := by decide +kernel
theorem dX9_please_65 : decode cX9_please 65 = .ok (.aload_n 0, 1) := by decide +kernel
theorem dX9_please_66 : decode cX9_please 66 = .ok (.getfield 36, 3) := by decide +kernel
theorem dX9_please_69 : decode cX9_please 69 = .ok (.getfield 78, 3) := by decide +kernel
theorem dX9_please_72 : decode cX9_please 72 = .ok (.iload_n 2, 1) := by decide +kernel
theorem dX9_please_73 : decode cX9_please 73 = .ok (.iload 5, 2) := by decide +kernel
theorem dX9_please_75 : decode cX9_please 75 = .ok (.iastore, 1) := by decide +kernel
theorem dX9_please_76 : decode cX9_please 76 = .ok (.aload_n 0, 1) := by decide +kernel
theorem dX9_please_77 : decode cX9_please 77 = .ok (.getfield 36, 3) := by decide +kernel
theorem dX9_please_80 : decode cX9_please 80 = .ok (.iload_n 1, 1) := by decide +kernel
theorem dX9_please_81 : decode cX9_please 81 = .ok (.iload_n 3, 1) := by decide +kernel
theorem dX9_please_82 : decode cX9_please 82 = .ok (.invokevirtual 177, 3) := by decide +kernel
theorem dX9_please_85 : decode cX9_please 85 = .ok (.aload_n 0, 1) := by decide +kernel
theorem dX9_please_86 : decode cX9_please 86 = .ok (.getfield 36, 3) := by decide +kernel
theorem dX9_please_89 : decode cX9_please 89 = .ok (.getfield 149, 3) := by decide +kernel
theorem dX9_please_92 : decode cX9_please 92 = .ok (.iload_n 1, 1) := by decide +kernel
theorem dX9_please_93 : decode cX9_please 93 = .ok (.iaload, 1) := by decide +kernel
theorem dX9_please_94 : decode cX9_please 94 = .ok (.iload 4, 2) := by decide +kernel
theorem dX9_please_96 : decode cX9_please 96 = .ok (.if_icmp .lt 6, 3) := by decide +kernel
theorem dX9_please_99 : decode cX9_please 99 = .ok (.iload 5, 2) := by decide +kernel
theorem dX9_please_101 : decode cX9_please 101 = .ok (.ireturn, 1) := by decide +kernel
theorem dX9_please_102 : decode cX9_please 102 = .ok (.iinc 5 1, 3) := by decide +kernel
theorem dX9_please_105 : decode cX9_please 105 = .ok (.goto (-58), 3) := by decide +kernel
theorem dX9_please_108 : decode cX9_please 108 = .ok (.aload_n 0, 1) := by decide +kernel
theorem dX9_please_109 : decode cX9_please 109 = .ok (.iconst 3, 1) := by decide +kernel
theorem dX9_please_110 : decode cX9_please 110 = .ok (.invokevirtual 74, 3) := by decide +kernel
theorem dX9_please_113 : decode cX9_please 113 = .ok (.ireturn, 1) := by decide +kernel
theorem dX9_richest_0 : decode cX9_richest 0 = .ok (.iload_n 1, 1) := by decide +kernel
theorem dX9_richest_1 : decode cX9_richest 1 = .ok (.iconst 0, 1) := by decide +kernel
theorem dX9_richest_2 : decode cX9_richest 2 = .ok (.sipush 200, 3) := by decide +kernel
theorem dX9_richest_5 : decode cX9_richest 5 = .ok (.invokestatic 70, 3) := by decide +kernel
theorem dX9_richest_8 : decode cX9_richest 8 = .ok (.ifCond .ne 9, 3) := by decide +kernel
theorem dX9_richest_11 : decode cX9_richest 11 = .ok (.aload_n 0, 1) := by decide +kernel
theorem dX9_richest_12 : decode cX9_richest 12 = .ok (.iconst 0, 1) := by decide +kernel
theorem dX9_richest_13 : decode cX9_richest 13 = .ok (.invokevirtual 74, 3) := by decide +kernel
theorem dX9_richest_16 : decode cX9_richest 16 = .ok (.ireturn, 1) := by decide +kernel
theorem dX9_richest_17 : decode cX9_richest 17 = .ok (.aload_n 0, 1) := by decide +kernel
theorem dX9_richest_18 : decode cX9_richest 18 = .ok (.getfield 36, 3) := by decide +kernel
theorem dX9_richest_21 : decode cX9_richest 21 = .ok (.aload_n 0, 1) := by decide +kernel
theorem dX9_richest_22 : decode cX9_richest 22 = .ok (.getfield 30, 3) := by decide +kernel
theorem dX9_richest_25 : decode cX9_richest 25 = .ok (.invokevirtual 173, 3) := by decide +kernel
theorem dX9_richest_28 : decode cX9_richest 28 = .ok (.aload_n 0, 1) := by decide +kernel
theorem dX9_richest_29 : decode cX9_richest 29 = .ok (.getfield 36, 3) := by decide +kernel
theorem dX9_richest_32 : decode cX9_richest 32 = .ok (.iload_n 1, 1) := by decide +kernel
theorem dX9_richest_33 : decode cX9_richest 33 = .ok (.invokevirtual 169, 3) := by decide +kernel
theorem dX9_richest_36 : decode cX9_richest 36 = .ok (.iconst (-1), 1) := by decide +kernel
theorem dX9_richest_37 : decode cX9_richest 37 = .ok (.istore_n 2, 1) := by decide +kernel
theorem dX9_richest_38 : decode cX9_richest 38 = .ok (.iconst (-1), 1) := by decide +kernel
theorem dX9_richest_39 : decode cX9_richest 39 = .ok (.istore_n 3, 1) := by decide +kernel
theorem dX9_richest_40 : decode cX9_richest 40 = .ok (.iconst 0, 1) := by decide +kernel
theorem dX9_richest_41 : decode cX9_richest 41 = .ok (.istore 4, 2) := by decide +kernel
theorem dX9_richest_43 : decode cX9_richest 43 = .ok (.iload 4, 2) := by decide +kernel
theorem dX9_richest_45 : decode cX9_richest 45 = .ok (.aload_n 0, 1) := by decide +kernel
theorem dX9_richest_46 : decode cX9_richest 46 = .ok (.getfield 36, 3) := by decide +kernel
theorem dX9_richest_49 : decode cX9_richest 49 = .ok (.getfield 183, 3) := by decide +kernel
theorem dX9_richest_52 : decode cX9_richest 52 = .ok (.if_icmp .ge 37, 3) := by decide +kernel
theorem dX9_richest_55 : decode cX9_richest 55 = .ok (.aload_n 0, 1) := by decide +kernel
theorem dX9_richest_56 : decode cX9_richest 56 = .ok (.getfield 36, 3) := by decide +kernel
theorem dX9_richest_59 : decode cX9_richest 59 = .ok (.getfield 120, 3) := by decide +kernel
theorem dX9_richest_62 : decode cX9_richest 62 = .ok (.iload 4, 2) := by decide +kernel
theorem dX9_richest_64 : decode cX9_richest 64 = .ok (.iaload, 1) := by decide +kernel
theorem dX9_richest_65 : decode cX9_richest 65 = .ok (.iload_n 3, 1) := by decide +kernel
theorem dX9_richest_66 : decode cX9_richest 66 = .ok (.if_icmp .le 17, 3) := by decide +kernel
theorem dX9_richest_69 : decode cX9_richest 69 = .ok (.iload 4, 2) := by decide +kernel
theorem dX9_richest_71 : decode cX9_richest 71 = .ok (.istore_n 2, 1) := by decide +kernel
theorem dX9_richest_72 : decode cX9_richest 72 = .ok (.aload_n 0, 1) := by decide +kernel
theorem dX9_richest_73 : decode cX9_richest 73 = .ok (.getfield 36, 3) := by decide +kernel
theorem dX9_richest_76 : decode cX9_richest 76 = .ok (.getfield 120, 3) := by decide +kernel
theorem dX9_richest_79 : decode cX9_richest 79 = .ok (.iload 4, 2) := by decide +kernel
theorem dX9_richest_81 : decode cX9_richest 81 = .ok (.iaload, 1) := by decide +kernel
theorem dX9_richest_82 : decode cX9_richest 82 = .ok (.istore_n 3, 1) := by decide +kernel
theorem dX9_richest_83 : decode cX9_richest 83 = .ok (.iinc 4 1, 3) := by decide +kernel
theorem dX9_richest_86 : decode cX9_richest 86 = .ok (.goto (-43), 3) := by decide +kernel
theorem dX9_richest_89 : decode cX9_richest 89 = .ok (.iload_n 2, 1) := by decide +kernel
theorem dX9_richest_90 : decode cX9_richest 90 = .ok (.iconst (-1), 1) := by decide +kernel
theorem dX9_richest_91 : decode cX9_richest 91 = .ok (.if_icmp .ne 11, 3) := by decide +kernel
theorem dX9_richest_94 : decode cX9_richest 94 = .ok (.aload_n 0, 1) := by decide +kernel
theorem dX9_richest_95 : decode cX9_richest 95 = .ok (.iconst 3, 1) := by decide +kernel
theorem dX9_richest_96 : decode cX9_richest 96 = .ok (.invokevirtual 74, 3) := by decide +kernel
theorem dX9_richest_99 : decode cX9_richest 99 = .ok (.goto 4, 3) := by decide +kernel
theorem dX9_richest_102 : decode cX9_richest 102 = .ok (.iload_n 2, 1) := by decide +kernel
theorem dX9_richest_103 : decode cX9_richest 103 = .ok (.ireturn, 1) := by decide +kernel
theorem dX9_feed_0 : decode cX9_feed 0 = .ok (.iload_n 2, 1) := by decide +kernel
theorem dX9_feed_1 : decode cX9_feed 1 = .ok (.iconst 1, 1) := by decide +kernel
theorem dX9_feed_2 : decode cX9_feed 2 = .ok (.iconst 4, 1) := by decide +kernel
theorem dX9_feed_3 : decode cX9_feed 3 = .ok (.invokestatic 70, 3) := by decide +kernel
theorem dX9_feed_6 : decode cX9_feed 6 = .ok (.ifCond .ne 9, 3) := by decide +kernel
theorem dX9_feed_9 : decode cX9_feed 9 = .ok (.aload_n 0, 1) := by decide +kernel
theorem dX9_feed_10 : decode cX9_feed 10 = .ok (.iconst 0, 1) := by decide +kernel
theorem dX9_feed_11 : decode cX9_feed 11 = .ok (.invokevirtual 74, 3) := by decide +kernel
theorem dX9_feed_14 : decode cX9_feed 14 = .ok (.ireturn, 1) := by decide +kernel
theorem dX9_feed_15 : decode cX9_feed 15 = .ok (.aload_n 0, 1) := by decide +kernel
theorem dX9_feed_16 : decode cX9_feed 16 = .ok (.getfield 51, 3) := by decide +kernel
theorem dX9_feed_19 : decode cX9_feed 19 = .ok (.getfield 186, 3) := by decide +kernel
theorem dX9_feed_22 : decode cX9_feed 22 = .ok (.iload_n 2, 1) := by decide +kernel
theorem dX9_feed_23 : decode cX9_feed 23 = .ok (.iadd, 1) := by decide +kernel
theorem dX9_feed_24 : decode cX9_feed 24 = .ok (.bipush 120, 2) := by decide +kernel
theorem dX9_feed_26 : decode cX9_feed 26 = .ok (.if_icmp .le 9, 3) := by decide +kernel
theorem dX9_feed_29 : decode cX9_feed 29 = .ok (.aload_n 0, 1) := by decide +kernel
theorem dX9_feed_30 : decode cX9_feed 30 = .ok (.iconst 1, 1) := by decide +kernel
theorem dX9_feed_31 : decode cX9_feed 31 = .ok (.invokevirtual 74, 3) := by decide +kernel
theorem dX9_feed_34 : decode cX9_feed 34 = .ok (.ireturn, 1) := by decide +kernel
theorem dX9_feed_35 : decode cX9_feed 35 = .ok (.iload_n 2, 1) := by decide +kernel
theorem dX9_feed_36 : decode cX9_feed 36 = .ok (.iconst 1, 1) := by decide +kernel
theorem dX9_feed_37 : decode cX9_feed 37 = .ok (.isub, 1) := by decide +kernel
theorem dX9_feed_38 : decode cX9_feed 38 = .ok (.istore_n 3, 1) := by decide +kernel
theorem dX9_feed_39 : decode cX9_feed 39 = .ok (.iload_n 3, 1) := by decide +kernel
theorem dX9_feed_40 : decode cX9_feed 40 = .ok (.ifCond .lt 26, 3) := by decide +kernel
theorem dX9_feed_43 : decode cX9_feed 43 = .ok (.aload_n 0, 1) := by decide +kernel
theorem dX9_feed_44 : decode cX9_feed 44 = .ok (.getfield 51, 3) := by decide +kernel
theorem dX9_feed_47 : decode cX9_feed 47 = .ok (.iload_n 1, 1) := by decide +kernel
theorem dX9_feed_48 : decode cX9_feed 48 = .ok (.bipush 8, 2) := by decide +kernel
theorem dX9_feed_50 : decode cX9_feed 50 = .ok (.iload_n 3, 1) := by decide +kernel
theorem dX9_feed_51 : decode cX9_feed 51 = .ok (.imul, 1) := by decide +kernel
theorem dX9_feed_52 : decode cX9_feed 52 = .ok (.iushr, 1) := by decide +kernel
theorem dX9_feed_53 : decode cX9_feed 53 = .ok (.sipush 255, 3) := by decide +kernel
theorem dX9_feed_56 : decode cX9_feed 56 = .ok (.iand, 1) := by decide +kernel
theorem dX9_feed_57 : decode cX9_feed 57 = .ok (.invokevirtual 189, 3) := by decide +kernel
theorem dX9_feed_60 : decode cX9_feed 60 = .ok (.iinc 3 (-1), 3) := by decide +kernel
theorem dX9_feed_63 : decode cX9_feed 63 = .ok (.goto (-24), 3) := by decide +kernel
theorem dX9_feed_66 : decode cX9_feed 66 = .ok (.aload_n 0, 1) := by decide +kernel
theorem dX9_feed_67 : decode cX9_feed 67 = .ok (.getfield 51, 3) := by decide +kernel
theorem dX9_feed_70 : decode cX9_feed 70 = .ok (.getfield 186, 3) := by decide +kernel
theorem dX9_feed_73 : decode cX9_feed 73 = .ok (.ireturn, 1) := by decide +kernel
theorem dX9_wipe_0 : decode cX9_wipe 0 = .ok (.aload_n 0, 1) := by decide +kernel
theorem dX9_wipe_1 : decode cX9_wipe 1 = .ok (.getfield 51, 3) := by decide +kernel
theorem dX9_wipe_4 : decode cX9_wipe 4 = .ok (.getfield 186, 3) := by decide +kernel
theorem dX9_wipe_7 : decode cX9_wipe 7 = .ok (.istore_n 1, 1) := by decide +kernel
theorem dX9_wipe_8 : decode cX9_wipe 8 = .ok (.aload_n 0, 1) := by decide +kernel
theorem dX9_wipe_9 : decode cX9_wipe 9 = .ok (.getfield 51, 3) := by decide +kernel
theorem dX9_wipe_12 : decode cX9_wipe 12 = .ok (.iconst 0, 1) := by decide +kernel
theorem dX9_wipe_13 : decode cX9_wipe 13 = .ok (.putfield 186, 3) := by decide +kernel
theorem dX9_wipe_16 : decode cX9_wipe 16 = .ok (.iload_n 1, 1) := by decide +kernel
theorem dX9_wipe_17 : decode cX9_wipe 17 = .ok (.ireturn, 1) := by decide +kernel
theorem dX9_shop_0 : decode cX9_shop 0 = .ok (.aload_n 0, 1) := by decide +kernel
theorem dX9_shop_1 : decode cX9_shop 1 = .ok (.getfield 36, 3) := by decide +kernel
theorem dX9_shop_4 : decode cX9_shop 4 = .ok (.aload_n 0, 1) := by decide +kernel
theorem dX9_shop_5 : decode cX9_shop 5 = .ok (.getfield 30, 3) := by decide +kernel
theorem dX9_shop_8 : decode cX9_shop 8 = .ok (.invokevirtual 173, 3) := by decide +kernel
theorem dX9_shop_11 : decode cX9_shop 11 = .ok (.aload_n 0, 1) := by decide +kernel
theorem dX9_shop_12 : decode cX9_shop 12 = .ok (.getfield 51, 3) := by decide +kernel
theorem dX9_shop_15 : decode cX9_shop 15 = .ok (.invokevirtual 192, 3) := by decide +kernel
theorem dX9_shop_18 : decode cX9_shop 18 = .ok (.istore_n 1, 1) := by decide +kernel
theorem dX9_shop_19 : decode cX9_shop 19 = .ok (.aload_n 0, 1) := by decide +kernel
theorem dX9_shop_20 : decode cX9_shop 20 = .ok (.getfield 51, 3) := by decide +kernel
theorem dX9_shop_23 : decode cX9_shop 23 = .ok (.iconst 0, 1) := by decide +kernel
theorem dX9_shop_24 : decode cX9_shop 24 = .ok (.putfield 186, 3) := by decide +kernel
theorem dX9_shop_27 : decode cX9_shop 27 = .ok (.iload_n 1, 1) := by decide +kernel
theorem dX9_shop_28 : decode cX9_shop 28 = .ok (.ifCond .le 14, 3) := by decide +kernel
theorem dX9_shop_31 : decode cX9_shop 31 = .ok (.aload_n 0, 1) := by decide +kernel
theorem dX9_shop_32 : decode cX9_shop 32 = .ok (.getfield 30, 3) := by decide +kernel
theorem dX9_shop_35 : decode cX9_shop 35 = .ok (.aload_n 0, 1) := by decide +kernel
theorem dX9_shop_36 : decode cX9_shop 36 = .ok (.getfield 36, 3) := by decide +kernel
theorem dX9_shop_39 : decode cX9_shop 39 = .ok (.invokevirtual 173, 3) := by decide +kernel
theorem dX9_shop_42 : decode cX9_shop 42 = .ok (.iload_n 1, 1) := by decide +kernel
theorem dX9_shop_43 : decode cX9_shop 43 = .ok (.ireturn, 1) := by decide +kernel
theorem dX9_sheet_0 : decode cX9_sheet 0 = .ok (.iload_n 1, 1) := by decide +kernel
theorem dX9_sheet_1 : decode cX9_sheet 1 = .ok (.invokestatic 195, 3) := by decide +kernel
theorem dX9_sheet_4 : decode cX9_sheet 4 = .ok (.ifCond .eq 25, 3) := by decide +kernel
theorem dX9_sheet_7 : decode cX9_sheet 7 = .ok (.iload_n 2, 1) := by decide +kernel
theorem dX9_sheet_8 : decode cX9_sheet 8 = .ok (.ifCond .eq 27, 3) := by decide +kernel
theorem dX9_sheet_11 : decode cX9_sheet 11 = .ok (.iload_n 2, 1) := by decide +kernel
theorem dX9_sheet_12 : decode cX9_sheet 12 = .ok (.bipush 8, 2) := by decide +kernel
theorem dX9_sheet_14 : decode cX9_sheet 14 = .ok (.if_icmp .eq 21, 3) := by decide +kernel
theorem dX9_sheet_17 : decode cX9_sheet 17 = .ok (.iload_n 2, 1) := by decide +kernel
theorem dX9_sheet_18 : decode cX9_sheet 18 = .ok (.bipush 16, 2) := by decide +kernel
theorem dX9_sheet_20 : decode cX9_sheet 20 = .ok (.if_icmp .eq 15, 3) := by decide +kernel
theorem dX9_sheet_23 : decode cX9_sheet 23 = .ok (.iload_n 2, 1) := by decide +kernel
theorem dX9_sheet_24 : decode cX9_sheet 24 = .ok (.bipush 64, 2) := by decide +kernel
theorem dX9_sheet_26 : decode cX9_sheet 26 = .ok (.if_icmp .eq 9, 3) := by decide +kernel
theorem dX9_sheet_29 : decode cX9_sheet 29 = .ok (.aload_n 0, 1) := by decide +kernel
theorem dX9_sheet_30 : decode cX9_sheet 30 = .ok (.iconst 0, 1) := by decide +kernel
theorem dX9_sheet_31 : decode cX9_sheet 31 = .ok (.invokevirtual 74, 3) := by decide +kernel
theorem dX9_sheet_34 : decode cX9_sheet 34 = .ok (.ireturn, 1) := by decide +kernel
theorem dX9_sheet_35 : decode cX9_sheet 35 = .ok (.iload_n 3, 1) := by decide +kernel
theorem dX9_sheet_36 : decode cX9_sheet 36 = .ok (.ifCond .ge 10, 3) := by decide +kernel
theorem dX9_sheet_39 : decode cX9_sheet 39 = .ok (.aload_n 0, 1) := by decide +kernel
theorem dX9_sheet_40 : decode cX9_sheet 40 = .ok (.bipush 6, 2) := by decide +kernel
theorem dX9_sheet_42 : decode cX9_sheet 42 = .ok (.invokevirtual 74, 3) := by decide +kernel
theorem dX9_sheet_45 : decode cX9_sheet 45 = .ok (.ireturn, 1) := by decide +kernel
theorem dX9_sheet_46 : decode cX9_sheet 46 = .ok (.iload_n 3, 1) := by decide +kernel
theorem dX9_sheet_47 : decode cX9_sheet 47 = .ok (.bipush 40, 2) := by decide +kernel
theorem dX9_sheet_49 : decode cX9_sheet 49 = .ok (.if_icmp .le 9, 3) := by decide +kernel
theorem dX9_sheet_52 : decode cX9_sheet 52 = .ok (.aload_n 0, 1) := by decide +kernel
theorem dX9_sheet_53 : decode cX9_sheet 53 = .ok (.iconst 0, 1) := by decide +kernel
theorem dX9_sheet_54 : decode cX9_sheet 54 = .ok (.invokevirtual 74, 3) := by decide +kernel
theorem dX9_sheet_57 : decode cX9_sheet 57 = .ok (.ireturn, 1) := by decide +kernel
theorem dX9_sheet_58 : decode cX9_sheet 58 = .ok (.aload_n 0, 1) := by decide +kernel
theorem dX9_sheet_59 : decode cX9_sheet 59 = .ok (.getfield 57, 3) := by decide +kernel
theorem dX9_sheet_62 : decode cX9_sheet 62 = .ok (.iload_n 1, 1) := by decide +kernel
theorem dX9_sheet_63 : decode cX9_sheet 63 = .ok (.aaload, 1) := by decide +kernel
theorem dX9_sheet_64 : decode cX9_sheet 64 = .ok (.iload_n 2, 1) := by decide +kernel
theorem dX9_sheet_65 : decode cX9_sheet 65 = .ok (.iload_n 2, 1) := by decide +kernel
theorem dX9_sheet_66 : decode cX9_sheet 66 = .ok (.ifCond .ne 7, 3) := by decide +kernel
theorem dX9_sheet_69 : decode cX9_sheet 69 = .ok (.iconst 0, 1) := by decide +kernel
theorem dX9_sheet_70 : decode cX9_sheet 70 = .ok (.goto 4, 3) := by decide +kernel
theorem dX9_sheet_73 : decode cX9_sheet 73 = .ok (.iload_n 3, 1) := by decide +kernel
theorem dX9_sheet_74 : decode cX9_sheet 74 = .ok (.invokevirtual 198, 3) := by decide +kernel
theorem dX9_sheet_77 : decode cX9_sheet 77 = .ok (.aload_n 0, 1) := by decide +kernel
theorem dX9_sheet_78 : decode cX9_sheet 78 = .ok (.getfield 57, 3) := by decide +kernel
theorem dX9_sheet_81 : decode cX9_sheet 81 = .ok (.iload_n 1, 1) := by decide +kernel
theorem dX9_sheet_82 : decode cX9_sheet 82 = .ok (.aaload, 1) := by decide +kernel
theorem dX9_sheet_83 : decode cX9_sheet 83 = .ok (.getfield 201, 3) := by decide +kernel
theorem dX9_sheet_86 : decode cX9_sheet 86 = .ok (.ireturn, 1) := by decide +kernel
theorem dX9_write_0 : decode cX9_write 0 = .ok (.iload_n 1, 1) := by decide +kernel
theorem dX9_write_1 : decode cX9_write 1 = .ok (.invokestatic 195, 3) := by decide +kernel
theorem dX9_write_4 : decode cX9_write 4 = .ok (.ifCond .ne 10, 3) := by decide +kernel
theorem dX9_write_7 : decode cX9_write 7 = .ok (.aload_n 0, 1) := by decide +kernel
theorem dX9_write_8 : decode cX9_write 8 = .ok (.iconst 0, 1) := by decide +kernel
theorem dX9_write_9 : decode cX9_write 9 = .ok (.invokevirtual 74, 3) := by decide +kernel
theorem dX9_write_12 : decode cX9_write 12 = .ok (.i2l, 1) := by decide +kernel
theorem dX9_write_13 : decode cX9_write 13 = .ok (.lreturn, 1) := by decide +kernel
theorem dX9_write_14 : decode cX9_write 14 = .ok (.aload_n 0, 1) := by decide +kernel
theorem dX9_write_15 : decode cX9_write 15 = .ok (.getfield 57, 3) := by decide +kernel
theorem dX9_write_18 : decode cX9_write 18 = .ok (.iload_n 1, 1) := by decide +kernel
theorem dX9_write_19 : decode cX9_write 19 = .ok (.aaload, 1) := by decide +kernel
theorem dX9_write_20 : decode cX9_write 20 = .ok (.astore 5, 2) := by decide +kernel
theorem dX9_write_22 : decode cX9_write 22 = .ok (.aload 5, 2) := by decide +kernel
theorem dX9_write_24 : decode cX9_write 24 = .ok (.invokevirtual 202, 3) := by decide +kernel
theorem dX9_write_27 : decode cX9_write 27 = .ok (.ifCond .eq 10, 3) := by decide +kernel
theorem dX9_write_30 : decode cX9_write 30 = .ok (.aload_n 0, 1) := by decide +kernel
theorem dX9_write_31 : decode cX9_write 31 = .ok (.iconst 5, 1) := by decide +kernel
theorem dX9_write_32 : decode cX9_write 32 = .ok (.invokevirtual 74, 3) := by decide +kernel
theorem dX9_write_35 : decode cX9_write 35 = .ok (.i2l, 1) := by decide +kernel
theorem dX9_write_36 : decode cX9_write 36 = .ok (.lreturn, 1) := by decide +kernel
theorem dX9_write_37 : decode cX9_write 37 = .ok (.iload_n 2, 1) := by decide +kernel
theorem dX9_write_38 : decode cX9_write 38 = .ok (.ifCond .lt 12, 3) := by decide +kernel
theorem dX9_write_41 : decode cX9_write 41 = .ok (.iload_n 2, 1) := by decide +kernel
theorem dX9_write_42 : decode cX9_write 42 = .ok (.aload 5, 2) := by decide +kernel
theorem dX9_write_44 : decode cX9_write 44 = .ok (.getfield 201, 3) := by decide +kernel
theorem dX9_write_47 : decode cX9_write 47 = .ok (.if_icmp .lt 10, 3) := by decide +kernel
theorem dX9_write_50 : decode cX9_write 50 = .ok (.aload_n 0, 1) := by decide +kernel
theorem dX9_write_51 : decode cX9_write 51 = .ok (.iconst 0, 1) := by decide +kernel
theorem dX9_write_52 : decode cX9_write 52 = .ok (.invokevirtual 74, 3) := by decide +kernel
theorem dX9_write_55 : decode cX9_write 55 = .ok (.i2l, 1) := by decide +kernel
theorem dX9_write_56 : decode cX9_write 56 = .ok (.lreturn, 1) := by decide +kernel
theorem dX9_write_57 : decode cX9_write 57 = .ok (.aload 5, 2) := by decide +kernel
theorem dX9_write_59 : decode cX9_write 59 = .ok (.getfield 205, 3) := by decide +kernel
theorem dX9_write_62 : decode cX9_write 62 = .ok (.iload_n 2, 1) := by decide +kernel
theorem dX9_write_63 : decode cX9_write 63 = .ok (.laload, 1) := by decide +kernel
theorem dX9_write_64 : decode cX9_write 64 = .ok (.lstore 6, 2) := by decide +kernel
theorem dX9_write_66 : decode cX9_write 66 = .ok (.aload 5, 2) := by decide +kernel
theorem dX9_write_68 : decode cX9_write 68 = .ok (.iload_n 2, 1) := by decide +kernel
theorem dX9_write_69 : decode cX9_write 69 = .ok (.lload_n 3, 1) := by decide +kernel
theorem dX9_write_70 : decode cX9_write 70 = .ok (.invokevirtual 209, 3) := by decide +kernel
theorem dX9_write_73 : decode cX9_write 73 = .ok (.lload 6, 2) := by decide +kernel
theorem dX9_write_75 : decode cX9_write 75 = .ok (.lreturn, 1) := by decide +kernel
theorem dX9_copy_0 : decode cX9_copy 0 = .ok (.iload_n 1, 1) := by decide +kernel
theorem dX9_copy_1 : decode cX9_copy 1 = .ok (.invokestatic 195, 3) := by decide +kernel
theorem dX9_copy_4 : decode cX9_copy 4 = .ok (.ifCond .eq 10, 3) := by decide +kernel
theorem dX9_copy_7 : decode cX9_copy 7 = .ok (.iload_n 3, 1) := by decide +kernel
theorem dX9_copy_8 : decode cX9_copy 8 = .ok (.invokestatic 195, 3) := by decide +kernel
theorem dX9_copy_11 : decode cX9_copy 11 = .ok (.ifCond .ne 9, 3) := by decide +kernel
theorem dX9_copy_14 : decode cX9_copy 14 = .ok (.aload_n 0, 1) := by decide +kernel
theorem dX9_copy_15 : decode cX9_copy 15 = .ok (.iconst 0, 1) := by decide +kernel
theorem dX9_copy_16 : decode cX9_copy 16 = .ok (.invokevirtual 74, 3) := by decide +kernel
theorem dX9_copy_19 : decode cX9_copy 19 = .ok (.ireturn, 1) := by decide +kernel
theorem dX9_copy_20 : decode cX9_copy 20 = .ok (.aload_n 0, 1) := by decide +kernel
theorem dX9_copy_21 : decode cX9_copy 21 = .ok (.getfield 57, 3) := by decide +kernel
theorem dX9_copy_24 : decode cX9_copy 24 = .ok (.iload_n 1, 1) := by decide +kernel
theorem dX9_copy_25 : decode cX9_copy 25 = .ok (.aaload, 1) := by decide +kernel
theorem dX9_copy_26 : decode cX9_copy 26 = .ok (.astore 6, 2) := by decide +kernel
theorem dX9_copy_28 : decode cX9_copy 28 = .ok (.aload_n 0, 1) := by decide +kernel
theorem dX9_copy_29 : decode cX9_copy 29 = .ok (.getfield 57, 3) := by decide +kernel
theorem dX9_copy_32 : decode cX9_copy 32 = .ok (.iload_n 3, 1) := by decide +kernel
theorem dX9_copy_33 : decode cX9_copy 33 = .ok (.aaload, 1) := by decide +kernel
theorem dX9_copy_34 : decode cX9_copy 34 = .ok (.astore 7, 2) := by decide +kernel
theorem dX9_copy_36 : decode cX9_copy 36 = .ok (.aload 6, 2) := by decide +kernel
theorem dX9_copy_38 : decode cX9_copy 38 = .ok (.invokevirtual 202, 3) := by decide +kernel
theorem dX9_copy_41 : decode cX9_copy 41 = .ok (.ifCond .ne 11, 3) := by decide +kernel
theorem dX9_copy_44 : decode cX9_copy 44 = .ok (.aload 7, 2) := by decide +kernel
theorem dX9_copy_46 : decode cX9_copy 46 = .ok (.invokevirtual 202, 3) := by decide +kernel
theorem dX9_copy_49 : decode cX9_copy 49 = .ok (.ifCond .eq 9, 3) := by decide +kernel
theorem dX9_copy_52 : decode cX9_copy 52 = .ok (.aload_n 0, 1) := by decide +kernel
theorem dX9_copy_53 : decode cX9_copy 53 = .ok (.iconst 5, 1) := by decide +kernel
theorem dX9_copy_54 : decode cX9_copy 54 = .ok (.invokevirtual 74, 3) := by decide +kernel
theorem dX9_copy_57 : decode cX9_copy 57 = .ok (.ireturn, 1) := by decide +kernel
theorem dX9_copy_58 : decode cX9_copy 58 = .ok (.aload 6, 2) := by decide +kernel
theorem dX9_copy_60 : decode cX9_copy 60 = .ok (.getfield 213, 3) := by decide +kernel
theorem dX9_copy_63 : decode cX9_copy 63 = .ok (.aload 7, 2) := by decide +kernel
theorem dX9_copy_65 : decode cX9_copy 65 = .ok (.getfield 213, 3) := by decide +kernel
theorem dX9_copy_68 : decode cX9_copy 68 = .ok (.if_icmp .eq 9, 3) := by decide +kernel
theorem dX9_copy_71 : decode cX9_copy 71 = .ok (.aload_n 0, 1) := by decide +kernel
theorem dX9_copy_72 : decode cX9_copy 72 = .ok (.iconst 2, 1) := by decide +kernel
theorem dX9_copy_73 : decode cX9_copy 73 = .ok (.invokevirtual 74, 3) := by decide +kernel
theorem dX9_copy_76 : decode cX9_copy 76 = .ok (.ireturn, 1) := by decide +kernel
theorem dX9_copy_77 : decode cX9_copy 77 = .ok (.aload 6, 2) := by decide +kernel
theorem dX9_copy_79 : decode cX9_copy 79 = .ok (.iload_n 2, 1) := by decide +kernel
theorem dX9_copy_80 : decode cX9_copy 80 = .ok (.iload 5, 2) := by decide +kernel
theorem dX9_copy_82 : decode cX9_copy 82 = .ok (.invokevirtual 216, 3) := by decide +kernel
theorem dX9_copy_85 : decode cX9_copy 85 = .ok (.ifCond .eq 15, 3) := by decide +kernel
theorem dX9_copy_88 : decode cX9_copy 88 = .ok (.aload 7, 2) := by decide +kernel
theorem dX9_copy_90 : decode cX9_copy 90 = .ok (.iload 4, 2) := by decide +kernel
theorem dX9_copy_92 : decode cX9_copy 92 = .ok (.iload 5, 2) := by decide +kernel
theorem dX9_copy_94 : decode cX9_copy 94 = .ok (.invokevirtual 216, 3) := by decide +kernel
theorem dX9_copy_97 : decode cX9_copy 97 = .ok (.ifCond .ne 9, 3) := by decide +kernel
theorem dX9_copy_100 : decode cX9_copy 100 = .ok (.aload_n 0, 1) := by decide +kernel
theorem dX9_copy_101 : decode cX9_copy 101 = .ok (.iconst 0, 1) := by decide +kernel
theorem dX9_copy_102 : decode cX9_copy 102 = .ok (.invokevirtual 74, 3) := by decide +kernel
theorem dX9_copy_105 : decode cX9_copy 105 = .ok (.ireturn, 1) := by decide +kernel
theorem dX9_copy_106 : decode cX9_copy 106 = .ok (.aload 6, 2) := by decide +kernel
theorem dX9_copy_108 : decode cX9_copy 108 = .ok (.getfield 205, 3) := by decide +kernel
theorem dX9_copy_111 : decode cX9_copy 111 = .ok (.iload_n 2, 1) := by decide +kernel
theorem dX9_copy_112 : decode cX9_copy 112 = .ok (.aload 7, 2) := by decide +kernel
theorem dX9_copy_114 : decode cX9_copy 114 = .ok (.getfield 205, 3) := by decide +kernel
theorem dX9_copy_117 : decode cX9_copy 117 = .ok (.iload 4, 2) := by decide +kernel
theorem dX9_copy_119 : decode cX9_copy 119 = .ok (.iload 5, 2) := by decide +kernel
theorem dX9_copy_121 : decode cX9_copy 121 = .ok (.invokestatic 219, 3) := by decide +kernel
theorem dX9_copy_124 : decode cX9_copy 124 = .ok (.iload 5, 2) := by decide +kernel
theorem dX9_copy_126 : decode cX9_copy 126 = .ok (.ireturn, 1) := by decide +kernel
theorem dX9_lays_0 : decode cX9_lays 0 = .ok (.iload_n 1, 1) := by decide +kernel
theorem dX9_lays_1 : decode cX9_lays 1 = .ok (.invokestatic 195, 3) := by decide +kernel
theorem dX9_lays_4 : decode cX9_lays 4 = .ok (.ifCond .ne 9, 3) := by decide +kernel
theorem dX9_lays_7 : decode cX9_lays 7 = .ok (.aload_n 0, 1) := by decide +kernel
theorem dX9_lays_8 : decode cX9_lays 8 = .ok (.iconst 0, 1) := by decide +kernel
theorem dX9_lays_9 : decode cX9_lays 9 = .ok (.invokevirtual 74, 3) := by decide +kernel
theorem dX9_lays_12 : decode cX9_lays 12 = .ok (.ireturn, 1) := by decide +kernel
theorem dX9_lays_13 : decode cX9_lays 13 = .ok (.aload_n 0, 1) := by decide +kernel
theorem dX9_lays_14 : decode cX9_lays 14 = .ok (.getfield 57, 3) := by decide +kernel
theorem dX9_lays_17 : decode cX9_lays 17 = .ok (.iload_n 1, 1) := by decide +kernel
theorem dX9_lays_18 : decode cX9_lays 18 = .ok (.aaload, 1) := by decide +kernel
theorem dX9_lays_19 : decode cX9_lays 19 = .ok (.astore_n 2, 1) := by decide +kernel
theorem dX9_lays_20 : decode cX9_lays 20 = .ok (.aload_n 2, 1) := by decide +kernel
theorem dX9_lays_21 : decode cX9_lays 21 = .ok (.invokevirtual 202, 3) := by decide +kernel
theorem dX9_lays_24 : decode cX9_lays 24 = .ok (.ifCond .eq 9, 3) := by decide +kernel
theorem dX9_lays_27 : decode cX9_lays 27 = .ok (.aload_n 0, 1) := by decide +kernel
theorem dX9_lays_28 : decode cX9_lays 28 = .ok (.iconst 5, 1) := by decide +kernel
theorem dX9_lays_29 : decode cX9_lays 29 = .ok (.invokevirtual 74, 3) := by decide +kernel
theorem dX9_lays_32 : decode cX9_lays 32 = .ok (.ireturn, 1) := by decide +kernel
theorem dX9_lays_33 : decode cX9_lays 33 = .ok (.iconst 0, 1) := by decide +kernel
theorem dX9_lays_34 : decode cX9_lays 34 = .ok (.istore_n 3, 1) := by decide +kernel
theorem dX9_lays_35 : decode cX9_lays 35 = .ok (.iconst 0, 1) := by decide +kernel
theorem dX9_lays_36 : decode cX9_lays 36 = .ok (.istore 4, 2) := by decide +kernel
theorem dX9_lays_38 : decode cX9_lays 38 = .ok (.iload 4, 2) := by decide +kernel
theorem dX9_lays_40 : decode cX9_lays 40 = .ok (.aload_n 2, 1) := by decide +kernel
theorem dX9_lays_41 : decode cX9_lays 41 = .ok (.getfield 201, 3) := by decide +kernel
theorem dX9_lays_44 : decode cX9_lays 44 = .ok (.if_icmp .ge 62, 3) := by decide +kernel
theorem dX9_lays_47 : decode cX9_lays 47 = .ok (.iload 4, 2) := by decide +kernel
theorem dX9_lays_49 : decode cX9_lays 49 = .ok (.aload_n 0, 1) := by decide +kernel
theorem dX9_lays_50 : decode cX9_lays 50 = .ok (.getfield 30, 3) := by decide +kernel
theorem dX9_lays_53 : decode cX9_lays 53 = .ok (.getfield 225, 3) := by decide +kernel
theorem dX9_lays_56 : decode cX9_lays 56 = .ok (.if_icmp .ge 50, 3) := by decide +kernel
theorem dX9_lays_59 : decode cX9_lays 59 = .ok (.aload_n 2, 1) := by decide +kernel
theorem dX9_lays_60 : decode cX9_lays 60 = .ok (.getfield 205, 3) := by decide +kernel
theorem dX9_lays_63 : decode cX9_lays 63 = .ok (.iload 4, 2) := by decide +kernel
theorem dX9_lays_65 : decode cX9_lays 65 = .ok (.laload, 1) := by decide +kernel
theorem dX9_lays_66 : decode cX9_lays 66 = .ok (.lstore 5, 2) := by decide +kernel
theorem dX9_lays_68 : decode cX9_lays 68 = .ok (.lload 5, 2) := by decide +kernel
theorem dX9_lays_70 : decode cX9_lays 70 = .ok (.lconst 0, 1) := by decide +kernel
theorem dX9_lays_71 : decode cX9_lays 71 = .ok (.lcmp, 1) := by decide +kernel
theorem dX9_lays_72 : decode cX9_lays 72 = .ok (.ifCond .lt 28, 3) := by decide +kernel
theorem dX9_lays_75 : decode cX9_lays 75 = .ok (.lload 5, 2) := by decide +kernel
theorem dX9_lays_77 : decode cX9_lays 77 = .ok (.ldc2_w 228, 3) := by decide +kernel
theorem dX9_lays_80 : decode cX9_lays 80 = .ok (.lcmp, 1) := by decide +kernel
theorem dX9_lays_81 : decode cX9_lays 81 = .ok (.ifCond .gt 19, 3) := by decide +kernel
theorem dX9_lays_84 : decode cX9_lays 84 = .ok (.aload_n 0, 1) := by decide +kernel
theorem dX9_lays_85 : decode cX9_lays 85 = .ok (.getfield 30, 3) := by decide +kernel
theorem dX9_lays_88 : decode cX9_lays 88 = .ok (.getfield 149, 3) := by decide +kernel
theorem dX9_lays_91 : decode cX9_lays 91 = .ok (.iload 4, 2) := by decide +kernel
theorem dX9_lays_93 : decode cX9_lays 93 = .ok (.lload 5, 2) := by decide +kernel
theorem dX9_lays_95 : decode cX9_lays 95 = .ok (.l2i, 1) := by decide +kernel
theorem dX9_lays_96 : decode cX9_lays 96 = .ok (.iastore, 1) := by decide +kernel
theorem dX9_lays_97 : decode cX9_lays 97 = .ok (.iinc 3 1, 3) := by decide +kernel
theorem dX9_lays_100 : decode cX9_lays 100 = .ok (.iinc 4 1, 3) := by decide +kernel
theorem dX9_lays_103 : decode cX9_lays 103 = .ok (.goto (-65), 3) := by decide +kernel
theorem dX9_lays_106 : decode cX9_lays 106 = .ok (.iload_n 3, 1) := by decide +kernel
theorem dX9_lays_107 : decode cX9_lays 107 = .ok (.ireturn, 1) := by decide +kernel
theorem dX9_book_0 : decode cX9_book 0 = .ok (.iload_n 1, 1) := by decide +kernel
theorem dX9_book_1 : decode cX9_book 1 = .ok (.invokestatic 195, 3) := by decide +kernel
theorem dX9_book_4 : decode cX9_book 4 = .ok (.ifCond .ne 9, 3) := by decide +kernel
theorem dX9_book_7 : decode cX9_book 7 = .ok (.aload_n 0, 1) := by decide +kernel
theorem dX9_book_8 : decode cX9_book 8 = .ok (.iconst 0, 1) := by decide +kernel
theorem dX9_book_9 : decode cX9_book 9 = .ok (.invokevirtual 74, 3) := by decide +kernel
theorem dX9_book_12 : decode cX9_book 12 = .ok (.ireturn, 1) := by decide +kernel
theorem dX9_book_13 : decode cX9_book 13 = .ok (.aload_n 0, 1) := by decide +kernel
theorem dX9_book_14 : decode cX9_book 14 = .ok (.getfield 57, 3) := by decide +kernel
theorem dX9_book_17 : decode cX9_book 17 = .ok (.iload_n 1, 1) := by decide +kernel
theorem dX9_book_18 : decode cX9_book 18 = .ok (.aaload, 1) := by decide +kernel
theorem dX9_book_19 : decode cX9_book 19 = .ok (.astore_n 3, 1) := by decide +kernel
theorem dX9_book_20 : decode cX9_book 20 = .ok (.aload_n 3, 1) := by decide +kernel
theorem dX9_book_21 : decode cX9_book 21 = .ok (.invokevirtual 202, 3) := by decide +kernel
theorem dX9_book_24 : decode cX9_book 24 = .ok (.ifCond .eq 9, 3) := by decide +kernel
theorem dX9_book_27 : decode cX9_book 27 = .ok (.aload_n 0, 1) := by decide +kernel
theorem dX9_book_28 : decode cX9_book 28 = .ok (.iconst 5, 1) := by decide +kernel
theorem dX9_book_29 : decode cX9_book 29 = .ok (.invokevirtual 74, 3) := by decide +kernel
theorem dX9_book_32 : decode cX9_book 32 = .ok (.ireturn, 1) := by decide +kernel
theorem dX9_book_33 : decode cX9_book 33 = .ok (.aload_n 0, 1) := by decide +kernel
theorem dX9_book_34 : decode cX9_book 34 = .ok (.iload_n 2, 1) := by decide +kernel
theorem dX9_book_35 : decode cX9_book 35 = .ok (.invokevirtual 146, 3) := by decide +kernel
theorem dX9_book_38 : decode cX9_book 38 = .ok (.ifCond .ne 9, 3) := by decide +kernel
theorem dX9_book_41 : decode cX9_book 41 = .ok (.aload_n 0, 1) := by decide +kernel
theorem dX9_book_42 : decode cX9_book 42 = .ok (.iconst 0, 1) := by decide +kernel
theorem dX9_book_43 : decode cX9_book 43 = .ok (.invokevirtual 74, 3) := by decide +kernel
theorem dX9_book_46 : decode cX9_book 46 = .ok (.ireturn, 1) := by decide +kernel
theorem dX9_book_47 : decode cX9_book 47 = .ok (.aload_n 0, 1) := by decide +kernel
theorem dX9_book_48 : decode cX9_book 48 = .ok (.getfield 36, 3) := by decide +kernel
theorem dX9_book_51 : decode cX9_book 51 = .ok (.aload_n 0, 1) := by decide +kernel
theorem dX9_book_52 : decode cX9_book 52 = .ok (.getfield 30, 3) := by decide +kernel
theorem dX9_book_55 : decode cX9_book 55 = .ok (.invokevirtual 173, 3) := by decide +kernel
theorem dX9_book_58 : decode cX9_book 58 = .ok (.iconst 0, 1) := by decide +kernel
theorem dX9_book_59 : decode cX9_book 59 = .ok (.istore 4, 2) := by decide +kernel
theorem dX9_book_61 : decode cX9_book 61 = .ok (.iload 4, 2) := by decide +kernel
theorem dX9_book_63 : decode cX9_book 63 = .ok (.aload_n 3, 1) := by decide +kernel
theorem dX9_book_64 : decode cX9_book 64 = .ok (.getfield 201, 3) := by decide +kernel
theorem dX9_book_67 : decode cX9_book 67 = .ok (.if_icmp .ge 32, 3) := by decide +kernel
theorem dX9_book_70 : decode cX9_book 70 = .ok (.aload_n 3, 1) := by decide +kernel
theorem dX9_book_71 : decode cX9_book 71 = .ok (.iload 4, 2) := by decide +kernel
theorem dX9_book_73 : decode cX9_book 73 = .ok (.aload_n 0, 1) := by decide +kernel
theorem dX9_book_74 : decode cX9_book 74 = .ok (.getfield 36, 3) := by decide +kernel
theorem dX9_book_77 : decode cX9_book 77 = .ok (.getfield 149, 3) := by decide +kernel
theorem dX9_book_80 : decode cX9_book 80 = .ok (.iload_n 2, 1) := by decide +kernel
theorem dX9_book_81 : decode cX9_book 81 = .ok (.iaload, 1) := by decide +kernel
theorem dX9_book_82 : decode cX9_book 82 = .ok (.i2l, 1) := by decide +kernel
theorem dX9_book_83 : decode cX9_book 83 = .ok (.invokevirtual 209, 3) := by decide +kernel
theorem dX9_book_86 : decode cX9_book 86 = .ok (.aload_n 0, 1) := by decide +kernel
theorem dX9_book_87 : decode cX9_book 87 = .ok (.getfield 36, 3) := by decide +kernel
theorem dX9_book_90 : decode cX9_book 90 = .ok (.invokevirtual 180, 3) := by decide +kernel
theorem dX9_book_93 : decode cX9_book 93 = .ok (.iinc 4 1, 3) := by decide +kernel
theorem dX9_book_96 : decode cX9_book 96 = .ok (.goto (-35), 3) := by decide +kernel
theorem dX9_book_99 : decode cX9_book 99 = .ok (.aload_n 3, 1) := by decide +kernel
theorem dX9_book_100 : decode cX9_book 100 = .ok (.getfield 201, 3) := by decide +kernel
theorem dX9_book_103 : decode cX9_book 103 = .ok (.ireturn, 1) := by decide +kernel
theorem dX9_read_0 : decode cX9_read 0 = .ok (.iload_n 1, 1) := by decide +kernel
theorem dX9_read_1 : decode cX9_read 1 = .ok (.invokestatic 195, 3) := by decide +kernel
theorem dX9_read_4 : decode cX9_read 4 = .ok (.ifCond .ne 9, 3) := by decide +kernel
theorem dX9_read_7 : decode cX9_read 7 = .ok (.aload_n 0, 1) := by decide +kernel
theorem dX9_read_8 : decode cX9_read 8 = .ok (.iconst 0, 1) := by decide +kernel
theorem dX9_read_9 : decode cX9_read 9 = .ok (.invokevirtual 74, 3) := by decide +kernel
theorem dX9_read_12 : decode cX9_read 12 = .ok (.ireturn, 1) := by decide +kernel
theorem dX9_read_13 : decode cX9_read 13 = .ok (.aload_n 0, 1) := by decide +kernel
theorem dX9_read_14 : decode cX9_read 14 = .ok (.getfield 57, 3) := by decide +kernel
theorem dX9_read_17 : decode cX9_read 17 = .ok (.iload_n 1, 1) := by decide +kernel
theorem dX9_read_18 : decode cX9_read 18 = .ok (.aaload, 1) := by decide +kernel
theorem dX9_read_19 : decode cX9_read 19 = .ok (.invokevirtual 202, 3) := by decide +kernel
theorem dX9_read_22 : decode cX9_read 22 = .ok (.ifCond .eq 9, 3) := by decide +kernel
theorem dX9_read_25 : decode cX9_read 25 = .ok (.aload_n 0, 1) := by decide +kernel
theorem dX9_read_26 : decode cX9_read 26 = .ok (.iconst 5, 1) := by decide +kernel
theorem dX9_read_27 : decode cX9_read 27 = .ok (.invokevirtual 74, 3) := by decide +kernel
theorem dX9_read_30 : decode cX9_read 30 = .ok (.ireturn, 1) := by decide +kernel
theorem dX9_read_31 : decode cX9_read 31 = .ok (.aload_n 0, 1) := by decide +kernel
theorem dX9_read_32 : decode cX9_read 32 = .ok (.iload_n 2, 1) := by decide +kernel
theorem dX9_read_33 : decode cX9_read 33 = .ok (.invokevirtual 146, 3) := by decide +kernel
theorem dX9_read_36 : decode cX9_read 36 = .ok (.ifCond .eq 11, 3) := by decide +kernel
theorem dX9_read_39 : decode cX9_read 39 = .ok (.aload_n 0, 1) := by decide +kernel
theorem dX9_read_40 : decode cX9_read 40 = .ok (.iload_n 3, 1) := by decide +kernel
theorem dX9_read_41 : decode cX9_read 41 = .ok (.invokevirtual 81, 3) := by decide +kernel
theorem dX9_read_44 : decode cX9_read 44 = .ok (.ifCond .ne 9, 3) := by decide +kernel
theorem dX9_read_47 : decode cX9_read 47 = .ok (.aload_n 0, 1) := by decide +kernel
theorem dX9_read_48 : decode cX9_read 48 = .ok (.iconst 0, 1) := by decide +kernel
theorem dX9_read_49 : decode cX9_read 49 = .ok (.invokevirtual 74, 3) := by decide +kernel
theorem dX9_read_52 : decode cX9_read 52 = .ok (.ireturn, 1) := by decide +kernel
theorem dX9_read_53 : decode cX9_read 53 = .ok (.iconst 0, 1) := by decide +kernel
theorem dX9_read_54 : decode cX9_read 54 = .ok (.istore 4, 2) := by decide +kernel
theorem dX9_read_56 : decode cX9_read 56 = .ok (.iconst 0, 1) := by decide +kernel
theorem dX9_read_57 : decode cX9_read 57 = .ok (.istore 5, 2) := by decide +kernel
theorem dX9_read_59 : decode cX9_read 59 = .ok (.iload 5, 2) := by decide +kernel
theorem dX9_read_61 : decode cX9_read 61 = .ok (.bipush 6, 2) := by decide +kernel
theorem dX9_read_63 : decode cX9_read 63 = .ok (.if_icmp .ge 75, 3) := by decide +kernel
theorem dX9_read_66 : decode cX9_read 66 = .ok (.iconst 0, 1) := by decide +kernel
theorem dX9_read_67 : decode cX9_read 67 = .ok (.istore 6, 2) := by decide +kernel
theorem dX9_read_69 : decode cX9_read 69 = .ok (.iload 6, 2) := by decide +kernel
theorem dX9_read_71 : decode cX9_read 71 = .ok (.bipush 6, 2) := by decide +kernel
theorem dX9_read_73 : decode cX9_read 73 = .ok (.if_icmp .ge 59, 3) := by decide +kernel
theorem dX9_read_76 : decode cX9_read 76 = .ok (.aload_n 0, 1) := by decide +kernel
theorem dX9_read_77 : decode cX9_read 77 = .ok (.getfield 36, 3) := by decide +kernel
theorem dX9_read_80 : decode cX9_read 80 = .ok (.aload_n 0, 1) := by decide +kernel
theorem dX9_read_81 : decode cX9_read 81 = .ok (.getfield 30, 3) := by decide +kernel
theorem dX9_read_84 : decode cX9_read 84 = .ok (.invokevirtual 173, 3) := by decide +kernel
theorem dX9_read_87 : decode cX9_read 87 = .ok (.aload_n 0, 1) := by decide +kernel
theorem dX9_read_88 : decode cX9_read 88 = .ok (.getfield 36, 3) := by decide +kernel
theorem dX9_read_91 : decode cX9_read 91 = .ok (.getfield 114, 3) := by decide +kernel
theorem dX9_read_94 : decode cX9_read 94 = .ok (.iload_n 3, 1) := by decide +kernel
theorem dX9_read_95 : decode cX9_read 95 = .ok (.iload 5, 2) := by decide +kernel
theorem dX9_read_97 : decode cX9_read 97 = .ok (.iastore, 1) := by decide +kernel
theorem dX9_read_98 : decode cX9_read 98 = .ok (.aload_n 0, 1) := by decide +kernel
theorem dX9_read_99 : decode cX9_read 99 = .ok (.getfield 36, 3) := by decide +kernel
theorem dX9_read_102 : decode cX9_read 102 = .ok (.getfield 152, 3) := by decide +kernel
theorem dX9_read_105 : decode cX9_read 105 = .ok (.iload_n 2, 1) := by decide +kernel
theorem dX9_read_106 : decode cX9_read 106 = .ok (.iload 6, 2) := by decide +kernel
theorem dX9_read_108 : decode cX9_read 108 = .ok (.iastore, 1) := by decide +kernel
theorem dX9_read_109 : decode cX9_read 109 = .ok (.aload_n 0, 1) := by decide +kernel
theorem dX9_read_110 : decode cX9_read 110 = .ok (.aload_n 0, 1) := by decide +kernel
theorem dX9_read_111 : decode cX9_read 111 = .ok (.getfield 57, 3) := by decide +kernel
theorem dX9_read_114 : decode cX9_read 114 = .ok (.iload_n 1, 1) := by decide +kernel
theorem dX9_read_115 : decode cX9_read 115 = .ok (.aaload, 1) := by decide +kernel
theorem dX9_read_116 : decode cX9_read 116 = .ok (.iload_n 2, 1) := by decide +kernel
theorem dX9_read_117 : decode cX9_read 117 = .ok (.invokevirtual 230, 3) := by decide +kernel
theorem dX9_read_120 : decode cX9_read 120 = .ok (.ifCond .eq 6, 3) := by decide +kernel
theorem dX9_read_123 : decode cX9_read 123 = .ok (.iinc 4 1, 3) := by decide +kernel
theorem dX9_read_126 : decode cX9_read 126 = .ok (.iinc 6 1, 3) := by decide +kernel
theorem dX9_read_129 : decode cX9_read 129 = .ok (.goto (-60), 3) := by decide +kernel
theorem dX9_read_132 : decode cX9_read 132 = .ok (.iinc 5 1, 3) := by decide +kernel
theorem dX9_read_135 : decode cX9_read 135 = .ok (.goto (-76), 3) := by decide +kernel
theorem dX9_read_138 : decode cX9_read 138 = .ok (.iload 4, 2) := by decide +kernel
theorem dX9_read_140 : decode cX9_read 140 = .ok (.ireturn, 1) := by decide +kernel
theorem dX9_image_0 : decode cX9_image 0 = .ok (.aload_n 0, 1) := by decide +kernel
theorem dX9_image_1 : decode cX9_image 1 = .ok (.getfield 39, 3) := by decide +kernel
theorem dX9_image_4 : decode cX9_image 4 = .ok (.aload_n 0, 1) := by decide +kernel
theorem dX9_image_5 : decode cX9_image 5 = .ok (.getfield 30, 3) := by decide +kernel
theorem dX9_image_8 : decode cX9_image 8 = .ok (.invokevirtual 173, 3) := by decide +kernel
theorem dX9_image_11 : decode cX9_image 11 = .ok (.aload_n 0, 1) := by decide +kernel
theorem dX9_image_12 : decode cX9_image 12 = .ok (.iconst 1, 1) := by decide +kernel
theorem dX9_image_13 : decode cX9_image 13 = .ok (.putfield 42, 3) := by decide +kernel
theorem dX9_image_16 : decode cX9_image 16 = .ok (.iconst 1, 1) := by decide +kernel
theorem dX9_image_17 : decode cX9_image 17 = .ok (.ireturn, 1) := by decide +kernel
theorem dX9_undo_0 : decode cX9_undo 0 = .ok (.aload_n 0, 1) := by decide +kernel
theorem dX9_undo_1 : decode cX9_undo 1 = .ok (.getfield 42, 3) := by decide +kernel
theorem dX9_undo_4 : decode cX9_undo 4 = .ok (.ifCond .ne 9, 3) := by decide +kernel
theorem dX9_undo_7 : decode cX9_undo 7 = .ok (.aload_n 0, 1) := by decide +kernel
theorem dX9_undo_8 : decode cX9_undo 8 = .ok (.iconst 3, 1) := by decide +kernel
theorem dX9_undo_9 : decode cX9_undo 9 = .ok (.invokevirtual 74, 3) := by decide +kernel
theorem dX9_undo_12 : decode cX9_undo 12 = .ok (.ireturn, 1) := by decide +kernel
theorem dX9_undo_13 : decode cX9_undo 13 = .ok (.aload_n 0, 1) := by decide +kernel
theorem dX9_undo_14 : decode cX9_undo 14 = .ok (.getfield 30, 3) := by decide +kernel
theorem dX9_undo_17 : decode cX9_undo 17 = .ok (.aload_n 0, 1) := by decide +kernel
theorem dX9_undo_18 : decode cX9_undo 18 = .ok (.getfield 39, 3) := by decide +kernel
theorem dX9_undo_21 : decode cX9_undo 21 = .ok (.invokevirtual 173, 3) := by decide +kernel
theorem dX9_undo_24 : decode cX9_undo 24 = .ok (.aload_n 0, 1) := by decide +kernel
theorem dX9_undo_25 : decode cX9_undo 25 = .ok (.getfield 30, 3) := by decide +kernel
theorem dX9_undo_28 : decode cX9_undo 28 = .ok (.getfield 183, 3) := by decide +kernel
theorem dX9_undo_31 : decode cX9_undo 31 = .ok (.ireturn, 1) := by decide +kernel
theorem dX9_tear_0 : decode cX9_tear 0 = .ok (.aload_n 0, 1) := by decide +kernel
theorem dX9_tear_1 : decode cX9_tear 1 = .ok (.getfield 42, 3) := by decide +kernel
theorem dX9_tear_4 : decode cX9_tear 4 = .ok (.ifCond .eq 7, 3) := by decide +kernel
theorem dX9_tear_7 : decode cX9_tear 7 = .ok (.iconst 1, 1) := by decide +kernel
theorem dX9_tear_8 : decode cX9_tear 8 = .ok (.goto 4, 3) := by decide +kernel
theorem dX9_tear_11 : decode cX9_tear 11 = .ok (.iconst 0, 1) := by decide +kernel
theorem dX9_tear_12 : decode cX9_tear 12 = .ok (.istore_n 1, 1) := by decide +kernel
theorem dX9_tear_13 : decode cX9_tear 13 = .ok (.aload_n 0, 1) := by decide +kernel
theorem dX9_tear_14 : decode cX9_tear 14 = .ok (.iconst 0, 1) := by decide +kernel
theorem dX9_tear_15 : decode cX9_tear 15 = .ok (.putfield 42, 3) := by decide +kernel
theorem dX9_tear_18 : decode cX9_tear 18 = .ok (.iload_n 1, 1) := by decide +kernel
theorem dX9_tear_19 : decode cX9_tear 19 = .ok (.ireturn, 1) := by decide +kernel
theorem dX9_count_0 : decode cX9_count 0 = .ok (.iload_n 1, 1) := by decide +kernel
theorem dX9_count_1 : decode cX9_count 1 = .ok (.tableswitch 63 0 3 #[31, 39, 47, 55], 31) := by decide +kernel
theorem dX9_count_32 : decode cX9_count 32 = .ok (.aload_n 0, 1) := by decide +kernel
theorem dX9_count_33 : decode cX9_count 33 = .ok (.getfield 30, 3) := by decide +kernel
theorem dX9_count_36 : decode cX9_count 36 = .ok (.getfield 183, 3) := by decide +kernel
theorem dX9_count_39 : decode cX9_count 39 = .ok (.ireturn, 1) := by decide +kernel
theorem dX9_count_40 : decode cX9_count 40 = .ok (.aload_n 0, 1) := by decide +kernel
theorem dX9_count_41 : decode cX9_count 41 = .ok (.getfield 30, 3) := by decide +kernel
theorem dX9_count_44 : decode cX9_count 44 = .ok (.getfield 225, 3) := by decide +kernel
theorem dX9_count_47 : decode cX9_count 47 = .ok (.ireturn, 1) := by decide +kernel
theorem dX9_count_48 : decode cX9_count 48 = .ok (.aload_n 0, 1) := by decide +kernel
theorem dX9_count_49 : decode cX9_count 49 = .ok (.getfield 51, 3) := by decide +kernel
theorem dX9_count_52 : decode cX9_count 52 = .ok (.getfield 186, 3) := by decide +kernel
theorem dX9_count_55 : decode cX9_count 55 = .ok (.ireturn, 1) := by decide +kernel
theorem dX9_count_56 : decode cX9_count 56 = .ok (.aload_n 0, 1) := by decide +kernel
theorem dX9_count_57 : decode cX9_count 57 = .ok (.getfield 30, 3) := by decide +kernel
theorem dX9_count_60 : decode cX9_count 60 = .ok (.invokevirtual 234, 3) := by decide +kernel
theorem dX9_count_63 : decode cX9_count 63 = .ok (.ireturn, 1) := by decide +kernel
theorem dX9_count_64 : decode cX9_count 64 = .ok (.aload_n 0, 1) := by decide +kernel
theorem dX9_count_65 : decode cX9_count 65 = .ok (.iconst 0, 1) := by decide +kernel
theorem dX9_count_66 : decode cX9_count 66 = .ok (.invokevirtual 74, 3) := by decide +kernel
theorem dX9_count_69 : decode cX9_count 69 = .ok (.ireturn, 1) := by decide +kernel
theorem dX9_status_0 : decode cX9_status 0 = .ok (.iload_n 1, 1) := by decide +kernel
theorem dX9_status_1 : decode cX9_status 1 = .ok (.iconst (-1), 1) := by decide +kernel
theorem dX9_status_2 : decode cX9_status 2 = .ok (.if_icmp .ne 30, 3) := by decide +kernel
theorem dX9_status_5 : decode cX9_status 5 = .ok (.iconst 0, 1) := by decide +kernel
theorem dX9_status_6 : decode cX9_status 6 = .ok (.istore_n 2, 1) := by decide +kernel
theorem dX9_status_7 : decode cX9_status 7 = .ok (.iconst 0, 1) := by decide +kernel
theorem dX9_status_8 : decode cX9_status 8 = .ok (.istore_n 3, 1) := by decide +kernel
theorem dX9_status_9 : decode cX9_status 9 = .ok (.iload_n 3, 1) := by decide +kernel
theorem dX9_status_10 : decode cX9_status 10 = .ok (.bipush 7, 2) := by decide +kernel
theorem dX9_status_12 : decode cX9_status 12 = .ok (.if_icmp .ge 18, 3) := by decide +kernel
theorem dX9_status_15 : decode cX9_status 15 = .ok (.iload_n 2, 1) := by decide +kernel
theorem dX9_status_16 : decode cX9_status 16 = .ok (.aload_n 0, 1) := by decide +kernel
theorem dX9_status_17 : decode cX9_status 17 = .ok (.getfield 62, 3) := by decide +kernel
theorem dX9_status_20 : decode cX9_status 20 = .ok (.iload_n 3, 1) := by decide +kernel
theorem dX9_status_21 : decode cX9_status 21 = .ok (.iaload, 1) := by decide +kernel
theorem dX9_status_22 : decode cX9_status 22 = .ok (.iadd, 1) := by decide +kernel
theorem dX9_status_23 : decode cX9_status 23 = .ok (.istore_n 2, 1) := by decide +kernel
theorem dX9_status_24 : decode cX9_status 24 = .ok (.iinc 3 1, 3) := by decide +kernel
theorem dX9_status_27 : decode cX9_status 27 = .ok (.goto (-18), 3) := by decide +kernel
theorem dX9_status_30 : decode cX9_status 30 = .ok (.iload_n 2, 1) := by decide +kernel
theorem dX9_status_31 : decode cX9_status 31 = .ok (.ireturn, 1) := by decide +kernel
theorem dX9_status_32 : decode cX9_status 32 = .ok (.iload_n 1, 1) := by decide +kernel
theorem dX9_status_33 : decode cX9_status 33 = .ok (.ifCond .lt 18, 3) := by decide +kernel
theorem dX9_status_36 : decode cX9_status 36 = .ok (.iload_n 1, 1) := by decide +kernel
theorem dX9_status_37 : decode cX9_status 37 = .ok (.bipush 7, 2) := by decide +kernel
theorem dX9_status_39 : decode cX9_status 39 = .ok (.if_icmp .ge 12, 3) := by decide +kernel
theorem dX9_status_42 : decode cX9_status 42 = .ok (.aload_n 0, 1) := by decide +kernel
theorem dX9_status_43 : decode cX9_status 43 = .ok (.getfield 62, 3) := by decide +kernel
theorem dX9_status_46 : decode cX9_status 46 = .ok (.iload_n 1, 1) := by decide +kernel
theorem dX9_status_47 : decode cX9_status 47 = .ok (.iaload, 1) := by decide +kernel
theorem dX9_status_48 : decode cX9_status 48 = .ok (.goto 8, 3) := by decide +kernel
theorem dX9_status_51 : decode cX9_status 51 = .ok (.aload_n 0, 1) := by decide +kernel
theorem dX9_status_52 : decode cX9_status 52 = .ok (.iconst 0, 1) := by decide +kernel
theorem dX9_status_53 : decode cX9_status 53 = .ok (.invokevirtual 74, 3) := by decide +kernel
theorem dX9_status_56 : decode cX9_status 56 = .ok (.ireturn, 1) := by decide +kernel
theorem dX9_finding_0 : decode cX9_finding 0 = .ok (.aload_n 0, 1) := by decide +kernel
theorem dX9_finding_1 : decode cX9_finding 1 = .ok (.getfield 62, 3) := by decide +kernel
theorem dX9_finding_4 : decode cX9_finding 4 = .ok (.iload_n 1, 1) := by decide +kernel
theorem dX9_finding_5 : decode cX9_finding 5 = .ok (.dup2, 1) := by decide +kernel
theorem dX9_finding_6 : decode cX9_finding 6 = .ok (.iaload, 1) := by decide +kernel
theorem dX9_finding_7 : decode cX9_finding 7 = .ok (.iconst 1, 1) := by decide +kernel
theorem dX9_finding_8 : decode cX9_finding 8 = .ok (.iadd, 1) := by decide +kernel
theorem dX9_finding_9 : decode cX9_finding 9 = .ok (.iastore, 1) := by decide +kernel
theorem dX9_finding_10 : decode cX9_finding 10 = .ok (.ldc 237, 2) := by decide +kernel
theorem dX9_finding_12 : decode cX9_finding 12 = .ok (.iload_n 1, 1) := by decide +kernel
theorem dX9_finding_13 : decode cX9_finding 13 = .ok (.isub, 1) := by decide +kernel
theorem dX9_finding_14 : decode cX9_finding 14 = .ok (.ireturn, 1) := by decide +kernel
theorem dX9_isBeard_0 : decode cX9_isBeard 0 = .ok (.iload_n 1, 1) := by decide +kernel
theorem dX9_isBeard_1 : decode cX9_isBeard 1 = .ok (.ifCond .lt 18, 3) := by decide +kernel
theorem dX9_isBeard_4 : decode cX9_isBeard 4 = .ok (.iload_n 1, 1) := by decide +kernel
theorem dX9_isBeard_5 : decode cX9_isBeard 5 = .ok (.aload_n 0, 1) := by decide +kernel
theorem dX9_isBeard_6 : decode cX9_isBeard 6 = .ok (.getfield 30, 3) := by decide +kernel
theorem dX9_isBeard_9 : decode cX9_isBeard 9 = .ok (.getfield 183, 3) := by decide +kernel
theorem dX9_isBeard_12 : decode cX9_isBeard 12 = .ok (.if_icmp .ge 7, 3) := by decide +kernel
theorem dX9_isBeard_15 : decode cX9_isBeard 15 = .ok (.iconst 1, 1) := by decide +kernel
theorem dX9_isBeard_16 : decode cX9_isBeard 16 = .ok (.goto 4, 3) := by decide +kernel
theorem dX9_isBeard_19 : decode cX9_isBeard 19 = .ok (.iconst 0, 1) := by decide +kernel
theorem dX9_isBeard_20 : decode cX9_isBeard 20 = .ok (.ireturn, 1) := by decide +kernel
theorem dX9_isWearer_0 : decode cX9_isWearer 0 = .ok (.iload_n 1, 1) := by decide +kernel
theorem dX9_isWearer_1 : decode cX9_isWearer 1 = .ok (.ifCond .lt 18, 3) := by decide +kernel
theorem dX9_isWearer_4 : decode cX9_isWearer 4 = .ok (.iload_n 1, 1) := by decide +kernel
theorem dX9_isWearer_5 : decode cX9_isWearer 5 = .ok (.aload_n 0, 1) := by decide +kernel
theorem dX9_isWearer_6 : decode cX9_isWearer 6 = .ok (.getfield 30, 3) := by decide +kernel
theorem dX9_isWearer_9 : decode cX9_isWearer 9 = .ok (.getfield 225, 3) := by decide +kernel
theorem dX9_isWearer_12 : decode cX9_isWearer 12 = .ok (.if_icmp .ge 7, 3) := by decide +kernel
theorem dX9_isWearer_15 : decode cX9_isWearer 15 = .ok (.iconst 1, 1) := by decide +kernel
theorem dX9_isWearer_16 : decode cX9_isWearer 16 = .ok (.goto 4, 3) := by decide +kernel
theorem dX9_isWearer_19 : decode cX9_isWearer 19 = .ok (.iconst 0, 1) := by decide +kernel
theorem dX9_isWearer_20 : decode cX9_isWearer 20 = .ok (.ireturn, 1) := by decide +kernel
theorem dX9_isHouse_0 : decode cX9_isHouse 0 = .ok (.iload_n 0, 1) := by decide +kernel
theorem dX9_isHouse_1 : decode cX9_isHouse 1 = .ok (.ifCond .lt 13, 3) := by decide +kernel
theorem dX9_isHouse_4 : decode cX9_isHouse 4 = .ok (.iload_n 0, 1) := by decide +kernel
theorem dX9_isHouse_5 : decode cX9_isHouse 5 = .ok (.bipush 6, 2) := by decide +kernel
theorem dX9_isHouse_7 : decode cX9_isHouse 7 = .ok (.if_icmp .ge 7, 3) := by decide +kernel
theorem dX9_isHouse_10 : decode cX9_isHouse 10 = .ok (.iconst 1, 1) := by decide +kernel
theorem dX9_isHouse_11 : decode cX9_isHouse 11 = .ok (.goto 4, 3) := by decide +kernel
theorem dX9_isHouse_14 : decode cX9_isHouse 14 = .ok (.iconst 0, 1) := by decide +kernel
theorem dX9_isHouse_15 : decode cX9_isHouse 15 = .ok (.ireturn, 1) := by decide +kernel
theorem dX9_isKind_0 : decode cX9_isKind 0 = .ok (.iload_n 0, 1) := by decide +kernel
theorem dX9_isKind_1 : decode cX9_isKind 1 = .ok (.ifCond .lt 13, 3) := by decide +kernel
theorem dX9_isKind_4 : decode cX9_isKind 4 = .ok (.iload_n 0, 1) := by decide +kernel
theorem dX9_isKind_5 : decode cX9_isKind 5 = .ok (.bipush 6, 2) := by decide +kernel
theorem dX9_isKind_7 : decode cX9_isKind 7 = .ok (.if_icmp .ge 7, 3) := by decide +kernel
theorem dX9_isKind_10 : decode cX9_isKind 10 = .ok (.iconst 1, 1) := by decide +kernel
theorem dX9_isKind_11 : decode cX9_isKind 11 = .ok (.goto 4, 3) := by decide +kernel
theorem dX9_isKind_14 : decode cX9_isKind 14 = .ok (.iconst 0, 1) := by decide +kernel
theorem dX9_isKind_15 : decode cX9_isKind 15 = .ok (.ireturn, 1) := by decide +kernel
theorem dX9_isSheet_0 : decode cX9_isSheet 0 = .ok (.iload_n 0, 1) := by decide +kernel
theorem dX9_isSheet_1 : decode cX9_isSheet 1 = .ok (.ifCond .lt 12, 3) := by decide +kernel
theorem dX9_isSheet_4 : decode cX9_isSheet 4 = .ok (.iload_n 0, 1) := by decide +kernel
theorem dX9_isSheet_5 : decode cX9_isSheet 5 = .ok (.iconst 4, 1) := by decide +kernel
theorem dX9_isSheet_6 : decode cX9_isSheet 6 = .ok (.if_icmp .ge 7, 3) := by decide +kernel
theorem dX9_isSheet_9 : decode cX9_isSheet 9 = .ok (.iconst 1, 1) := by decide +kernel
theorem dX9_isSheet_10 : decode cX9_isSheet 10 = .ok (.goto 4, 3) := by decide +kernel
theorem dX9_isSheet_13 : decode cX9_isSheet 13 = .ok (.iconst 0, 1) := by decide +kernel
theorem dX9_isSheet_14 : decode cX9_isSheet 14 = .ok (.ireturn, 1) := by decide +kernel
theorem dX9_isWithin_0 : decode cX9_isWithin 0 = .ok (.iload_n 0, 1) := by decide +kernel
theorem dX9_isWithin_1 : decode cX9_isWithin 1 = .ok (.iload_n 1, 1) := by decide +kernel
theorem dX9_isWithin_2 : decode cX9_isWithin 2 = .ok (.if_icmp .lt 12, 3) := by decide +kernel
theorem dX9_isWithin_5 : decode cX9_isWithin 5 = .ok (.iload_n 0, 1) := by decide +kernel
theorem dX9_isWithin_6 : decode cX9_isWithin 6 = .ok (.iload_n 2, 1) := by decide +kernel
theorem dX9_isWithin_7 : decode cX9_isWithin 7 = .ok (.if_icmp .gt 7, 3) := by decide +kernel
theorem dX9_isWithin_10 : decode cX9_isWithin 10 = .ok (.iconst 1, 1) := by decide +kernel
theorem dX9_isWithin_11 : decode cX9_isWithin 11 = .ok (.goto 4, 3) := by decide +kernel
theorem dX9_isWithin_14 : decode cX9_isWithin 14 = .ok (.iconst 0, 1) := by decide +kernel
theorem dX9_isWithin_15 : decode cX9_isWithin 15 = .ok (.ireturn, 1) := by decide +kernel
theorem dX9_isUnder_0 : decode cX9_isUnder 0 = .ok (.iload_n 0, 1) := by decide +kernel
theorem dX9_isUnder_1 : decode cX9_isUnder 1 = .ok (.istore_n 2, 1) := by decide +kernel
theorem dX9_isUnder_2 : decode cX9_isUnder 2 = .ok (.iconst 0, 1) := by decide +kernel
theorem dX9_isUnder_3 : decode cX9_isUnder 3 = .ok (.istore_n 3, 1) := by decide +kernel
theorem dX9_isUnder_4 : decode cX9_isUnder 4 = .ok (.iload_n 3, 1) := by decide +kernel
theorem dX9_isUnder_5 : decode cX9_isUnder 5 = .ok (.bipush 6, 2) := by decide +kernel
theorem dX9_isUnder_7 : decode cX9_isUnder 7 = .ok (.if_icmp .ge 29, 3) := by decide +kernel
theorem dX9_isUnder_10 : decode cX9_isUnder 10 = .ok (.iload_n 2, 1) := by decide +kernel
theorem dX9_isUnder_11 : decode cX9_isUnder 11 = .ok (.invokestatic 108, 3) := by decide +kernel
theorem dX9_isUnder_14 : decode cX9_isUnder 14 = .ok (.ifCond .eq 22, 3) := by decide +kernel
theorem dX9_isUnder_17 : decode cX9_isUnder 17 = .ok (.iload_n 2, 1) := by decide +kernel
theorem dX9_isUnder_18 : decode cX9_isUnder 18 = .ok (.iload_n 1, 1) := by decide +kernel
theorem dX9_isUnder_19 : decode cX9_isUnder 19 = .ok (.if_icmp .ne 5, 3) := by decide +kernel
theorem dX9_isUnder_22 : decode cX9_isUnder 22 = .ok (.iconst 1, 1) := by decide +kernel
theorem dX9_isUnder_23 : decode cX9_isUnder 23 = .ok (.ireturn, 1) := by decide +kernel
theorem dX9_isUnder_24 : decode cX9_isUnder 24 = .ok (.getstatic 238, 3) := by decide +kernel
theorem dX9_isUnder_27 : decode cX9_isUnder 27 = .ok (.iload_n 2, 1) := by decide +kernel
theorem dX9_isUnder_28 : decode cX9_isUnder 28 = .ok (.iaload, 1) := by decide +kernel
theorem dX9_isUnder_29 : decode cX9_isUnder 29 = .ok (.istore_n 2, 1) := by decide +kernel
theorem dX9_isUnder_30 : decode cX9_isUnder 30 = .ok (.iinc 3 1, 3) := by decide +kernel
theorem dX9_isUnder_33 : decode cX9_isUnder 33 = .ok (.goto (-29), 3) := by decide +kernel
theorem dX9_isUnder_36 : decode cX9_isUnder 36 = .ok (.iconst 0, 1) := by decide +kernel
theorem dX9_isUnder_37 : decode cX9_isUnder 37 = .ok (.ireturn, 1) := by decide +kernel
theorem dX9_trialFollows_0 : decode cX9_trialFollows 0 = .ok (.iconst 0, 1) := by decide +kernel
theorem dX9_trialFollows_1 : decode cX9_trialFollows 1 = .ok (.istore_n 3, 1) := by decide +kernel
theorem dX9_trialFollows_2 : decode cX9_trialFollows 2 = .ok (.iload_n 3, 1) := by decide +kernel
theorem dX9_trialFollows_3 : decode cX9_trialFollows 3 = .ok (.aload_n 1, 1) := by decide +kernel
theorem dX9_trialFollows_4 : decode cX9_trialFollows 4 = .ok (.getfield 201, 3) := by decide +kernel
theorem dX9_trialFollows_7 : decode cX9_trialFollows 7 = .ok (.if_icmp .ge 38, 3) := by decide +kernel
theorem dX9_trialFollows_10 : decode cX9_trialFollows 10 = .ok (.aload_n 0, 1) := by decide +kernel
theorem dX9_trialFollows_11 : decode cX9_trialFollows 11 = .ok (.getfield 36, 3) := by decide +kernel
theorem dX9_trialFollows_14 : decode cX9_trialFollows 14 = .ok (.getfield 149, 3) := by decide +kernel
theorem dX9_trialFollows_17 : decode cX9_trialFollows 17 = .ok (.iload_n 2, 1) := by decide +kernel
theorem dX9_trialFollows_18 : decode cX9_trialFollows 18 = .ok (.iaload, 1) := by decide +kernel
theorem dX9_trialFollows_19 : decode cX9_trialFollows 19 = .ok (.i2l, 1) := by decide +kernel
theorem dX9_trialFollows_20 : decode cX9_trialFollows 20 = .ok (.aload_n 1, 1) := by decide +kernel
theorem dX9_trialFollows_21 : decode cX9_trialFollows 21 = .ok (.getfield 205, 3) := by decide +kernel
theorem dX9_trialFollows_24 : decode cX9_trialFollows 24 = .ok (.iload_n 3, 1) := by decide +kernel
theorem dX9_trialFollows_25 : decode cX9_trialFollows 25 = .ok (.laload, 1) := by decide +kernel
theorem dX9_trialFollows_26 : decode cX9_trialFollows 26 = .ok (.lcmp, 1) := by decide +kernel
theorem dX9_trialFollows_27 : decode cX9_trialFollows 27 = .ok (.ifCond .eq 5, 3) := by decide +kernel
theorem dX9_trialFollows_30 : decode cX9_trialFollows 30 = .ok (.iconst 0, 1) := by decide +kernel
theorem dX9_trialFollows_31 : decode cX9_trialFollows 31 = .ok (.ireturn, 1) := by decide +kernel
theorem dX9_trialFollows_32 : decode cX9_trialFollows 32 = .ok (.aload_n 0, 1) := by decide +kernel
theorem dX9_trialFollows_33 : decode cX9_trialFollows 33 = .ok (.getfield 36, 3) := by decide +kernel
theorem dX9_trialFollows_36 : decode cX9_trialFollows 36 = .ok (.invokevirtual 180, 3) := by decide +kernel
theorem dX9_trialFollows_39 : decode cX9_trialFollows 39 = .ok (.iinc 3 1, 3) := by decide +kernel
theorem dX9_trialFollows_42 : decode cX9_trialFollows 42 = .ok (.goto (-40), 3) := by decide +kernel
theorem dX9_trialFollows_45 : decode cX9_trialFollows 45 = .ok (.iconst 1, 1) := by decide +kernel
theorem dX9_trialFollows_46 : decode cX9_trialFollows 46 = .ok (.ireturn, 1) := by decide +kernel
