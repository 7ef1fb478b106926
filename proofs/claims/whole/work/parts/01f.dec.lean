theorem dX10_init_0 : decode cX10_init 0 = .ok (.aload_n 0, 1) := by decide +kernel
theorem dX10_init_1 : decode cX10_init 1 = .ok (.invokespecial 1, 3) := by decide +kernel
theorem dX10_init_4 : decode cX10_init 4 = .ok (.aload_n 0, 1) := by decide +kernel
theorem dX10_init_5 : decode cX10_init 5 = .ok (.bipush 59, 2) := by decide +kernel
theorem dX10_init_7 : decode cX10_init 7 = .ok (.newarray .int, 2) := by decide +kernel
theorem dX10_init_9 : decode cX10_init 9 = .ok (.putfield 7, 3) := by decide +kernel
theorem dX10_init_12 : decode cX10_init 12 = .ok (.aload_n 0, 1) := by decide +kernel
theorem dX10_init_13 : decode cX10_init 13 = .ok (.bipush 59, 2) := by decide +kernel
theorem dX10_init_15 : decode cX10_init 15 = .ok (.newarray .int, 2) := by decide +kernel
theorem dX10_init_17 : decode cX10_init 17 = .ok (.putfield 13, 3) := by decide +kernel
theorem dX10_init_20 : decode cX10_init 20 = .ok (.aload_n 0, 1) := by decide +kernel
theorem dX10_init_21 : decode cX10_init 21 = .ok (.bipush 59, 2) := by decide +kernel
theorem dX10_init_23 : decode cX10_init 23 = .ok (.newarray .int, 2) := by decide +kernel
theorem dX10_init_25 : decode cX10_init 25 = .ok (.putfield 16, 3) := by decide +kernel
theorem dX10_init_28 : decode cX10_init 28 = .ok (.aload_n 0, 1) := by decide +kernel
theorem dX10_init_29 : decode cX10_init 29 = .ok (.bipush 59, 2) := by decide +kernel
theorem dX10_init_31 : decode cX10_init 31 = .ok (.newarray .int, 2) := by decide +kernel
theorem dX10_init_33 : decode cX10_init 33 = .ok (.putfield 19, 3) := by decide +kernel
theorem dX10_init_36 : decode cX10_init 36 = .ok (.aload_n 0, 1) := by decide +kernel
theorem dX10_init_37 : decode cX10_init 37 = .ok (.bipush 7, 2) := by decide +kernel
theorem dX10_init_39 : decode cX10_init 39 = .ok (.newarray .int, 2) := by decide +kernel
theorem dX10_init_41 : decode cX10_init 41 = .ok (.putfield 22, 3) := by decide +kernel
theorem dX10_init_44 : decode cX10_init 44 = .ok (.aload_n 0, 1) := by decide +kernel
theorem dX10_init_45 : decode cX10_init 45 = .ok (.bipush 120, 2) := by decide +kernel
theorem dX10_init_47 : decode cX10_init 47 = .ok (.newarray .int, 2) := by decide +kernel
theorem dX10_init_49 : decode cX10_init 49 = .ok (.putfield 25, 3) := by decide +kernel
theorem dX10_init_52 : decode cX10_init 52 = .ok (.aload_n 0, 1) := by decide +kernel
theorem dX10_init_53 : decode cX10_init 53 = .ok (.iconst 4, 1) := by decide +kernel
theorem dX10_init_54 : decode cX10_init 54 = .ok (.newarray .int, 2) := by decide +kernel
theorem dX10_init_56 : decode cX10_init 56 = .ok (.putfield 28, 3) := by decide +kernel
theorem dX10_init_59 : decode cX10_init 59 = .ok (.aload_n 0, 1) := by decide +kernel
theorem dX10_init_60 : decode cX10_init 60 = .ok (.iconst 4, 1) := by decide +kernel
theorem dX10_init_61 : decode cX10_init 61 = .ok (.newarray .int, 2) := by decide +kernel
theorem dX10_init_63 : decode cX10_init 63 = .ok (.putfield 31, 3) := by decide +kernel
theorem dX10_init_66 : decode cX10_init 66 = .ok (.aload_n 0, 1) := by decide +kernel
theorem dX10_init_67 : decode cX10_init 67 = .ok (.sipush 160, 3) := by decide +kernel
theorem dX10_init_70 : decode cX10_init 70 = .ok (.newarray .long, 2) := by decide +kernel
theorem dX10_init_72 : decode cX10_init 72 = .ok (.putfield 34, 3) := by decide +kernel
theorem dX10_init_75 : decode cX10_init 75 = .ok (.aload_n 0, 1) := by decide +kernel
theorem dX10_init_76 : decode cX10_init 76 = .ok (.bipush 40, 2) := by decide +kernel
theorem dX10_init_78 : decode cX10_init 78 = .ok (.newarray .long, 2) := by decide +kernel
theorem dX10_init_80 : decode cX10_init 80 = .ok (.putfield 38, 3) := by decide +kernel
theorem dX10_init_83 : decode cX10_init 83 = .ok (.iconst 0, 1) := by decide +kernel
theorem dX10_init_84 : decode cX10_init 84 = .ok (.istore_n 1, 1) := by decide +kernel
theorem dX10_init_85 : decode cX10_init 85 = .ok (.iload_n 1, 1) := by decide +kernel
theorem dX10_init_86 : decode cX10_init 86 = .ok (.bipush 6, 2) := by decide +kernel
theorem dX10_init_88 : decode cX10_init 88 = .ok (.if_icmp .ge 20, 3) := by decide +kernel
theorem dX10_init_91 : decode cX10_init 91 = .ok (.aload_n 0, 1) := by decide +kernel
theorem dX10_init_92 : decode cX10_init 92 = .ok (.getfield 7, 3) := by decide +kernel
theorem dX10_init_95 : decode cX10_init 95 = .ok (.iload_n 1, 1) := by decide +kernel
theorem dX10_init_96 : decode cX10_init 96 = .ok (.iconst 0, 1) := by decide +kernel
theorem dX10_init_97 : decode cX10_init 97 = .ok (.invokestatic 41, 3) := by decide +kernel
theorem dX10_init_100 : decode cX10_init 100 = .ok (.iconst (-1), 1) := by decide +kernel
theorem dX10_init_101 : decode cX10_init 101 = .ok (.iastore, 1) := by decide +kernel
theorem dX10_init_102 : decode cX10_init 102 = .ok (.iinc 1 1, 3) := by decide +kernel
theorem dX10_init_105 : decode cX10_init 105 = .ok (.goto (-20), 3) := by decide +kernel
theorem dX10_init_108 : decode cX10_init 108 = .ok (.return_, 1) := by decide +kernel
theorem dX10_in_0 : decode cX10_in 0 = .ok (.lload_n 0, 1) := by decide +kernel
theorem dX10_in_1 : decode cX10_in 1 = .ok (.lload_n 2, 1) := by decide +kernel
theorem dX10_in_2 : decode cX10_in 2 = .ok (.lcmp, 1) := by decide +kernel
theorem dX10_in_3 : decode cX10_in 3 = .ok (.ifCond .lt 14, 3) := by decide +kernel
theorem dX10_in_6 : decode cX10_in 6 = .ok (.lload_n 0, 1) := by decide +kernel
theorem dX10_in_7 : decode cX10_in 7 = .ok (.lload 4, 2) := by decide +kernel
theorem dX10_in_9 : decode cX10_in 9 = .ok (.lcmp, 1) := by decide +kernel
theorem dX10_in_10 : decode cX10_in 10 = .ok (.ifCond .gt 7, 3) := by decide +kernel
theorem dX10_in_13 : decode cX10_in 13 = .ok (.iconst 1, 1) := by decide +kernel
theorem dX10_in_14 : decode cX10_in 14 = .ok (.goto 4, 3) := by decide +kernel
theorem dX10_in_17 : decode cX10_in 17 = .ok (.iconst 0, 1) := by decide +kernel
theorem dX10_in_18 : decode cX10_in 18 = .ok (.ireturn, 1) := by decide +kernel
theorem dX10_finds_0 : decode cX10_finds 0 = .ok (.aload_n 0, 1) := by decide +kernel
theorem dX10_finds_1 : decode cX10_finds 1 = .ok (.getfield 22, 3) := by decide +kernel
theorem dX10_finds_4 : decode cX10_finds 4 = .ok (.ldc 45, 2) := by decide +kernel
theorem dX10_finds_6 : decode cX10_finds 6 = .ok (.iload_n 1, 1) := by decide +kernel
theorem dX10_finds_7 : decode cX10_finds 7 = .ok (.isub, 1) := by decide +kernel
theorem dX10_finds_8 : decode cX10_finds 8 = .ok (.dup2, 1) := by decide +kernel
theorem dX10_finds_9 : decode cX10_finds 9 = .ok (.iaload, 1) := by decide +kernel
theorem dX10_finds_10 : decode cX10_finds 10 = .ok (.iconst 1, 1) := by decide +kernel
theorem dX10_finds_11 : decode cX10_finds 11 = .ok (.iadd, 1) := by decide +kernel
theorem dX10_finds_12 : decode cX10_finds 12 = .ok (.iastore, 1) := by decide +kernel
theorem dX10_finds_13 : decode cX10_finds 13 = .ok (.iload_n 1, 1) := by decide +kernel
theorem dX10_finds_14 : decode cX10_finds 14 = .ok (.ireturn, 1) := by decide +kernel
theorem dX10_saves_0 : decode cX10_saves 0 = .ok (.iconst 0, 1) := by decide +kernel
theorem dX10_saves_1 : decode cX10_saves 1 = .ok (.istore_n 1, 1) := by decide +kernel
theorem dX10_saves_2 : decode cX10_saves 2 = .ok (.iload_n 1, 1) := by decide +kernel
theorem dX10_saves_3 : decode cX10_saves 3 = .ok (.bipush 59, 2) := by decide +kernel
theorem dX10_saves_5 : decode cX10_saves 5 = .ok (.if_icmp .ge 21, 3) := by decide +kernel
theorem dX10_saves_8 : decode cX10_saves 8 = .ok (.aload_n 0, 1) := by decide +kernel
theorem dX10_saves_9 : decode cX10_saves 9 = .ok (.getfield 16, 3) := by decide +kernel
theorem dX10_saves_12 : decode cX10_saves 12 = .ok (.iload_n 1, 1) := by decide +kernel
theorem dX10_saves_13 : decode cX10_saves 13 = .ok (.aload_n 0, 1) := by decide +kernel
theorem dX10_saves_14 : decode cX10_saves 14 = .ok (.getfield 7, 3) := by decide +kernel
theorem dX10_saves_17 : decode cX10_saves 17 = .ok (.iload_n 1, 1) := by decide +kernel
theorem dX10_saves_18 : decode cX10_saves 18 = .ok (.iaload, 1) := by decide +kernel
theorem dX10_saves_19 : decode cX10_saves 19 = .ok (.iastore, 1) := by decide +kernel
theorem dX10_saves_20 : decode cX10_saves 20 = .ok (.iinc 1 1, 3) := by decide +kernel
theorem dX10_saves_23 : decode cX10_saves 23 = .ok (.goto (-21), 3) := by decide +kernel
theorem dX10_saves_26 : decode cX10_saves 26 = .ok (.return_, 1) := by decide +kernel
theorem dX10_putsBack_0 : decode cX10_putsBack 0 = .ok (.iconst 0, 1) := by decide +kernel
theorem dX10_putsBack_1 : decode cX10_putsBack 1 = .ok (.istore_n 1, 1) := by decide +kernel
theorem dX10_putsBack_2 : decode cX10_putsBack 2 = .ok (.iload_n 1, 1) := by decide +kernel
theorem dX10_putsBack_3 : decode cX10_putsBack 3 = .ok (.bipush 59, 2) := by decide +kernel
theorem dX10_putsBack_5 : decode cX10_putsBack 5 = .ok (.if_icmp .ge 21, 3) := by decide +kernel
theorem dX10_putsBack_8 : decode cX10_putsBack 8 = .ok (.aload_n 0, 1) := by decide +kernel
theorem dX10_putsBack_9 : decode cX10_putsBack 9 = .ok (.getfield 7, 3) := by decide +kernel
theorem dX10_putsBack_12 : decode cX10_putsBack 12 = .ok (.iload_n 1, 1) := by decide +kernel
theorem dX10_putsBack_13 : decode cX10_putsBack 13 = .ok (.aload_n 0, 1) := by decide +kernel
theorem dX10_putsBack_14 : decode cX10_putsBack 14 = .ok (.getfield 16, 3) := by decide +kernel
theorem dX10_putsBack_17 : decode cX10_putsBack 17 = .ok (.iload_n 1, 1) := by decide +kernel
theorem dX10_putsBack_18 : decode cX10_putsBack 18 = .ok (.iaload, 1) := by decide +kernel
theorem dX10_putsBack_19 : decode cX10_putsBack 19 = .ok (.iastore, 1) := by decide +kernel
theorem dX10_putsBack_20 : decode cX10_putsBack 20 = .ok (.iinc 1 1, 3) := by decide +kernel
theorem dX10_putsBack_23 : decode cX10_putsBack 23 = .ok (.goto (-21), 3) := by decide +kernel
theorem dX10_putsBack_26 : decode cX10_putsBack 26 = .ok (.return_, 1) := by decide +kernel
theorem dX10_laysAside_0 : decode cX10_laysAside 0 = .ok (.iconst 0, 1) := by decide +kernel
theorem dX10_laysAside_1 : decode cX10_laysAside 1 = .ok (.istore_n 1, 1) := by decide +kernel
theorem dX10_laysAside_2 : decode cX10_laysAside 2 = .ok (.iload_n 1, 1) := by decide +kernel
theorem dX10_laysAside_3 : decode cX10_laysAside 3 = .ok (.bipush 59, 2) := by decide +kernel
theorem dX10_laysAside_5 : decode cX10_laysAside 5 = .ok (.if_icmp .ge 21, 3) := by decide +kernel
theorem dX10_laysAside_8 : decode cX10_laysAside 8 = .ok (.aload_n 0, 1) := by decide +kernel
theorem dX10_laysAside_9 : decode cX10_laysAside 9 = .ok (.getfield 19, 3) := by decide +kernel
theorem dX10_laysAside_12 : decode cX10_laysAside 12 = .ok (.iload_n 1, 1) := by decide +kernel
theorem dX10_laysAside_13 : decode cX10_laysAside 13 = .ok (.aload_n 0, 1) := by decide +kernel
theorem dX10_laysAside_14 : decode cX10_laysAside 14 = .ok (.getfield 7, 3) := by decide +kernel
theorem dX10_laysAside_17 : decode cX10_laysAside 17 = .ok (.iload_n 1, 1) := by decide +kernel
theorem dX10_laysAside_18 : decode cX10_laysAside 18 = .ok (.iaload, 1) := by decide +kernel
theorem dX10_laysAside_19 : decode cX10_laysAside 19 = .ok (.iastore, 1) := by decide +kernel
theorem dX10_laysAside_20 : decode cX10_laysAside 20 = .ok (.iinc 1 1, 3) := by decide +kernel
theorem dX10_laysAside_23 : decode cX10_laysAside 23 = .ok (.goto (-21), 3) := by decide +kernel
theorem dX10_laysAside_26 : decode cX10_laysAside 26 = .ok (.return_, 1) := by decide +kernel
theorem dX10_takesBack_0 : decode cX10_takesBack 0 = .ok (.iconst 0, 1) := by decide +kernel
theorem dX10_takesBack_1 : decode cX10_takesBack 1 = .ok (.istore_n 2, 1) := by decide +kernel
theorem dX10_takesBack_2 : decode cX10_takesBack 2 = .ok (.iload_n 2, 1) := by decide +kernel
theorem dX10_takesBack_3 : decode cX10_takesBack 3 = .ok (.bipush 59, 2) := by decide +kernel
theorem dX10_takesBack_5 : decode cX10_takesBack 5 = .ok (.if_icmp .ge 21, 3) := by decide +kernel
theorem dX10_takesBack_8 : decode cX10_takesBack 8 = .ok (.aload_n 0, 1) := by decide +kernel
theorem dX10_takesBack_9 : decode cX10_takesBack 9 = .ok (.getfield 7, 3) := by decide +kernel
theorem dX10_takesBack_12 : decode cX10_takesBack 12 = .ok (.iload_n 2, 1) := by decide +kernel
theorem dX10_takesBack_13 : decode cX10_takesBack 13 = .ok (.aload_n 0, 1) := by decide +kernel
theorem dX10_takesBack_14 : decode cX10_takesBack 14 = .ok (.getfield 19, 3) := by decide +kernel
theorem dX10_takesBack_17 : decode cX10_takesBack 17 = .ok (.iload_n 2, 1) := by decide +kernel
theorem dX10_takesBack_18 : decode cX10_takesBack 18 = .ok (.iaload, 1) := by decide +kernel
theorem dX10_takesBack_19 : decode cX10_takesBack 19 = .ok (.iastore, 1) := by decide +kernel
theorem dX10_takesBack_20 : decode cX10_takesBack 20 = .ok (.iinc 2 1, 3) := by decide +kernel
theorem dX10_takesBack_23 : decode cX10_takesBack 23 = .ok (.goto (-21), 3) := by decide +kernel
theorem dX10_takesBack_26 : decode cX10_takesBack 26 = .ok (.iload_n 1, 1) := by decide +kernel
theorem dX10_takesBack_27 : decode cX10_takesBack 27 = .ok (.ireturn, 1) := by decide +kernel
theorem dX10_becomes_0 : decode cX10_becomes 0 = .ok (.aload_n 0, 1) := by decide +kernel
theorem dX10_becomes_1 : decode cX10_becomes 1 = .ok (.getfield 7, 3) := by decide +kernel
theorem dX10_becomes_4 : decode cX10_becomes 4 = .ok (.iload_n 1, 1) := by decide +kernel
theorem dX10_becomes_5 : decode cX10_becomes 5 = .ok (.iaload, 1) := by decide +kernel
theorem dX10_becomes_6 : decode cX10_becomes 6 = .ok (.istore_n 3, 1) := by decide +kernel
theorem dX10_becomes_7 : decode cX10_becomes 7 = .ok (.aload_n 0, 1) := by decide +kernel
theorem dX10_becomes_8 : decode cX10_becomes 8 = .ok (.getfield 7, 3) := by decide +kernel
theorem dX10_becomes_11 : decode cX10_becomes 11 = .ok (.iload_n 1, 1) := by decide +kernel
theorem dX10_becomes_12 : decode cX10_becomes 12 = .ok (.iload_n 2, 1) := by decide +kernel
theorem dX10_becomes_13 : decode cX10_becomes 13 = .ok (.iastore, 1) := by decide +kernel
theorem dX10_becomes_14 : decode cX10_becomes 14 = .ok (.iload_n 3, 1) := by decide +kernel
theorem dX10_becomes_15 : decode cX10_becomes 15 = .ok (.ireturn, 1) := by decide +kernel
theorem dX10_houseSpot_0 : decode cX10_houseSpot 0 = .ok (.iconst 3, 1) := by decide +kernel
theorem dX10_houseSpot_1 : decode cX10_houseSpot 1 = .ok (.iconst 2, 1) := by decide +kernel
theorem dX10_houseSpot_2 : decode cX10_houseSpot 2 = .ok (.iload_n 0, 1) := by decide +kernel
theorem dX10_houseSpot_3 : decode cX10_houseSpot 3 = .ok (.imul, 1) := by decide +kernel
theorem dX10_houseSpot_4 : decode cX10_houseSpot 4 = .ok (.iadd, 1) := by decide +kernel
theorem dX10_houseSpot_5 : decode cX10_houseSpot 5 = .ok (.iload_n 1, 1) := by decide +kernel
theorem dX10_houseSpot_6 : decode cX10_houseSpot 6 = .ok (.iadd, 1) := by decide +kernel
theorem dX10_houseSpot_7 : decode cX10_houseSpot 7 = .ok (.ireturn, 1) := by decide +kernel
theorem dX10_beardSpot_0 : decode cX10_beardSpot 0 = .ok (.bipush 15, 2) := by decide +kernel
theorem dX10_beardSpot_2 : decode cX10_beardSpot 2 = .ok (.iconst 4, 1) := by decide +kernel
theorem dX10_beardSpot_3 : decode cX10_beardSpot 3 = .ok (.iload_n 0, 1) := by decide +kernel
theorem dX10_beardSpot_4 : decode cX10_beardSpot 4 = .ok (.imul, 1) := by decide +kernel
theorem dX10_beardSpot_5 : decode cX10_beardSpot 5 = .ok (.iadd, 1) := by decide +kernel
theorem dX10_beardSpot_6 : decode cX10_beardSpot 6 = .ok (.iload_n 1, 1) := by decide +kernel
theorem dX10_beardSpot_7 : decode cX10_beardSpot 7 = .ok (.iadd, 1) := by decide +kernel
theorem dX10_beardSpot_8 : decode cX10_beardSpot 8 = .ok (.ireturn, 1) := by decide +kernel
theorem dX10_wearerSpot_0 : decode cX10_wearerSpot 0 = .ok (.bipush 47, 2) := by decide +kernel
theorem dX10_wearerSpot_2 : decode cX10_wearerSpot 2 = .ok (.iconst 2, 1) := by decide +kernel
theorem dX10_wearerSpot_3 : decode cX10_wearerSpot 3 = .ok (.iload_n 0, 1) := by decide +kernel
theorem dX10_wearerSpot_4 : decode cX10_wearerSpot 4 = .ok (.imul, 1) := by decide +kernel
theorem dX10_wearerSpot_5 : decode cX10_wearerSpot 5 = .ok (.iadd, 1) := by decide +kernel
theorem dX10_wearerSpot_6 : decode cX10_wearerSpot 6 = .ok (.iload_n 1, 1) := by decide +kernel
theorem dX10_wearerSpot_7 : decode cX10_wearerSpot 7 = .ok (.iadd, 1) := by decide +kernel
theorem dX10_wearerSpot_8 : decode cX10_wearerSpot 8 = .ok (.ireturn, 1) := by decide +kernel
theorem dX10_house_0 : decode cX10_house 0 = .ok (.aload_n 0, 1) := by decide +kernel
theorem dX10_house_1 : decode cX10_house 1 = .ok (.getfield 7, 3) := by decide +kernel
theorem dX10_house_4 : decode cX10_house 4 = .ok (.iload_n 1, 1) := by decide +kernel
theorem dX10_house_5 : decode cX10_house 5 = .ok (.iload_n 2, 1) := by decide +kernel
theorem dX10_house_6 : decode cX10_house 6 = .ok (.invokestatic 41, 3) := by decide +kernel
theorem dX10_house_9 : decode cX10_house 9 = .ok (.iaload, 1) := by decide +kernel
theorem dX10_house_10 : decode cX10_house 10 = .ok (.ireturn, 1) := by decide +kernel
theorem dX10_its_0 : decode cX10_its 0 = .ok (.aload_n 0, 1) := by decide +kernel
theorem dX10_its_1 : decode cX10_its 1 = .ok (.getfield 7, 3) := by decide +kernel
theorem dX10_its_4 : decode cX10_its 4 = .ok (.iload_n 1, 1) := by decide +kernel
theorem dX10_its_5 : decode cX10_its 5 = .ok (.iload_n 2, 1) := by decide +kernel
theorem dX10_its_6 : decode cX10_its 6 = .ok (.invokestatic 46, 3) := by decide +kernel
theorem dX10_its_9 : decode cX10_its 9 = .ok (.iaload, 1) := by decide +kernel
theorem dX10_its_10 : decode cX10_its 10 = .ok (.ireturn, 1) := by decide +kernel
theorem dX10_theirs_0 : decode cX10_theirs 0 = .ok (.aload_n 0, 1) := by decide +kernel
theorem dX10_theirs_1 : decode cX10_theirs 1 = .ok (.getfield 7, 3) := by decide +kernel
theorem dX10_theirs_4 : decode cX10_theirs 4 = .ok (.iload_n 1, 1) := by decide +kernel
theorem dX10_theirs_5 : decode cX10_theirs 5 = .ok (.iload_n 2, 1) := by decide +kernel
theorem dX10_theirs_6 : decode cX10_theirs 6 = .ok (.invokestatic 49, 3) := by decide +kernel
theorem dX10_theirs_9 : decode cX10_theirs 9 = .ok (.iaload, 1) := by decide +kernel
theorem dX10_theirs_10 : decode cX10_theirs 10 = .ok (.ireturn, 1) := by decide +kernel
theorem dX10_isHouse_0 : decode cX10_isHouse 0 = .ok (.iload_n 0, 1) := by decide +kernel
theorem dX10_isHouse_1 : decode cX10_isHouse 1 = .ok (.i2l, 1) := by decide +kernel
theorem dX10_isHouse_2 : decode cX10_isHouse 2 = .ok (.lconst 0, 1) := by decide +kernel
theorem dX10_isHouse_3 : decode cX10_isHouse 3 = .ok (.ldc2_w 52, 3) := by decide +kernel
theorem dX10_isHouse_6 : decode cX10_isHouse 6 = .ok (.invokestatic 54, 3) := by decide +kernel
theorem dX10_isHouse_9 : decode cX10_isHouse 9 = .ok (.ireturn, 1) := by decide +kernel
theorem dX10_isBeard_0 : decode cX10_isBeard 0 = .ok (.iload_n 1, 1) := by decide +kernel
theorem dX10_isBeard_1 : decode cX10_isBeard 1 = .ok (.i2l, 1) := by decide +kernel
theorem dX10_isBeard_2 : decode cX10_isBeard 2 = .ok (.lconst 0, 1) := by decide +kernel
theorem dX10_isBeard_3 : decode cX10_isBeard 3 = .ok (.aload_n 0, 1) := by decide +kernel
theorem dX10_isBeard_4 : decode cX10_isBeard 4 = .ok (.getfield 7, 3) := by decide +kernel
theorem dX10_isBeard_7 : decode cX10_isBeard 7 = .ok (.iconst 1, 1) := by decide +kernel
theorem dX10_isBeard_8 : decode cX10_isBeard 8 = .ok (.iaload, 1) := by decide +kernel
theorem dX10_isBeard_9 : decode cX10_isBeard 9 = .ok (.iconst 1, 1) := by decide +kernel
theorem dX10_isBeard_10 : decode cX10_isBeard 10 = .ok (.isub, 1) := by decide +kernel
theorem dX10_isBeard_11 : decode cX10_isBeard 11 = .ok (.i2l, 1) := by decide +kernel
theorem dX10_isBeard_12 : decode cX10_isBeard 12 = .ok (.invokestatic 54, 3) := by decide +kernel
theorem dX10_isBeard_15 : decode cX10_isBeard 15 = .ok (.ireturn, 1) := by decide +kernel
theorem dX10_isWearer_0 : decode cX10_isWearer 0 = .ok (.iload_n 1, 1) := by decide +kernel
theorem dX10_isWearer_1 : decode cX10_isWearer 1 = .ok (.i2l, 1) := by decide +kernel
theorem dX10_isWearer_2 : decode cX10_isWearer 2 = .ok (.lconst 0, 1) := by decide +kernel
theorem dX10_isWearer_3 : decode cX10_isWearer 3 = .ok (.aload_n 0, 1) := by decide +kernel
theorem dX10_isWearer_4 : decode cX10_isWearer 4 = .ok (.getfield 7, 3) := by decide +kernel
theorem dX10_isWearer_7 : decode cX10_isWearer 7 = .ok (.iconst 2, 1) := by decide +kernel
theorem dX10_isWearer_8 : decode cX10_isWearer 8 = .ok (.iaload, 1) := by decide +kernel
theorem dX10_isWearer_9 : decode cX10_isWearer 9 = .ok (.iconst 1, 1) := by decide +kernel
theorem dX10_isWearer_10 : decode cX10_isWearer 10 = .ok (.isub, 1) := by decide +kernel
theorem dX10_isWearer_11 : decode cX10_isWearer 11 = .ok (.i2l, 1) := by decide +kernel
theorem dX10_isWearer_12 : decode cX10_isWearer 12 = .ok (.invokestatic 54, 3) := by decide +kernel
theorem dX10_isWearer_15 : decode cX10_isWearer 15 = .ok (.ireturn, 1) := by decide +kernel
theorem dX10_isKind_0 : decode cX10_isKind 0 = .ok (.iload_n 0, 1) := by decide +kernel
theorem dX10_isKind_1 : decode cX10_isKind 1 = .ok (.i2l, 1) := by decide +kernel
theorem dX10_isKind_2 : decode cX10_isKind 2 = .ok (.lconst 0, 1) := by decide +kernel
theorem dX10_isKind_3 : decode cX10_isKind 3 = .ok (.ldc2_w 52, 3) := by decide +kernel
theorem dX10_isKind_6 : decode cX10_isKind 6 = .ok (.invokestatic 54, 3) := by decide +kernel
theorem dX10_isKind_9 : decode cX10_isKind 9 = .ok (.ireturn, 1) := by decide +kernel
theorem dX10_held_0 : decode cX10_held 0 = .ok (.iload_n 0, 1) := by decide +kernel
theorem dX10_held_1 : decode cX10_held 1 = .ok (.iload_n 1, 1) := by decide +kernel
theorem dX10_held_2 : decode cX10_held 2 = .ok (.if_icmp .ge 7, 3) := by decide +kernel
theorem dX10_held_5 : decode cX10_held 5 = .ok (.iload_n 1, 1) := by decide +kernel
theorem dX10_held_6 : decode cX10_held 6 = .ok (.goto 13, 3) := by decide +kernel
theorem dX10_held_9 : decode cX10_held 9 = .ok (.iload_n 0, 1) := by decide +kernel
theorem dX10_held_10 : decode cX10_held 10 = .ok (.iload_n 2, 1) := by decide +kernel
theorem dX10_held_11 : decode cX10_held 11 = .ok (.if_icmp .le 7, 3) := by decide +kernel
theorem dX10_held_14 : decode cX10_held 14 = .ok (.iload_n 2, 1) := by decide +kernel
theorem dX10_held_15 : decode cX10_held 15 = .ok (.goto 4, 3) := by decide +kernel
theorem dX10_held_18 : decode cX10_held 18 = .ok (.iload_n 0, 1) := by decide +kernel
theorem dX10_held_19 : decode cX10_held 19 = .ok (.ireturn, 1) := by decide +kernel
theorem dX10_isMonday_0 : decode cX10_isMonday 0 = .ok (.aload_n 0, 1) := by decide +kernel
theorem dX10_isMonday_1 : decode cX10_isMonday 1 = .ok (.getfield 7, 3) := by decide +kernel
theorem dX10_isMonday_4 : decode cX10_isMonday 4 = .ok (.iconst 0, 1) := by decide +kernel
theorem dX10_isMonday_5 : decode cX10_isMonday 5 = .ok (.iaload, 1) := by decide +kernel
theorem dX10_isMonday_6 : decode cX10_isMonday 6 = .ok (.bipush 7, 2) := by decide +kernel
theorem dX10_isMonday_8 : decode cX10_isMonday 8 = .ok (.irem, 1) := by decide +kernel
theorem dX10_isMonday_9 : decode cX10_isMonday 9 = .ok (.ifCond .ne 7, 3) := by decide +kernel
theorem dX10_isMonday_12 : decode cX10_isMonday 12 = .ok (.iconst 1, 1) := by decide +kernel
theorem dX10_isMonday_13 : decode cX10_isMonday 13 = .ok (.goto 4, 3) := by decide +kernel
theorem dX10_isMonday_16 : decode cX10_isMonday 16 = .ok (.iconst 0, 1) := by decide +kernel
theorem dX10_isMonday_17 : decode cX10_isMonday 17 = .ok (.ireturn, 1) := by decide +kernel
theorem dX10_placeOf_0 : decode cX10_placeOf 0 = .ok (.aload_n 0, 1) := by decide +kernel
theorem dX10_placeOf_1 : decode cX10_placeOf 1 = .ok (.getfield 7, 3) := by decide +kernel
theorem dX10_placeOf_4 : decode cX10_placeOf 4 = .ok (.iconst 0, 1) := by decide +kernel
theorem dX10_placeOf_5 : decode cX10_placeOf 5 = .ok (.iaload, 1) := by decide +kernel
theorem dX10_placeOf_6 : decode cX10_placeOf 6 = .ok (.aload_n 0, 1) := by decide +kernel
theorem dX10_placeOf_7 : decode cX10_placeOf 7 = .ok (.iload_n 1, 1) := by decide +kernel
theorem dX10_placeOf_8 : decode cX10_placeOf 8 = .ok (.iconst 1, 1) := by decide +kernel
theorem dX10_placeOf_9 : decode cX10_placeOf 9 = .ok (.invokevirtual 58, 3) := by decide +kernel
theorem dX10_placeOf_12 : decode cX10_placeOf 12 = .ok (.iadd, 1) := by decide +kernel
theorem dX10_placeOf_13 : decode cX10_placeOf 13 = .ok (.bipush 6, 2) := by decide +kernel
theorem dX10_placeOf_15 : decode cX10_placeOf 15 = .ok (.irem, 1) := by decide +kernel
theorem dX10_placeOf_16 : decode cX10_placeOf 16 = .ok (.ireturn, 1) := by decide +kernel
theorem dX10_wornBy_0 : decode cX10_wornBy 0 = .ok (.iconst (-1), 1) := by decide +kernel
theorem dX10_wornBy_1 : decode cX10_wornBy 1 = .ok (.istore_n 2, 1) := by decide +kernel
theorem dX10_wornBy_2 : decode cX10_wornBy 2 = .ok (.iconst 0, 1) := by decide +kernel
theorem dX10_wornBy_3 : decode cX10_wornBy 3 = .ok (.istore_n 3, 1) := by decide +kernel
theorem dX10_wornBy_4 : decode cX10_wornBy 4 = .ok (.iload_n 3, 1) := by decide +kernel
theorem dX10_wornBy_5 : decode cX10_wornBy 5 = .ok (.aload_n 0, 1) := by decide +kernel
theorem dX10_wornBy_6 : decode cX10_wornBy 6 = .ok (.getfield 7, 3) := by decide +kernel
theorem dX10_wornBy_9 : decode cX10_wornBy 9 = .ok (.iconst 1, 1) := by decide +kernel
theorem dX10_wornBy_10 : decode cX10_wornBy 10 = .ok (.iaload, 1) := by decide +kernel
theorem dX10_wornBy_11 : decode cX10_wornBy 11 = .ok (.if_icmp .ge 25, 3) := by decide +kernel
theorem dX10_wornBy_14 : decode cX10_wornBy 14 = .ok (.aload_n 0, 1) := by decide +kernel
theorem dX10_wornBy_15 : decode cX10_wornBy 15 = .ok (.iload_n 3, 1) := by decide +kernel
theorem dX10_wornBy_16 : decode cX10_wornBy 16 = .ok (.iconst 3, 1) := by decide +kernel
theorem dX10_wornBy_17 : decode cX10_wornBy 17 = .ok (.invokevirtual 61, 3) := by decide +kernel
theorem dX10_wornBy_20 : decode cX10_wornBy 20 = .ok (.iload_n 1, 1) := by decide +kernel
theorem dX10_wornBy_21 : decode cX10_wornBy 21 = .ok (.if_icmp .ne 7, 3) := by decide +kernel
theorem dX10_wornBy_24 : decode cX10_wornBy 24 = .ok (.iload_n 3, 1) := by decide +kernel
theorem dX10_wornBy_25 : decode cX10_wornBy 25 = .ok (.goto 4, 3) := by decide +kernel
theorem dX10_wornBy_28 : decode cX10_wornBy 28 = .ok (.iload_n 2, 1) := by decide +kernel
theorem dX10_wornBy_29 : decode cX10_wornBy 29 = .ok (.istore_n 2, 1) := by decide +kernel
theorem dX10_wornBy_30 : decode cX10_wornBy 30 = .ok (.iinc 3 1, 3) := by decide +kernel
theorem dX10_wornBy_33 : decode cX10_wornBy 33 = .ok (.goto (-29), 3) := by decide +kernel
theorem dX10_wornBy_36 : decode cX10_wornBy 36 = .ok (.iload_n 2, 1) := by decide +kernel
theorem dX10_wornBy_37 : decode cX10_wornBy 37 = .ok (.ireturn, 1) := by decide +kernel
theorem dX10_mood_0 : decode cX10_mood 0 = .ok (.iload_n 1, 1) := by decide +kernel
theorem dX10_mood_1 : decode cX10_mood 1 = .ok (.invokestatic 64, 3) := by decide +kernel
theorem dX10_mood_4 : decode cX10_mood 4 = .ok (.ifCond .eq 30, 3) := by decide +kernel
theorem dX10_mood_7 : decode cX10_mood 7 = .ok (.iload_n 2, 1) := by decide +kernel
theorem dX10_mood_8 : decode cX10_mood 8 = .ok (.i2l, 1) := by decide +kernel
theorem dX10_mood_9 : decode cX10_mood 9 = .ok (.ldc2_w 68, 3) := by decide +kernel
theorem dX10_mood_12 : decode cX10_mood 12 = .ok (.ldc2_w 70, 3) := by decide +kernel
theorem dX10_mood_15 : decode cX10_mood 15 = .ok (.invokestatic 54, 3) := by decide +kernel
theorem dX10_mood_18 : decode cX10_mood 18 = .ok (.ifCond .eq 16, 3) := by decide +kernel
theorem dX10_mood_21 : decode cX10_mood 21 = .ok (.aload_n 0, 1) := by decide +kernel
theorem dX10_mood_22 : decode cX10_mood 22 = .ok (.iload_n 1, 1) := by decide +kernel
theorem dX10_mood_23 : decode cX10_mood 23 = .ok (.iconst 1, 1) := by decide +kernel
theorem dX10_mood_24 : decode cX10_mood 24 = .ok (.invokestatic 41, 3) := by decide +kernel
theorem dX10_mood_27 : decode cX10_mood 27 = .ok (.iload_n 2, 1) := by decide +kernel
theorem dX10_mood_28 : decode cX10_mood 28 = .ok (.invokevirtual 72, 3) := by decide +kernel
theorem dX10_mood_31 : decode cX10_mood 31 = .ok (.goto 9, 3) := by decide +kernel
theorem dX10_mood_34 : decode cX10_mood 34 = .ok (.aload_n 0, 1) := by decide +kernel
theorem dX10_mood_35 : decode cX10_mood 35 = .ok (.ldc 45, 2) := by decide +kernel
theorem dX10_mood_37 : decode cX10_mood 37 = .ok (.invokevirtual 75, 3) := by decide +kernel
theorem dX10_mood_40 : decode cX10_mood 40 = .ok (.ireturn, 1) := by decide +kernel
theorem dX10_recall_0 : decode cX10_recall 0 = .ok (.iload_n 2, 1) := by decide +kernel
theorem dX10_recall_1 : decode cX10_recall 1 = .ok (.iconst (-1), 1) := by decide +kernel
theorem dX10_recall_2 : decode cX10_recall 2 = .ok (.if_icmp .eq 11, 3) := by decide +kernel
theorem dX10_recall_5 : decode cX10_recall 5 = .ok (.aload_n 0, 1) := by decide +kernel
theorem dX10_recall_6 : decode cX10_recall 6 = .ok (.iload_n 2, 1) := by decide +kernel
theorem dX10_recall_7 : decode cX10_recall 7 = .ok (.invokevirtual 79, 3) := by decide +kernel
theorem dX10_recall_10 : decode cX10_recall 10 = .ok (.ifCond .eq 7, 3) := by decide +kernel
theorem dX10_recall_13 : decode cX10_recall 13 = .ok (.iconst 1, 1) := by decide +kernel
theorem dX10_recall_14 : decode cX10_recall 14 = .ok (.goto 4, 3) := by decide +kernel
theorem dX10_recall_17 : decode cX10_recall 17 = .ok (.iconst 0, 1) := by decide +kernel
theorem dX10_recall_18 : decode cX10_recall 18 = .ok (.istore_n 3, 1) := by decide +kernel
theorem dX10_recall_19 : decode cX10_recall 19 = .ok (.iload_n 1, 1) := by decide +kernel
theorem dX10_recall_20 : decode cX10_recall 20 = .ok (.invokestatic 64, 3) := by decide +kernel
theorem dX10_recall_23 : decode cX10_recall 23 = .ok (.ifCond .eq 20, 3) := by decide +kernel
theorem dX10_recall_26 : decode cX10_recall 26 = .ok (.iload_n 3, 1) := by decide +kernel
theorem dX10_recall_27 : decode cX10_recall 27 = .ok (.ifCond .eq 16, 3) := by decide +kernel
theorem dX10_recall_30 : decode cX10_recall 30 = .ok (.aload_n 0, 1) := by decide +kernel
theorem dX10_recall_31 : decode cX10_recall 31 = .ok (.iload_n 1, 1) := by decide +kernel
theorem dX10_recall_32 : decode cX10_recall 32 = .ok (.iconst 0, 1) := by decide +kernel
theorem dX10_recall_33 : decode cX10_recall 33 = .ok (.invokestatic 41, 3) := by decide +kernel
theorem dX10_recall_36 : decode cX10_recall 36 = .ok (.iload_n 2, 1) := by decide +kernel
theorem dX10_recall_37 : decode cX10_recall 37 = .ok (.invokevirtual 72, 3) := by decide +kernel
theorem dX10_recall_40 : decode cX10_recall 40 = .ok (.goto 9, 3) := by decide +kernel
theorem dX10_recall_43 : decode cX10_recall 43 = .ok (.aload_n 0, 1) := by decide +kernel
theorem dX10_recall_44 : decode cX10_recall 44 = .ok (.ldc 45, 2) := by decide +kernel
theorem dX10_recall_46 : decode cX10_recall 46 = .ok (.invokevirtual 75, 3) := by decide +kernel
theorem dX10_recall_49 : decode cX10_recall 49 = .ok (.ireturn, 1) := by decide +kernel
theorem dX10_goers_0 : decode cX10_goers 0 = .ok (.iconst 0, 1) := by decide +kernel
theorem dX10_goers_1 : decode cX10_goers 1 = .ok (.istore_n 2, 1) := by decide +kernel
theorem dX10_goers_2 : decode cX10_goers 2 = .ok (.iconst 0, 1) := by decide +kernel
theorem dX10_goers_3 : decode cX10_goers 3 = .ok (.istore_n 3, 1) := by decide +kernel
theorem dX10_goers_4 : decode cX10_goers 4 = .ok (.iload_n 3, 1) := by decide +kernel
theorem dX10_goers_5 : decode cX10_goers 5 = .ok (.aload_n 0, 1) := by decide +kernel
theorem dX10_goers_6 : decode cX10_goers 6 = .ok (.getfield 7, 3) := by decide +kernel
theorem dX10_goers_9 : decode cX10_goers 9 = .ok (.iconst 2, 1) := by decide +kernel
theorem dX10_goers_10 : decode cX10_goers 10 = .ok (.iaload, 1) := by decide +kernel
theorem dX10_goers_11 : decode cX10_goers 11 = .ok (.if_icmp .ge 28, 3) := by decide +kernel
theorem dX10_goers_14 : decode cX10_goers 14 = .ok (.iload_n 2, 1) := by decide +kernel
theorem dX10_goers_15 : decode cX10_goers 15 = .ok (.aload_n 0, 1) := by decide +kernel
theorem dX10_goers_16 : decode cX10_goers 16 = .ok (.iload_n 3, 1) := by decide +kernel
theorem dX10_goers_17 : decode cX10_goers 17 = .ok (.invokevirtual 82, 3) := by decide +kernel
theorem dX10_goers_20 : decode cX10_goers 20 = .ok (.iload_n 1, 1) := by decide +kernel
theorem dX10_goers_21 : decode cX10_goers 21 = .ok (.if_icmp .ne 9, 3) := by decide +kernel
theorem dX10_goers_24 : decode cX10_goers 24 = .ok (.iconst 1, 1) := by decide +kernel
theorem dX10_goers_25 : decode cX10_goers 25 = .ok (.iload_n 3, 1) := by decide +kernel
theorem dX10_goers_26 : decode cX10_goers 26 = .ok (.ishl, 1) := by decide +kernel
theorem dX10_goers_27 : decode cX10_goers 27 = .ok (.goto 4, 3) := by decide +kernel
theorem dX10_goers_30 : decode cX10_goers 30 = .ok (.iconst 0, 1) := by decide +kernel
theorem dX10_goers_31 : decode cX10_goers 31 = .ok (.ior, 1) := by decide +kernel
theorem dX10_goers_32 : decode cX10_goers 32 = .ok (.istore_n 2, 1) := by decide +kernel
theorem dX10_goers_33 : decode cX10_goers 33 = .ok (.iinc 3 1, 3) := by decide +kernel
theorem dX10_goers_36 : decode cX10_goers 36 = .ok (.goto (-32), 3) := by decide +kernel
theorem dX10_goers_39 : decode cX10_goers 39 = .ok (.iload_n 2, 1) := by decide +kernel
theorem dX10_goers_40 : decode cX10_goers 40 = .ok (.ireturn, 1) := by decide +kernel
theorem dX10_houseOf_0 : decode cX10_houseOf 0 = .ok (.iload_n 1, 1) := by decide +kernel
theorem dX10_houseOf_1 : decode cX10_houseOf 1 = .ok (.invokestatic 64, 3) := by decide +kernel
theorem dX10_houseOf_4 : decode cX10_houseOf 4 = .ok (.ifCond .eq 15, 3) := by decide +kernel
theorem dX10_houseOf_7 : decode cX10_houseOf 7 = .ok (.iload_n 2, 1) := by decide +kernel
theorem dX10_houseOf_8 : decode cX10_houseOf 8 = .ok (.i2l, 1) := by decide +kernel
theorem dX10_houseOf_9 : decode cX10_houseOf 9 = .ok (.lconst 0, 1) := by decide +kernel
theorem dX10_houseOf_10 : decode cX10_houseOf 10 = .ok (.ldc2_w 85, 3) := by decide +kernel
theorem dX10_houseOf_13 : decode cX10_houseOf 13 = .ok (.invokestatic 54, 3) := by decide +kernel
theorem dX10_houseOf_16 : decode cX10_houseOf 16 = .ok (.ifCond .ne 10, 3) := by decide +kernel
theorem dX10_houseOf_19 : decode cX10_houseOf 19 = .ok (.aload_n 0, 1) := by decide +kernel
theorem dX10_houseOf_20 : decode cX10_houseOf 20 = .ok (.ldc 45, 2) := by decide +kernel
theorem dX10_houseOf_22 : decode cX10_houseOf 22 = .ok (.invokevirtual 75, 3) := by decide +kernel
theorem dX10_houseOf_25 : decode cX10_houseOf 25 = .ok (.ireturn, 1) := by decide +kernel
theorem dX10_houseOf_26 : decode cX10_houseOf 26 = .ok (.iload_n 2, 1) := by decide +kernel
theorem dX10_houseOf_27 : decode cX10_houseOf 27 = .ok (.ifCond .ne 15, 3) := by decide +kernel
theorem dX10_houseOf_30 : decode cX10_houseOf 30 = .ok (.bipush 100, 2) := by decide +kernel
theorem dX10_houseOf_32 : decode cX10_houseOf 32 = .ok (.aload_n 0, 1) := by decide +kernel
theorem dX10_houseOf_33 : decode cX10_houseOf 33 = .ok (.iload_n 1, 1) := by decide +kernel
theorem dX10_houseOf_34 : decode cX10_houseOf 34 = .ok (.iconst 1, 1) := by decide +kernel
theorem dX10_houseOf_35 : decode cX10_houseOf 35 = .ok (.invokevirtual 87, 3) := by decide +kernel
theorem dX10_houseOf_38 : decode cX10_houseOf 38 = .ok (.iadd, 1) := by decide +kernel
theorem dX10_houseOf_39 : decode cX10_houseOf 39 = .ok (.goto 22, 3) := by decide +kernel
theorem dX10_houseOf_42 : decode cX10_houseOf 42 = .ok (.iload_n 2, 1) := by decide +kernel
theorem dX10_houseOf_43 : decode cX10_houseOf 43 = .ok (.iconst 1, 1) := by decide +kernel
theorem dX10_houseOf_44 : decode cX10_houseOf 44 = .ok (.if_icmp .ne 12, 3) := by decide +kernel
theorem dX10_houseOf_47 : decode cX10_houseOf 47 = .ok (.aload_n 0, 1) := by decide +kernel
theorem dX10_houseOf_48 : decode cX10_houseOf 48 = .ok (.iload_n 1, 1) := by decide +kernel
theorem dX10_houseOf_49 : decode cX10_houseOf 49 = .ok (.iconst 0, 1) := by decide +kernel
theorem dX10_houseOf_50 : decode cX10_houseOf 50 = .ok (.invokevirtual 87, 3) := by decide +kernel
theorem dX10_houseOf_53 : decode cX10_houseOf 53 = .ok (.goto 8, 3) := by decide +kernel
theorem dX10_houseOf_56 : decode cX10_houseOf 56 = .ok (.aload_n 0, 1) := by decide +kernel
theorem dX10_houseOf_57 : decode cX10_houseOf 57 = .ok (.iload_n 1, 1) := by decide +kernel
theorem dX10_houseOf_58 : decode cX10_houseOf 58 = .ok (.invokevirtual 90, 3) := by decide +kernel
theorem dX10_houseOf_61 : decode cX10_houseOf 61 = .ok (.ireturn, 1) := by decide +kernel
theorem dX10_inShop_0 : decode cX10_inShop 0 = .ok (.iconst 0, 1) := by decide +kernel
theorem dX10_inShop_1 : decode cX10_inShop 1 = .ok (.istore_n 1, 1) := by decide +kernel
theorem dX10_inShop_2 : decode cX10_inShop 2 = .ok (.iconst 0, 1) := by decide +kernel
theorem dX10_inShop_3 : decode cX10_inShop 3 = .ok (.istore_n 2, 1) := by decide +kernel
theorem dX10_inShop_4 : decode cX10_inShop 4 = .ok (.iload_n 2, 1) := by decide +kernel
theorem dX10_inShop_5 : decode cX10_inShop 5 = .ok (.aload_n 0, 1) := by decide +kernel
theorem dX10_inShop_6 : decode cX10_inShop 6 = .ok (.getfield 7, 3) := by decide +kernel
theorem dX10_inShop_9 : decode cX10_inShop 9 = .ok (.iconst 1, 1) := by decide +kernel
theorem dX10_inShop_10 : decode cX10_inShop 10 = .ok (.iaload, 1) := by decide +kernel
theorem dX10_inShop_11 : decode cX10_inShop 11 = .ok (.if_icmp .ge 29, 3) := by decide +kernel
theorem dX10_inShop_14 : decode cX10_inShop 14 = .ok (.iload_n 1, 1) := by decide +kernel
theorem dX10_inShop_15 : decode cX10_inShop 15 = .ok (.aload_n 0, 1) := by decide +kernel
theorem dX10_inShop_16 : decode cX10_inShop 16 = .ok (.iload_n 2, 1) := by decide +kernel
theorem dX10_inShop_17 : decode cX10_inShop 17 = .ok (.iconst 3, 1) := by decide +kernel
theorem dX10_inShop_18 : decode cX10_inShop 18 = .ok (.invokevirtual 61, 3) := by decide +kernel
theorem dX10_inShop_21 : decode cX10_inShop 21 = .ok (.iconst (-1), 1) := by decide +kernel
theorem dX10_inShop_22 : decode cX10_inShop 22 = .ok (.if_icmp .ne 9, 3) := by decide +kernel
theorem dX10_inShop_25 : decode cX10_inShop 25 = .ok (.iconst 1, 1) := by decide +kernel
theorem dX10_inShop_26 : decode cX10_inShop 26 = .ok (.iload_n 2, 1) := by decide +kernel
theorem dX10_inShop_27 : decode cX10_inShop 27 = .ok (.ishl, 1) := by decide +kernel
theorem dX10_inShop_28 : decode cX10_inShop 28 = .ok (.goto 4, 3) := by decide +kernel
theorem dX10_inShop_31 : decode cX10_inShop 31 = .ok (.iconst 0, 1) := by decide +kernel
theorem dX10_inShop_32 : decode cX10_inShop 32 = .ok (.ior, 1) := by decide +kernel
theorem dX10_inShop_33 : decode cX10_inShop 33 = .ok (.istore_n 1, 1) := by decide +kernel
theorem dX10_inShop_34 : decode cX10_inShop 34 = .ok (.iinc 2 1, 3) := by decide +kernel
theorem dX10_inShop_37 : decode cX10_inShop 37 = .ok (.goto (-33), 3) := by decide +kernel
theorem dX10_inShop_40 : decode cX10_inShop 40 = .ok (.iload_n 1, 1) := by decide +kernel
theorem dX10_inShop_41 : decode cX10_inShop 41 = .ok (.ireturn, 1) := by decide +kernel
theorem dX10_bearded_0 : decode cX10_bearded 0 = .ok (.iconst 0, 1) := by decide +kernel
theorem dX10_bearded_1 : decode cX10_bearded 1 = .ok (.istore_n 1, 1) := by decide +kernel
theorem dX10_bearded_2 : decode cX10_bearded 2 = .ok (.iconst 0, 1) := by decide +kernel
theorem dX10_bearded_3 : decode cX10_bearded 3 = .ok (.istore_n 2, 1) := by decide +kernel
theorem dX10_bearded_4 : decode cX10_bearded 4 = .ok (.iload_n 2, 1) := by decide +kernel
theorem dX10_bearded_5 : decode cX10_bearded 5 = .ok (.aload_n 0, 1) := by decide +kernel
theorem dX10_bearded_6 : decode cX10_bearded 6 = .ok (.getfield 7, 3) := by decide +kernel
theorem dX10_bearded_9 : decode cX10_bearded 9 = .ok (.iconst 1, 1) := by decide +kernel
theorem dX10_bearded_10 : decode cX10_bearded 10 = .ok (.iaload, 1) := by decide +kernel
theorem dX10_bearded_11 : decode cX10_bearded 11 = .ok (.if_icmp .ge 34, 3) := by decide +kernel
theorem dX10_bearded_14 : decode cX10_bearded 14 = .ok (.iload_n 1, 1) := by decide +kernel
theorem dX10_bearded_15 : decode cX10_bearded 15 = .ok (.aload_n 0, 1) := by decide +kernel
theorem dX10_bearded_16 : decode cX10_bearded 16 = .ok (.iload_n 2, 1) := by decide +kernel
theorem dX10_bearded_17 : decode cX10_bearded 17 = .ok (.iconst 3, 1) := by decide +kernel
theorem dX10_bearded_18 : decode cX10_bearded 18 = .ok (.invokevirtual 61, 3) := by decide +kernel
theorem dX10_bearded_21 : decode cX10_bearded 21 = .ok (.iconst (-1), 1) := by decide +kernel
theorem dX10_bearded_22 : decode cX10_bearded 22 = .ok (.if_icmp .ne 7, 3) := by decide +kernel
theorem dX10_bearded_25 : decode cX10_bearded 25 = .ok (.iconst 0, 1) := by decide +kernel
theorem dX10_bearded_26 : decode cX10_bearded 26 = .ok (.goto 11, 3) := by decide +kernel
theorem dX10_bearded_29 : decode cX10_bearded 29 = .ok (.iconst 1, 1) := by decide +kernel
theorem dX10_bearded_30 : decode cX10_bearded 30 = .ok (.aload_n 0, 1) := by decide +kernel
theorem dX10_bearded_31 : decode cX10_bearded 31 = .ok (.iload_n 2, 1) := by decide +kernel
theorem dX10_bearded_32 : decode cX10_bearded 32 = .ok (.iconst 3, 1) := by decide +kernel
theorem dX10_bearded_33 : decode cX10_bearded 33 = .ok (.invokevirtual 61, 3) := by decide +kernel
theorem dX10_bearded_36 : decode cX10_bearded 36 = .ok (.ishl, 1) := by decide +kernel
theorem dX10_bearded_37 : decode cX10_bearded 37 = .ok (.ior, 1) := by decide +kernel
theorem dX10_bearded_38 : decode cX10_bearded 38 = .ok (.istore_n 1, 1) := by decide +kernel
theorem dX10_bearded_39 : decode cX10_bearded 39 = .ok (.iinc 2 1, 3) := by decide +kernel
theorem dX10_bearded_42 : decode cX10_bearded 42 = .ok (.goto (-38), 3) := by decide +kernel
theorem dX10_bearded_45 : decode cX10_bearded 45 = .ok (.iload_n 1, 1) := by decide +kernel
theorem dX10_bearded_46 : decode cX10_bearded 46 = .ok (.ireturn, 1) := by decide +kernel
theorem dX10_purses_0 : decode cX10_purses 0 = .ok (.iconst 0, 1) := by decide +kernel
theorem dX10_purses_1 : decode cX10_purses 1 = .ok (.istore_n 1, 1) := by decide +kernel
theorem dX10_purses_2 : decode cX10_purses 2 = .ok (.iconst 0, 1) := by decide +kernel
theorem dX10_purses_3 : decode cX10_purses 3 = .ok (.istore_n 2, 1) := by decide +kernel
theorem dX10_purses_4 : decode cX10_purses 4 = .ok (.iload_n 2, 1) := by decide +kernel
theorem dX10_purses_5 : decode cX10_purses 5 = .ok (.aload_n 0, 1) := by decide +kernel
theorem dX10_purses_6 : decode cX10_purses 6 = .ok (.getfield 7, 3) := by decide +kernel
theorem dX10_purses_9 : decode cX10_purses 9 = .ok (.iconst 2, 1) := by decide +kernel
theorem dX10_purses_10 : decode cX10_purses 10 = .ok (.iaload, 1) := by decide +kernel
theorem dX10_purses_11 : decode cX10_purses 11 = .ok (.if_icmp .ge 18, 3) := by decide +kernel
theorem dX10_purses_14 : decode cX10_purses 14 = .ok (.iload_n 1, 1) := by decide +kernel
theorem dX10_purses_15 : decode cX10_purses 15 = .ok (.aload_n 0, 1) := by decide +kernel
theorem dX10_purses_16 : decode cX10_purses 16 = .ok (.iload_n 2, 1) := by decide +kernel
theorem dX10_purses_17 : decode cX10_purses 17 = .ok (.iconst 0, 1) := by decide +kernel
theorem dX10_purses_18 : decode cX10_purses 18 = .ok (.invokevirtual 58, 3) := by decide +kernel
theorem dX10_purses_21 : decode cX10_purses 21 = .ok (.iadd, 1) := by decide +kernel
theorem dX10_purses_22 : decode cX10_purses 22 = .ok (.istore_n 1, 1) := by decide +kernel
theorem dX10_purses_23 : decode cX10_purses 23 = .ok (.iinc 2 1, 3) := by decide +kernel
theorem dX10_purses_26 : decode cX10_purses 26 = .ok (.goto (-22), 3) := by decide +kernel
theorem dX10_purses_29 : decode cX10_purses 29 = .ok (.iload_n 1, 1) := by decide +kernel
theorem dX10_purses_30 : decode cX10_purses 30 = .ok (.ireturn, 1) := by decide +kernel
theorem dX10_hoards_0 : decode cX10_hoards 0 = .ok (.iconst 0, 1) := by decide +kernel
theorem dX10_hoards_1 : decode cX10_hoards 1 = .ok (.istore_n 1, 1) := by decide +kernel
theorem dX10_hoards_2 : decode cX10_hoards 2 = .ok (.iconst 0, 1) := by decide +kernel
theorem dX10_hoards_3 : decode cX10_hoards 3 = .ok (.istore_n 2, 1) := by decide +kernel
theorem dX10_hoards_4 : decode cX10_hoards 4 = .ok (.iload_n 2, 1) := by decide +kernel
theorem dX10_hoards_5 : decode cX10_hoards 5 = .ok (.aload_n 0, 1) := by decide +kernel
theorem dX10_hoards_6 : decode cX10_hoards 6 = .ok (.getfield 7, 3) := by decide +kernel
theorem dX10_hoards_9 : decode cX10_hoards 9 = .ok (.iconst 1, 1) := by decide +kernel
theorem dX10_hoards_10 : decode cX10_hoards 10 = .ok (.iaload, 1) := by decide +kernel
theorem dX10_hoards_11 : decode cX10_hoards 11 = .ok (.if_icmp .ge 18, 3) := by decide +kernel
theorem dX10_hoards_14 : decode cX10_hoards 14 = .ok (.iload_n 1, 1) := by decide +kernel
theorem dX10_hoards_15 : decode cX10_hoards 15 = .ok (.aload_n 0, 1) := by decide +kernel
theorem dX10_hoards_16 : decode cX10_hoards 16 = .ok (.iload_n 2, 1) := by decide +kernel
theorem dX10_hoards_17 : decode cX10_hoards 17 = .ok (.iconst 2, 1) := by decide +kernel
theorem dX10_hoards_18 : decode cX10_hoards 18 = .ok (.invokevirtual 61, 3) := by decide +kernel
theorem dX10_hoards_21 : decode cX10_hoards 21 = .ok (.iadd, 1) := by decide +kernel
theorem dX10_hoards_22 : decode cX10_hoards 22 = .ok (.istore_n 1, 1) := by decide +kernel
theorem dX10_hoards_23 : decode cX10_hoards 23 = .ok (.iinc 2 1, 3) := by decide +kernel
theorem dX10_hoards_26 : decode cX10_hoards 26 = .ok (.goto (-22), 3) := by decide +kernel
theorem dX10_hoards_29 : decode cX10_hoards 29 = .ok (.iload_n 1, 1) := by decide +kernel
theorem dX10_hoards_30 : decode cX10_hoards 30 = .ok (.ireturn, 1) := by decide +kernel
theorem dX10_now_0 : decode cX10_now 0 = .ok (.iload_n 1, 1) := by decide +kernel
theorem dX10_now_1 : decode cX10_now 1 = .ok (.tableswitch 70 0 4 #[35, 42, 55, 60, 65], 35) := by decide +kernel
theorem dX10_now_36 : decode cX10_now 36 = .ok (.aload_n 0, 1) := by decide +kernel
theorem dX10_now_37 : decode cX10_now 37 = .ok (.getfield 7, 3) := by decide +kernel
theorem dX10_now_40 : decode cX10_now 40 = .ok (.iconst 0, 1) := by decide +kernel
theorem dX10_now_41 : decode cX10_now 41 = .ok (.iaload, 1) := by decide +kernel
theorem dX10_now_42 : decode cX10_now 42 = .ok (.ireturn, 1) := by decide +kernel
theorem dX10_now_43 : decode cX10_now 43 = .ok (.aload_n 0, 1) := by decide +kernel
theorem dX10_now_44 : decode cX10_now 44 = .ok (.invokevirtual 93, 3) := by decide +kernel
theorem dX10_now_47 : decode cX10_now 47 = .ok (.ifCond .eq 7, 3) := by decide +kernel
theorem dX10_now_50 : decode cX10_now 50 = .ok (.iconst 1, 1) := by decide +kernel
theorem dX10_now_51 : decode cX10_now 51 = .ok (.goto 4, 3) := by decide +kernel
theorem dX10_now_54 : decode cX10_now 54 = .ok (.iconst 0, 1) := by decide +kernel
theorem dX10_now_55 : decode cX10_now 55 = .ok (.ireturn, 1) := by decide +kernel
theorem dX10_now_56 : decode cX10_now 56 = .ok (.aload_n 0, 1) := by decide +kernel
theorem dX10_now_57 : decode cX10_now 57 = .ok (.invokevirtual 97, 3) := by decide +kernel
theorem dX10_now_60 : decode cX10_now 60 = .ok (.ireturn, 1) := by decide +kernel
theorem dX10_now_61 : decode cX10_now 61 = .ok (.aload_n 0, 1) := by decide +kernel
theorem dX10_now_62 : decode cX10_now 62 = .ok (.invokevirtual 101, 3) := by decide +kernel
theorem dX10_now_65 : decode cX10_now 65 = .ok (.ireturn, 1) := by decide +kernel
theorem dX10_now_66 : decode cX10_now 66 = .ok (.aload_n 0, 1) := by decide +kernel
theorem dX10_now_67 : decode cX10_now 67 = .ok (.invokevirtual 104, 3) := by decide +kernel
theorem dX10_now_70 : decode cX10_now 70 = .ok (.ireturn, 1) := by decide +kernel
theorem dX10_now_71 : decode cX10_now 71 = .ok (.aload_n 0, 1) := by decide +kernel
theorem dX10_now_72 : decode cX10_now 72 = .ok (.ldc 45, 2) := by decide +kernel
theorem dX10_now_74 : decode cX10_now 74 = .ok (.invokevirtual 75, 3) := by decide +kernel
theorem dX10_now_77 : decode cX10_now 77 = .ok (.ireturn, 1) := by decide +kernel
theorem dX10_costsOf_0 : decode cX10_costsOf 0 = .ok (.iconst 5, 1) := by decide +kernel
theorem dX10_costsOf_1 : decode cX10_costsOf 1 = .ok (.aload_n 0, 1) := by decide +kernel
theorem dX10_costsOf_2 : decode cX10_costsOf 2 = .ok (.iload_n 1, 1) := by decide +kernel
theorem dX10_costsOf_3 : decode cX10_costsOf 3 = .ok (.iconst 1, 1) := by decide +kernel
theorem dX10_costsOf_4 : decode cX10_costsOf 4 = .ok (.invokevirtual 61, 3) := by decide +kernel
theorem dX10_costsOf_7 : decode cX10_costsOf 7 = .ok (.bipush 10, 2) := by decide +kernel
theorem dX10_costsOf_9 : decode cX10_costsOf 9 = .ok (.idiv, 1) := by decide +kernel
theorem dX10_costsOf_10 : decode cX10_costsOf 10 = .ok (.iadd, 1) := by decide +kernel
theorem dX10_costsOf_11 : decode cX10_costsOf 11 = .ok (.istore_n 2, 1) := by decide +kernel
theorem dX10_costsOf_12 : decode cX10_costsOf 12 = .ok (.aload_n 0, 1) := by decide +kernel
theorem dX10_costsOf_13 : decode cX10_costsOf 13 = .ok (.iload_n 1, 1) := by decide +kernel
theorem dX10_costsOf_14 : decode cX10_costsOf 14 = .ok (.iconst 0, 1) := by decide +kernel
theorem dX10_costsOf_15 : decode cX10_costsOf 15 = .ok (.invokevirtual 61, 3) := by decide +kernel
theorem dX10_costsOf_18 : decode cX10_costsOf 18 = .ok (.tableswitch 58 1 5 #[34, 36, 39, 41, 45], 34) := by decide +kernel
theorem dX10_costsOf_52 : decode cX10_costsOf 52 = .ok (.iload_n 2, 1) := by decide +kernel
theorem dX10_costsOf_53 : decode cX10_costsOf 53 = .ok (.ireturn, 1) := by decide +kernel
theorem dX10_costsOf_54 : decode cX10_costsOf 54 = .ok (.bipush 12, 2) := by decide +kernel
theorem dX10_costsOf_56 : decode cX10_costsOf 56 = .ok (.ireturn, 1) := by decide +kernel
theorem dX10_costsOf_57 : decode cX10_costsOf 57 = .ok (.iconst 2, 1) := by decide +kernel
theorem dX10_costsOf_58 : decode cX10_costsOf 58 = .ok (.ireturn, 1) := by decide +kernel
theorem dX10_costsOf_59 : decode cX10_costsOf 59 = .ok (.iconst 2, 1) := by decide +kernel
theorem dX10_costsOf_60 : decode cX10_costsOf 60 = .ok (.iload_n 2, 1) := by decide +kernel
theorem dX10_costsOf_61 : decode cX10_costsOf 61 = .ok (.imul, 1) := by decide +kernel
theorem dX10_costsOf_62 : decode cX10_costsOf 62 = .ok (.ireturn, 1) := by decide +kernel
theorem dX10_costsOf_63 : decode cX10_costsOf 63 = .ok (.bipush 12, 2) := by decide +kernel
theorem dX10_costsOf_65 : decode cX10_costsOf 65 = .ok (.aload_n 0, 1) := by decide +kernel
theorem dX10_costsOf_66 : decode cX10_costsOf 66 = .ok (.iload_n 1, 1) := by decide +kernel
theorem dX10_costsOf_67 : decode cX10_costsOf 67 = .ok (.iconst 2, 1) := by decide +kernel
theorem dX10_costsOf_68 : decode cX10_costsOf 68 = .ok (.invokevirtual 61, 3) := by decide +kernel
theorem dX10_costsOf_71 : decode cX10_costsOf 71 = .ok (.bipush 50, 2) := by decide +kernel
theorem dX10_costsOf_73 : decode cX10_costsOf 73 = .ok (.idiv, 1) := by decide +kernel
theorem dX10_costsOf_74 : decode cX10_costsOf 74 = .ok (.iadd, 1) := by decide +kernel
theorem dX10_costsOf_75 : decode cX10_costsOf 75 = .ok (.ireturn, 1) := by decide +kernel
theorem dX10_costsOf_76 : decode cX10_costsOf 76 = .ok (.iconst 5, 1) := by decide +kernel
theorem dX10_costsOf_77 : decode cX10_costsOf 77 = .ok (.ireturn, 1) := by decide +kernel
theorem dX10_meetsOf_0 : decode cX10_meetsOf 0 = .ok (.aload_n 0, 1) := by decide +kernel
theorem dX10_meetsOf_1 : decode cX10_meetsOf 1 = .ok (.iload_n 2, 1) := by decide +kernel
theorem dX10_meetsOf_2 : decode cX10_meetsOf 2 = .ok (.iconst 1, 1) := by decide +kernel
theorem dX10_meetsOf_3 : decode cX10_meetsOf 3 = .ok (.invokevirtual 87, 3) := by decide +kernel
theorem dX10_meetsOf_6 : decode cX10_meetsOf 6 = .ok (.istore_n 3, 1) := by decide +kernel
theorem dX10_meetsOf_7 : decode cX10_meetsOf 7 = .ok (.aload_n 0, 1) := by decide +kernel
theorem dX10_meetsOf_8 : decode cX10_meetsOf 8 = .ok (.iload_n 2, 1) := by decide +kernel
theorem dX10_meetsOf_9 : decode cX10_meetsOf 9 = .ok (.iconst 0, 1) := by decide +kernel
theorem dX10_meetsOf_10 : decode cX10_meetsOf 10 = .ok (.invokevirtual 87, 3) := by decide +kernel
theorem dX10_meetsOf_13 : decode cX10_meetsOf 13 = .ok (.iload_n 1, 1) := by decide +kernel
theorem dX10_meetsOf_14 : decode cX10_meetsOf 14 = .ok (.if_icmp .ne 10, 3) := by decide +kernel
theorem dX10_meetsOf_17 : decode cX10_meetsOf 17 = .ok (.iload_n 3, 1) := by decide +kernel
theorem dX10_meetsOf_18 : decode cX10_meetsOf 18 = .ok (.bipush 10, 2) := by decide +kernel
theorem dX10_meetsOf_20 : decode cX10_meetsOf 20 = .ok (.idiv, 1) := by decide +kernel
theorem dX10_meetsOf_21 : decode cX10_meetsOf 21 = .ok (.goto 4, 3) := by decide +kernel
theorem dX10_meetsOf_24 : decode cX10_meetsOf 24 = .ok (.iconst 0, 1) := by decide +kernel
theorem dX10_meetsOf_25 : decode cX10_meetsOf 25 = .ok (.istore 4, 2) := by decide +kernel
theorem dX10_meetsOf_27 : decode cX10_meetsOf 27 = .ok (.aload_n 0, 1) := by decide +kernel
theorem dX10_meetsOf_28 : decode cX10_meetsOf 28 = .ok (.iload_n 1, 1) := by decide +kernel
theorem dX10_meetsOf_29 : decode cX10_meetsOf 29 = .ok (.iconst 1, 1) := by decide +kernel
theorem dX10_meetsOf_30 : decode cX10_meetsOf 30 = .ok (.invokevirtual 61, 3) := by decide +kernel
theorem dX10_meetsOf_33 : decode cX10_meetsOf 33 = .ok (.bipush 50, 2) := by decide +kernel
theorem dX10_meetsOf_35 : decode cX10_meetsOf 35 = .ok (.if_icmp .le 10, 3) := by decide +kernel
theorem dX10_meetsOf_38 : decode cX10_meetsOf 38 = .ok (.iload 4, 2) := by decide +kernel
theorem dX10_meetsOf_40 : decode cX10_meetsOf 40 = .ok (.iconst 4, 1) := by decide +kernel
theorem dX10_meetsOf_41 : decode cX10_meetsOf 41 = .ok (.isub, 1) := by decide +kernel
theorem dX10_meetsOf_42 : decode cX10_meetsOf 42 = .ok (.goto 5, 3) := by decide +kernel
theorem dX10_meetsOf_45 : decode cX10_meetsOf 45 = .ok (.iload 4, 2) := by decide +kernel
theorem dX10_meetsOf_47 : decode cX10_meetsOf 47 = .ok (.istore 5, 2) := by decide +kernel
theorem dX10_meetsOf_49 : decode cX10_meetsOf 49 = .ok (.iload 4, 2) := by decide +kernel
theorem dX10_meetsOf_51 : decode cX10_meetsOf 51 = .ok (.ifCond .le 8, 3) := by decide +kernel
theorem dX10_meetsOf_54 : decode cX10_meetsOf 54 = .ok (.iload 4, 2) := by decide +kernel
theorem dX10_meetsOf_56 : decode cX10_meetsOf 56 = .ok (.goto 5, 3) := by decide +kernel
theorem dX10_meetsOf_59 : decode cX10_meetsOf 59 = .ok (.bipush (-6), 2) := by decide +kernel
theorem dX10_meetsOf_61 : decode cX10_meetsOf 61 = .ok (.istore 6, 2) := by decide +kernel
theorem dX10_meetsOf_63 : decode cX10_meetsOf 63 = .ok (.aload_n 0, 1) := by decide +kernel
theorem dX10_meetsOf_64 : decode cX10_meetsOf 64 = .ok (.iload_n 1, 1) := by decide +kernel
theorem dX10_meetsOf_65 : decode cX10_meetsOf 65 = .ok (.iconst 0, 1) := by decide +kernel
theorem dX10_meetsOf_66 : decode cX10_meetsOf 66 = .ok (.invokevirtual 61, 3) := by decide +kernel
theorem dX10_meetsOf_69 : decode cX10_meetsOf 69 = .ok (.tableswitch 68 1 5 #[35, 38, 41, 46, 63], 35) := by decide +kernel
theorem dX10_meetsOf_104 : decode cX10_meetsOf 104 = .ok (.iload 5, 2) := by decide +kernel
theorem dX10_meetsOf_106 : decode cX10_meetsOf 106 = .ok (.ireturn, 1) := by decide +kernel
theorem dX10_meetsOf_107 : decode cX10_meetsOf 107 = .ok (.iload 6, 2) := by decide +kernel
theorem dX10_meetsOf_109 : decode cX10_meetsOf 109 = .ok (.ireturn, 1) := by decide +kernel
theorem dX10_meetsOf_110 : decode cX10_meetsOf 110 = .ok (.iload 4, 2) := by decide +kernel
theorem dX10_meetsOf_112 : decode cX10_meetsOf 112 = .ok (.iconst 1, 1) := by decide +kernel
theorem dX10_meetsOf_113 : decode cX10_meetsOf 113 = .ok (.iadd, 1) := by decide +kernel
theorem dX10_meetsOf_114 : decode cX10_meetsOf 114 = .ok (.ireturn, 1) := by decide +kernel
theorem dX10_meetsOf_115 : decode cX10_meetsOf 115 = .ok (.iload_n 3, 1) := by decide +kernel
theorem dX10_meetsOf_116 : decode cX10_meetsOf 116 = .ok (.bipush 20, 2) := by decide +kernel
theorem dX10_meetsOf_118 : decode cX10_meetsOf 118 = .ok (.if_icmp .le 11, 3) := by decide +kernel
theorem dX10_meetsOf_121 : decode cX10_meetsOf 121 = .ok (.iload 5, 2) := by decide +kernel
theorem dX10_meetsOf_123 : decode cX10_meetsOf 123 = .ok (.bipush 10, 2) := by decide +kernel
theorem dX10_meetsOf_125 : decode cX10_meetsOf 125 = .ok (.iadd, 1) := by decide +kernel
theorem dX10_meetsOf_126 : decode cX10_meetsOf 126 = .ok (.goto 5, 3) := by decide +kernel
theorem dX10_meetsOf_129 : decode cX10_meetsOf 129 = .ok (.iload 5, 2) := by decide +kernel
theorem dX10_meetsOf_131 : decode cX10_meetsOf 131 = .ok (.ireturn, 1) := by decide +kernel
theorem dX10_meetsOf_132 : decode cX10_meetsOf 132 = .ok (.iconst 2, 1) := by decide +kernel
theorem dX10_meetsOf_133 : decode cX10_meetsOf 133 = .ok (.iload 6, 2) := by decide +kernel
theorem dX10_meetsOf_135 : decode cX10_meetsOf 135 = .ok (.imul, 1) := by decide +kernel
theorem dX10_meetsOf_136 : decode cX10_meetsOf 136 = .ok (.ireturn, 1) := by decide +kernel
theorem dX10_meetsOf_137 : decode cX10_meetsOf 137 = .ok (.iload 4, 2) := by decide +kernel
theorem dX10_meetsOf_139 : decode cX10_meetsOf 139 = .ok (.ireturn, 1) := by decide +kernel
theorem dX10_leavesOf_0 : decode cX10_leavesOf 0 = .ok (.aload_n 0, 1) := by decide +kernel
theorem dX10_leavesOf_1 : decode cX10_leavesOf 1 = .ok (.iload_n 1, 1) := by decide +kernel
theorem dX10_leavesOf_2 : decode cX10_leavesOf 2 = .ok (.iconst 1, 1) := by decide +kernel
theorem dX10_leavesOf_3 : decode cX10_leavesOf 3 = .ok (.invokevirtual 61, 3) := by decide +kernel
theorem dX10_leavesOf_6 : decode cX10_leavesOf 6 = .ok (.bipush 50, 2) := by decide +kernel
theorem dX10_leavesOf_8 : decode cX10_leavesOf 8 = .ok (.if_icmp .le 8, 3) := by decide +kernel
theorem dX10_leavesOf_11 : decode cX10_leavesOf 11 = .ok (.bipush (-5), 2) := by decide +kernel
theorem dX10_leavesOf_13 : decode cX10_leavesOf 13 = .ok (.goto 4, 3) := by decide +kernel
theorem dX10_leavesOf_16 : decode cX10_leavesOf 16 = .ok (.iconst 3, 1) := by decide +kernel
theorem dX10_leavesOf_17 : decode cX10_leavesOf 17 = .ok (.istore_n 2, 1) := by decide +kernel
theorem dX10_leavesOf_18 : decode cX10_leavesOf 18 = .ok (.aload_n 0, 1) := by decide +kernel
theorem dX10_leavesOf_19 : decode cX10_leavesOf 19 = .ok (.iload_n 1, 1) := by decide +kernel
theorem dX10_leavesOf_20 : decode cX10_leavesOf 20 = .ok (.iconst 0, 1) := by decide +kernel
theorem dX10_leavesOf_21 : decode cX10_leavesOf 21 = .ok (.invokevirtual 61, 3) := by decide +kernel
theorem dX10_leavesOf_24 : decode cX10_leavesOf 24 = .ok (.tableswitch 47 1 5 #[36, 38, 41, 43, 38], 36) := by decide +kernel
theorem dX10_leavesOf_60 : decode cX10_leavesOf 60 = .ok (.iload_n 2, 1) := by decide +kernel
theorem dX10_leavesOf_61 : decode cX10_leavesOf 61 = .ok (.ireturn, 1) := by decide +kernel
theorem dX10_leavesOf_62 : decode cX10_leavesOf 62 = .ok (.bipush 7, 2) := by decide +kernel
theorem dX10_leavesOf_64 : decode cX10_leavesOf 64 = .ok (.ireturn, 1) := by decide +kernel
theorem dX10_leavesOf_65 : decode cX10_leavesOf 65 = .ok (.iconst 1, 1) := by decide +kernel
theorem dX10_leavesOf_66 : decode cX10_leavesOf 66 = .ok (.ireturn, 1) := by decide +kernel
theorem dX10_leavesOf_67 : decode cX10_leavesOf 67 = .ok (.iload_n 2, 1) := by decide +kernel
theorem dX10_leavesOf_68 : decode cX10_leavesOf 68 = .ok (.iconst 1, 1) := by decide +kernel
theorem dX10_leavesOf_69 : decode cX10_leavesOf 69 = .ok (.iadd, 1) := by decide +kernel
theorem dX10_leavesOf_70 : decode cX10_leavesOf 70 = .ok (.ireturn, 1) := by decide +kernel
theorem dX10_leavesOf_71 : decode cX10_leavesOf 71 = .ok (.iconst 3, 1) := by decide +kernel
theorem dX10_leavesOf_72 : decode cX10_leavesOf 72 = .ok (.ireturn, 1) := by decide +kernel
theorem dX10_gainsOf_0 : decode cX10_gainsOf 0 = .ok (.aload_n 0, 1) := by decide +kernel
theorem dX10_gainsOf_1 : decode cX10_gainsOf 1 = .ok (.iload_n 1, 1) := by decide +kernel
theorem dX10_gainsOf_2 : decode cX10_gainsOf 2 = .ok (.iconst 0, 1) := by decide +kernel
theorem dX10_gainsOf_3 : decode cX10_gainsOf 3 = .ok (.invokevirtual 61, 3) := by decide +kernel
theorem dX10_gainsOf_6 : decode cX10_gainsOf 6 = .ok (.tableswitch 53 1 5 #[34, 53, 36, 38, 51], 34) := by decide +kernel
theorem dX10_gainsOf_40 : decode cX10_gainsOf 40 = .ok (.iconst 3, 1) := by decide +kernel
theorem dX10_gainsOf_41 : decode cX10_gainsOf 41 = .ok (.ireturn, 1) := by decide +kernel
theorem dX10_gainsOf_42 : decode cX10_gainsOf 42 = .ok (.iconst 0, 1) := by decide +kernel
theorem dX10_gainsOf_43 : decode cX10_gainsOf 43 = .ok (.ireturn, 1) := by decide +kernel
theorem dX10_gainsOf_44 : decode cX10_gainsOf 44 = .ok (.aload_n 0, 1) := by decide +kernel
theorem dX10_gainsOf_45 : decode cX10_gainsOf 45 = .ok (.invokevirtual 93, 3) := by decide +kernel
theorem dX10_gainsOf_48 : decode cX10_gainsOf 48 = .ok (.ifCond .eq 7, 3) := by decide +kernel
theorem dX10_gainsOf_51 : decode cX10_gainsOf 51 = .ok (.iconst 0, 1) := by decide +kernel
theorem dX10_gainsOf_52 : decode cX10_gainsOf 52 = .ok (.goto 4, 3) := by decide +kernel
theorem dX10_gainsOf_55 : decode cX10_gainsOf 55 = .ok (.iconst 3, 1) := by decide +kernel
theorem dX10_gainsOf_56 : decode cX10_gainsOf 56 = .ok (.ireturn, 1) := by decide +kernel
theorem dX10_gainsOf_57 : decode cX10_gainsOf 57 = .ok (.iconst (-1), 1) := by decide +kernel
theorem dX10_gainsOf_58 : decode cX10_gainsOf 58 = .ok (.ireturn, 1) := by decide +kernel
theorem dX10_gainsOf_59 : decode cX10_gainsOf 59 = .ok (.iconst 1, 1) := by decide +kernel
theorem dX10_gainsOf_60 : decode cX10_gainsOf 60 = .ok (.ireturn, 1) := by decide +kernel
theorem dX10_addsBeard_0 : decode cX10_addsBeard 0 = .ok (.aload_n 0, 1) := by decide +kernel
theorem dX10_addsBeard_1 : decode cX10_addsBeard 1 = .ok (.getfield 7, 3) := by decide +kernel
theorem dX10_addsBeard_4 : decode cX10_addsBeard 4 = .ok (.iconst 1, 1) := by decide +kernel
theorem dX10_addsBeard_5 : decode cX10_addsBeard 5 = .ok (.iaload, 1) := by decide +kernel
theorem dX10_addsBeard_6 : decode cX10_addsBeard 6 = .ok (.istore_n 2, 1) := by decide +kernel
theorem dX10_addsBeard_7 : decode cX10_addsBeard 7 = .ok (.aload_n 0, 1) := by decide +kernel
theorem dX10_addsBeard_8 : decode cX10_addsBeard 8 = .ok (.getfield 7, 3) := by decide +kernel
theorem dX10_addsBeard_11 : decode cX10_addsBeard 11 = .ok (.iconst 1, 1) := by decide +kernel
theorem dX10_addsBeard_12 : decode cX10_addsBeard 12 = .ok (.dup2, 1) := by decide +kernel
theorem dX10_addsBeard_13 : decode cX10_addsBeard 13 = .ok (.iaload, 1) := by decide +kernel
theorem dX10_addsBeard_14 : decode cX10_addsBeard 14 = .ok (.iconst 1, 1) := by decide +kernel
theorem dX10_addsBeard_15 : decode cX10_addsBeard 15 = .ok (.iadd, 1) := by decide +kernel
theorem dX10_addsBeard_16 : decode cX10_addsBeard 16 = .ok (.iastore, 1) := by decide +kernel
theorem dX10_addsBeard_17 : decode cX10_addsBeard 17 = .ok (.aload_n 0, 1) := by decide +kernel
theorem dX10_addsBeard_18 : decode cX10_addsBeard 18 = .ok (.getfield 7, 3) := by decide +kernel
theorem dX10_addsBeard_21 : decode cX10_addsBeard 21 = .ok (.iload_n 2, 1) := by decide +kernel
theorem dX10_addsBeard_22 : decode cX10_addsBeard 22 = .ok (.iconst 0, 1) := by decide +kernel
theorem dX10_addsBeard_23 : decode cX10_addsBeard 23 = .ok (.invokestatic 46, 3) := by decide +kernel
theorem dX10_addsBeard_26 : decode cX10_addsBeard 26 = .ok (.iload_n 1, 1) := by decide +kernel
theorem dX10_addsBeard_27 : decode cX10_addsBeard 27 = .ok (.iastore, 1) := by decide +kernel
theorem dX10_addsBeard_28 : decode cX10_addsBeard 28 = .ok (.aload_n 0, 1) := by decide +kernel
theorem dX10_addsBeard_29 : decode cX10_addsBeard 29 = .ok (.getfield 7, 3) := by decide +kernel
theorem dX10_addsBeard_32 : decode cX10_addsBeard 32 = .ok (.iload_n 2, 1) := by decide +kernel
theorem dX10_addsBeard_33 : decode cX10_addsBeard 33 = .ok (.iconst 1, 1) := by decide +kernel
theorem dX10_addsBeard_34 : decode cX10_addsBeard 34 = .ok (.invokestatic 46, 3) := by decide +kernel
theorem dX10_addsBeard_37 : decode cX10_addsBeard 37 = .ok (.bipush 10, 2) := by decide +kernel
theorem dX10_addsBeard_39 : decode cX10_addsBeard 39 = .ok (.iastore, 1) := by decide +kernel
theorem dX10_addsBeard_40 : decode cX10_addsBeard 40 = .ok (.aload_n 0, 1) := by decide +kernel
theorem dX10_addsBeard_41 : decode cX10_addsBeard 41 = .ok (.getfield 7, 3) := by decide +kernel
theorem dX10_addsBeard_44 : decode cX10_addsBeard 44 = .ok (.iload_n 2, 1) := by decide +kernel
theorem dX10_addsBeard_45 : decode cX10_addsBeard 45 = .ok (.iconst 2, 1) := by decide +kernel
theorem dX10_addsBeard_46 : decode cX10_addsBeard 46 = .ok (.invokestatic 46, 3) := by decide +kernel
theorem dX10_addsBeard_49 : decode cX10_addsBeard 49 = .ok (.iconst 0, 1) := by decide +kernel
theorem dX10_addsBeard_50 : decode cX10_addsBeard 50 = .ok (.iastore, 1) := by decide +kernel
theorem dX10_addsBeard_51 : decode cX10_addsBeard 51 = .ok (.aload_n 0, 1) := by decide +kernel
theorem dX10_addsBeard_52 : decode cX10_addsBeard 52 = .ok (.getfield 7, 3) := by decide +kernel
theorem dX10_addsBeard_55 : decode cX10_addsBeard 55 = .ok (.iload_n 2, 1) := by decide +kernel
theorem dX10_addsBeard_56 : decode cX10_addsBeard 56 = .ok (.iconst 3, 1) := by decide +kernel
theorem dX10_addsBeard_57 : decode cX10_addsBeard 57 = .ok (.invokestatic 46, 3) := by decide +kernel
theorem dX10_addsBeard_60 : decode cX10_addsBeard 60 = .ok (.iconst (-1), 1) := by decide +kernel
theorem dX10_addsBeard_61 : decode cX10_addsBeard 61 = .ok (.iastore, 1) := by decide +kernel
theorem dX10_addsBeard_62 : decode cX10_addsBeard 62 = .ok (.iload_n 2, 1) := by decide +kernel
theorem dX10_addsBeard_63 : decode cX10_addsBeard 63 = .ok (.ireturn, 1) := by decide +kernel
theorem dX10_beard_0 : decode cX10_beard 0 = .ok (.iload_n 1, 1) := by decide +kernel
theorem dX10_beard_1 : decode cX10_beard 1 = .ok (.invokestatic 107, 3) := by decide +kernel
theorem dX10_beard_4 : decode cX10_beard 4 = .ok (.ifCond .ne 10, 3) := by decide +kernel
theorem dX10_beard_7 : decode cX10_beard 7 = .ok (.aload_n 0, 1) := by decide +kernel
theorem dX10_beard_8 : decode cX10_beard 8 = .ok (.ldc 45, 2) := by decide +kernel
theorem dX10_beard_10 : decode cX10_beard 10 = .ok (.invokevirtual 75, 3) := by decide +kernel
theorem dX10_beard_13 : decode cX10_beard 13 = .ok (.ireturn, 1) := by decide +kernel
theorem dX10_beard_14 : decode cX10_beard 14 = .ok (.aload_n 0, 1) := by decide +kernel
theorem dX10_beard_15 : decode cX10_beard 15 = .ok (.getfield 7, 3) := by decide +kernel
theorem dX10_beard_18 : decode cX10_beard 18 = .ok (.iconst 1, 1) := by decide +kernel
theorem dX10_beard_19 : decode cX10_beard 19 = .ok (.iaload, 1) := by decide +kernel
theorem dX10_beard_20 : decode cX10_beard 20 = .ok (.bipush 8, 2) := by decide +kernel
theorem dX10_beard_22 : decode cX10_beard 22 = .ok (.if_icmp .ne 12, 3) := by decide +kernel
theorem dX10_beard_25 : decode cX10_beard 25 = .ok (.aload_n 0, 1) := by decide +kernel
theorem dX10_beard_26 : decode cX10_beard 26 = .ok (.ldc 110, 2) := by decide +kernel
theorem dX10_beard_28 : decode cX10_beard 28 = .ok (.invokevirtual 75, 3) := by decide +kernel
theorem dX10_beard_31 : decode cX10_beard 31 = .ok (.goto 8, 3) := by decide +kernel
theorem dX10_beard_34 : decode cX10_beard 34 = .ok (.aload_n 0, 1) := by decide +kernel
theorem dX10_beard_35 : decode cX10_beard 35 = .ok (.iload_n 1, 1) := by decide +kernel
theorem dX10_beard_36 : decode cX10_beard 36 = .ok (.invokevirtual 111, 3) := by decide +kernel
theorem dX10_beard_39 : decode cX10_beard 39 = .ok (.ireturn, 1) := by decide +kernel
theorem dX10_of_0 : decode cX10_of 0 = .ok (.aload_n 0, 1) := by decide +kernel
theorem dX10_of_1 : decode cX10_of 1 = .ok (.iload_n 1, 1) := by decide +kernel
theorem dX10_of_2 : decode cX10_of 2 = .ok (.invokevirtual 79, 3) := by decide +kernel
theorem dX10_of_5 : decode cX10_of 5 = .ok (.ifCond .eq 15, 3) := by decide +kernel
theorem dX10_of_8 : decode cX10_of 8 = .ok (.iload_n 2, 1) := by decide +kernel
theorem dX10_of_9 : decode cX10_of 9 = .ok (.i2l, 1) := by decide +kernel
theorem dX10_of_10 : decode cX10_of 10 = .ok (.lconst 0, 1) := by decide +kernel
theorem dX10_of_11 : decode cX10_of 11 = .ok (.ldc2_w 52, 3) := by decide +kernel
theorem dX10_of_14 : decode cX10_of 14 = .ok (.invokestatic 54, 3) := by decide +kernel
theorem dX10_of_17 : decode cX10_of 17 = .ok (.ifCond .ne 10, 3) := by decide +kernel
theorem dX10_of_20 : decode cX10_of 20 = .ok (.aload_n 0, 1) := by decide +kernel
theorem dX10_of_21 : decode cX10_of 21 = .ok (.ldc 45, 2) := by decide +kernel
theorem dX10_of_23 : decode cX10_of 23 = .ok (.invokevirtual 75, 3) := by decide +kernel
theorem dX10_of_26 : decode cX10_of 26 = .ok (.ireturn, 1) := by decide +kernel
theorem dX10_of_27 : decode cX10_of 27 = .ok (.iload_n 2, 1) := by decide +kernel
theorem dX10_of_28 : decode cX10_of 28 = .ok (.iconst 3, 1) := by decide +kernel
theorem dX10_of_29 : decode cX10_of 29 = .ok (.if_icmp .gt 12, 3) := by decide +kernel
theorem dX10_of_32 : decode cX10_of 32 = .ok (.aload_n 0, 1) := by decide +kernel
theorem dX10_of_33 : decode cX10_of 33 = .ok (.iload_n 1, 1) := by decide +kernel
theorem dX10_of_34 : decode cX10_of 34 = .ok (.iload_n 2, 1) := by decide +kernel
theorem dX10_of_35 : decode cX10_of 35 = .ok (.invokevirtual 61, 3) := by decide +kernel
theorem dX10_of_38 : decode cX10_of 38 = .ok (.goto 24, 3) := by decide +kernel
theorem dX10_of_41 : decode cX10_of 41 = .ok (.iload_n 2, 1) := by decide +kernel
theorem dX10_of_42 : decode cX10_of 42 = .ok (.iconst 4, 1) := by decide +kernel
theorem dX10_of_43 : decode cX10_of 43 = .ok (.if_icmp .ne 11, 3) := by decide +kernel
theorem dX10_of_46 : decode cX10_of 46 = .ok (.aload_n 0, 1) := by decide +kernel
theorem dX10_of_47 : decode cX10_of 47 = .ok (.iload_n 1, 1) := by decide +kernel
theorem dX10_of_48 : decode cX10_of 48 = .ok (.invokevirtual 114, 3) := by decide +kernel
theorem dX10_of_51 : decode cX10_of 51 = .ok (.goto 11, 3) := by decide +kernel
theorem dX10_of_54 : decode cX10_of 54 = .ok (.bipush 100, 2) := by decide +kernel
theorem dX10_of_56 : decode cX10_of 56 = .ok (.aload_n 0, 1) := by decide +kernel
theorem dX10_of_57 : decode cX10_of 57 = .ok (.iload_n 1, 1) := by decide +kernel
theorem dX10_of_58 : decode cX10_of 58 = .ok (.invokevirtual 117, 3) := by decide +kernel
theorem dX10_of_61 : decode cX10_of 61 = .ok (.iadd, 1) := by decide +kernel
theorem dX10_of_62 : decode cX10_of 62 = .ok (.ireturn, 1) := by decide +kernel
theorem dX10_can_0 : decode cX10_can 0 = .ok (.aload_n 0, 1) := by decide +kernel
theorem dX10_can_1 : decode cX10_can 1 = .ok (.iload_n 1, 1) := by decide +kernel
theorem dX10_can_2 : decode cX10_can 2 = .ok (.invokevirtual 79, 3) := by decide +kernel
theorem dX10_can_5 : decode cX10_can 5 = .ok (.ifCond .eq 20, 3) := by decide +kernel
theorem dX10_can_8 : decode cX10_can 8 = .ok (.iload_n 2, 1) := by decide +kernel
theorem dX10_can_9 : decode cX10_can 9 = .ok (.invokestatic 64, 3) := by decide +kernel
theorem dX10_can_12 : decode cX10_can 12 = .ok (.ifCond .eq 13, 3) := by decide +kernel
theorem dX10_can_15 : decode cX10_can 15 = .ok (.iload_n 3, 1) := by decide +kernel
theorem dX10_can_16 : decode cX10_can 16 = .ok (.i2l, 1) := by decide +kernel
theorem dX10_can_17 : decode cX10_can 17 = .ok (.lconst 0, 1) := by decide +kernel
theorem dX10_can_18 : decode cX10_can 18 = .ok (.lconst 1, 1) := by decide +kernel
theorem dX10_can_19 : decode cX10_can 19 = .ok (.invokestatic 54, 3) := by decide +kernel
theorem dX10_can_22 : decode cX10_can 22 = .ok (.ifCond .ne 10, 3) := by decide +kernel
theorem dX10_can_25 : decode cX10_can 25 = .ok (.aload_n 0, 1) := by decide +kernel
theorem dX10_can_26 : decode cX10_can 26 = .ok (.ldc 45, 2) := by decide +kernel
theorem dX10_can_28 : decode cX10_can 28 = .ok (.invokevirtual 75, 3) := by decide +kernel
theorem dX10_can_31 : decode cX10_can 31 = .ok (.ireturn, 1) := by decide +kernel
theorem dX10_can_32 : decode cX10_can 32 = .ok (.bipush 100, 2) := by decide +kernel
theorem dX10_can_34 : decode cX10_can 34 = .ok (.iload_n 3, 1) := by decide +kernel
theorem dX10_can_35 : decode cX10_can 35 = .ok (.ifCond .ne 12, 3) := by decide +kernel
theorem dX10_can_38 : decode cX10_can 38 = .ok (.aload_n 0, 1) := by decide +kernel
theorem dX10_can_39 : decode cX10_can 39 = .ok (.iload_n 1, 1) := by decide +kernel
theorem dX10_can_40 : decode cX10_can 40 = .ok (.iload_n 2, 1) := by decide +kernel
theorem dX10_can_41 : decode cX10_can 41 = .ok (.invokevirtual 120, 3) := by decide +kernel
theorem dX10_can_44 : decode cX10_can 44 = .ok (.goto 8, 3) := by decide +kernel
theorem dX10_can_47 : decode cX10_can 47 = .ok (.aload_n 0, 1) := by decide +kernel
theorem dX10_can_48 : decode cX10_can 48 = .ok (.iload_n 1, 1) := by decide +kernel
theorem dX10_can_49 : decode cX10_can 49 = .ok (.invokevirtual 123, 3) := by decide +kernel
theorem dX10_can_52 : decode cX10_can 52 = .ok (.iadd, 1) := by decide +kernel
theorem dX10_can_53 : decode cX10_can 53 = .ok (.ireturn, 1) := by decide +kernel
theorem dX10_set_0 : decode cX10_set 0 = .ok (.iload_n 2, 1) := by decide +kernel
theorem dX10_set_1 : decode cX10_set 1 = .ok (.i2l, 1) := by decide +kernel
theorem dX10_set_2 : decode cX10_set 2 = .ok (.lconst 1, 1) := by decide +kernel
theorem dX10_set_3 : decode cX10_set 3 = .ok (.ldc2_w 85, 3) := by decide +kernel
theorem dX10_set_6 : decode cX10_set 6 = .ok (.invokestatic 54, 3) := by decide +kernel
theorem dX10_set_9 : decode cX10_set 9 = .ok (.ifCond .eq 30, 3) := by decide +kernel
theorem dX10_set_12 : decode cX10_set 12 = .ok (.iload_n 3, 1) := by decide +kernel
theorem dX10_set_13 : decode cX10_set 13 = .ok (.i2l, 1) := by decide +kernel
theorem dX10_set_14 : decode cX10_set 14 = .ok (.lconst 0, 1) := by decide +kernel
theorem dX10_set_15 : decode cX10_set 15 = .ok (.iload_n 2, 1) := by decide +kernel
theorem dX10_set_16 : decode cX10_set 16 = .ok (.iconst 1, 1) := by decide +kernel
theorem dX10_set_17 : decode cX10_set 17 = .ok (.if_icmp .ne 9, 3) := by decide +kernel
theorem dX10_set_20 : decode cX10_set 20 = .ok (.ldc2_w 126, 3) := by decide +kernel
theorem dX10_set_23 : decode cX10_set 23 = .ok (.goto 6, 3) := by decide +kernel
theorem dX10_set_26 : decode cX10_set 26 = .ok (.ldc2_w 128, 3) := by decide +kernel
theorem dX10_set_29 : decode cX10_set 29 = .ok (.invokestatic 54, 3) := by decide +kernel
theorem dX10_set_32 : decode cX10_set 32 = .ok (.ifCond .eq 7, 3) := by decide +kernel
theorem dX10_set_35 : decode cX10_set 35 = .ok (.iconst 1, 1) := by decide +kernel
theorem dX10_set_36 : decode cX10_set 36 = .ok (.goto 4, 3) := by decide +kernel
theorem dX10_set_39 : decode cX10_set 39 = .ok (.iconst 0, 1) := by decide +kernel
theorem dX10_set_40 : decode cX10_set 40 = .ok (.istore 4, 2) := by decide +kernel
theorem dX10_set_42 : decode cX10_set 42 = .ok (.aload_n 0, 1) := by decide +kernel
theorem dX10_set_43 : decode cX10_set 43 = .ok (.iload_n 1, 1) := by decide +kernel
theorem dX10_set_44 : decode cX10_set 44 = .ok (.invokevirtual 79, 3) := by decide +kernel
theorem dX10_set_47 : decode cX10_set 47 = .ok (.ifCond .eq 21, 3) := by decide +kernel
theorem dX10_set_50 : decode cX10_set 50 = .ok (.iload 4, 2) := by decide +kernel
theorem dX10_set_52 : decode cX10_set 52 = .ok (.ifCond .eq 16, 3) := by decide +kernel
theorem dX10_set_55 : decode cX10_set 55 = .ok (.aload_n 0, 1) := by decide +kernel
theorem dX10_set_56 : decode cX10_set 56 = .ok (.iload_n 1, 1) := by decide +kernel
theorem dX10_set_57 : decode cX10_set 57 = .ok (.iload_n 2, 1) := by decide +kernel
theorem dX10_set_58 : decode cX10_set 58 = .ok (.invokestatic 46, 3) := by decide +kernel
theorem dX10_set_61 : decode cX10_set 61 = .ok (.iload_n 3, 1) := by decide +kernel
theorem dX10_set_62 : decode cX10_set 62 = .ok (.invokevirtual 72, 3) := by decide +kernel
theorem dX10_set_65 : decode cX10_set 65 = .ok (.goto 9, 3) := by decide +kernel
theorem dX10_set_68 : decode cX10_set 68 = .ok (.aload_n 0, 1) := by decide +kernel
theorem dX10_set_69 : decode cX10_set 69 = .ok (.ldc 45, 2) := by decide +kernel
theorem dX10_set_71 : decode cX10_set 71 = .ok (.invokevirtual 75, 3) := by decide +kernel
theorem dX10_set_74 : decode cX10_set 74 = .ok (.ireturn, 1) := by decide +kernel
theorem dX10_turn_0 : decode cX10_turn 0 = .ok (.aload_n 0, 1) := by decide +kernel
theorem dX10_turn_1 : decode cX10_turn 1 = .ok (.iload_n 1, 1) := by decide +kernel
theorem dX10_turn_2 : decode cX10_turn 2 = .ok (.invokevirtual 79, 3) := by decide +kernel
theorem dX10_turn_5 : decode cX10_turn 5 = .ok (.ifCond .eq 23, 3) := by decide +kernel
theorem dX10_turn_8 : decode cX10_turn 8 = .ok (.iload_n 2, 1) := by decide +kernel
theorem dX10_turn_9 : decode cX10_turn 9 = .ok (.invokestatic 107, 3) := by decide +kernel
theorem dX10_turn_12 : decode cX10_turn 12 = .ok (.ifCond .eq 16, 3) := by decide +kernel
theorem dX10_turn_15 : decode cX10_turn 15 = .ok (.aload_n 0, 1) := by decide +kernel
theorem dX10_turn_16 : decode cX10_turn 16 = .ok (.iload_n 1, 1) := by decide +kernel
theorem dX10_turn_17 : decode cX10_turn 17 = .ok (.iconst 0, 1) := by decide +kernel
theorem dX10_turn_18 : decode cX10_turn 18 = .ok (.invokestatic 46, 3) := by decide +kernel
theorem dX10_turn_21 : decode cX10_turn 21 = .ok (.iload_n 2, 1) := by decide +kernel
theorem dX10_turn_22 : decode cX10_turn 22 = .ok (.invokevirtual 72, 3) := by decide +kernel
theorem dX10_turn_25 : decode cX10_turn 25 = .ok (.goto 9, 3) := by decide +kernel
theorem dX10_turn_28 : decode cX10_turn 28 = .ok (.aload_n 0, 1) := by decide +kernel
theorem dX10_turn_29 : decode cX10_turn 29 = .ok (.ldc 45, 2) := by decide +kernel
theorem dX10_turn_31 : decode cX10_turn 31 = .ok (.invokevirtual 75, 3) := by decide +kernel
theorem dX10_turn_34 : decode cX10_turn 34 = .ok (.ireturn, 1) := by decide +kernel
theorem dX10_isUnder_0 : decode cX10_isUnder 0 = .ok (.iload_n 1, 1) := by decide +kernel
theorem dX10_isUnder_1 : decode cX10_isUnder 1 = .ok (.ifCond .eq 28, 3) := by decide +kernel
theorem dX10_isUnder_4 : decode cX10_isUnder 4 = .ok (.iload_n 0, 1) := by decide +kernel
theorem dX10_isUnder_5 : decode cX10_isUnder 5 = .ok (.iload_n 1, 1) := by decide +kernel
theorem dX10_isUnder_6 : decode cX10_isUnder 6 = .ok (.if_icmp .eq 23, 3) := by decide +kernel
theorem dX10_isUnder_9 : decode cX10_isUnder 9 = .ok (.iload_n 0, 1) := by decide +kernel
theorem dX10_isUnder_10 : decode cX10_isUnder 10 = .ok (.iconst 4, 1) := by decide +kernel
theorem dX10_isUnder_11 : decode cX10_isUnder 11 = .ok (.if_icmp .ne 8, 3) := by decide +kernel
theorem dX10_isUnder_14 : decode cX10_isUnder 14 = .ok (.iload_n 1, 1) := by decide +kernel
theorem dX10_isUnder_15 : decode cX10_isUnder 15 = .ok (.iconst 1, 1) := by decide +kernel
theorem dX10_isUnder_16 : decode cX10_isUnder 16 = .ok (.if_icmp .eq 13, 3) := by decide +kernel
theorem dX10_isUnder_19 : decode cX10_isUnder 19 = .ok (.iload_n 0, 1) := by decide +kernel
theorem dX10_isUnder_20 : decode cX10_isUnder 20 = .ok (.iconst 5, 1) := by decide +kernel
theorem dX10_isUnder_21 : decode cX10_isUnder 21 = .ok (.if_icmp .ne 12, 3) := by decide +kernel
theorem dX10_isUnder_24 : decode cX10_isUnder 24 = .ok (.iload_n 1, 1) := by decide +kernel
theorem dX10_isUnder_25 : decode cX10_isUnder 25 = .ok (.iconst 2, 1) := by decide +kernel
theorem dX10_isUnder_26 : decode cX10_isUnder 26 = .ok (.if_icmp .ne 7, 3) := by decide +kernel
theorem dX10_isUnder_29 : decode cX10_isUnder 29 = .ok (.iconst 1, 1) := by decide +kernel
theorem dX10_isUnder_30 : decode cX10_isUnder 30 = .ok (.goto 4, 3) := by decide +kernel
theorem dX10_isUnder_33 : decode cX10_isUnder 33 = .ok (.iconst 0, 1) := by decide +kernel
theorem dX10_isUnder_34 : decode cX10_isUnder 34 = .ok (.ireturn, 1) := by decide +kernel
theorem dX10_as_0 : decode cX10_as 0 = .ok (.aload_n 0, 1) := by decide +kernel
theorem dX10_as_1 : decode cX10_as 1 = .ok (.iload_n 1, 1) := by decide +kernel
theorem dX10_as_2 : decode cX10_as 2 = .ok (.invokevirtual 79, 3) := by decide +kernel
theorem dX10_as_5 : decode cX10_as 5 = .ok (.ifCond .eq 10, 3) := by decide +kernel
theorem dX10_as_8 : decode cX10_as 8 = .ok (.iload_n 2, 1) := by decide +kernel
theorem dX10_as_9 : decode cX10_as 9 = .ok (.invokestatic 107, 3) := by decide +kernel
theorem dX10_as_12 : decode cX10_as 12 = .ok (.ifCond .ne 10, 3) := by decide +kernel
theorem dX10_as_15 : decode cX10_as 15 = .ok (.aload_n 0, 1) := by decide +kernel
theorem dX10_as_16 : decode cX10_as 16 = .ok (.ldc 45, 2) := by decide +kernel
theorem dX10_as_18 : decode cX10_as 18 = .ok (.invokevirtual 75, 3) := by decide +kernel
theorem dX10_as_21 : decode cX10_as 21 = .ok (.ireturn, 1) := by decide +kernel
theorem dX10_as_22 : decode cX10_as 22 = .ok (.aload_n 0, 1) := by decide +kernel
theorem dX10_as_23 : decode cX10_as 23 = .ok (.iload_n 1, 1) := by decide +kernel
theorem dX10_as_24 : decode cX10_as 24 = .ok (.iconst 0, 1) := by decide +kernel
theorem dX10_as_25 : decode cX10_as 25 = .ok (.invokevirtual 61, 3) := by decide +kernel
theorem dX10_as_28 : decode cX10_as 28 = .ok (.iload_n 2, 1) := by decide +kernel
theorem dX10_as_29 : decode cX10_as 29 = .ok (.invokestatic 130, 3) := by decide +kernel
theorem dX10_as_32 : decode cX10_as 32 = .ok (.ifCond .eq 12, 3) := by decide +kernel
theorem dX10_as_35 : decode cX10_as 35 = .ok (.aload_n 0, 1) := by decide +kernel
theorem dX10_as_36 : decode cX10_as 36 = .ok (.iload_n 1, 1) := by decide +kernel
theorem dX10_as_37 : decode cX10_as 37 = .ok (.iconst 1, 1) := by decide +kernel
theorem dX10_as_38 : decode cX10_as 38 = .ok (.invokevirtual 61, 3) := by decide +kernel
theorem dX10_as_41 : decode cX10_as 41 = .ok (.goto 9, 3) := by decide +kernel
theorem dX10_as_44 : decode cX10_as 44 = .ok (.aload_n 0, 1) := by decide +kernel
theorem dX10_as_45 : decode cX10_as 45 = .ok (.ldc 134, 2) := by decide +kernel
theorem dX10_as_47 : decode cX10_as 47 = .ok (.invokevirtual 75, 3) := by decide +kernel
theorem dX10_as_50 : decode cX10_as 50 = .ok (.ireturn, 1) := by decide +kernel
theorem dX10_addsWearer_0 : decode cX10_addsWearer 0 = .ok (.aload_n 0, 1) := by decide +kernel
theorem dX10_addsWearer_1 : decode cX10_addsWearer 1 = .ok (.getfield 7, 3) := by decide +kernel
theorem dX10_addsWearer_4 : decode cX10_addsWearer 4 = .ok (.iconst 2, 1) := by decide +kernel
theorem dX10_addsWearer_5 : decode cX10_addsWearer 5 = .ok (.iaload, 1) := by decide +kernel
theorem dX10_addsWearer_6 : decode cX10_addsWearer 6 = .ok (.istore_n 2, 1) := by decide +kernel
theorem dX10_addsWearer_7 : decode cX10_addsWearer 7 = .ok (.aload_n 0, 1) := by decide +kernel
theorem dX10_addsWearer_8 : decode cX10_addsWearer 8 = .ok (.getfield 7, 3) := by decide +kernel
theorem dX10_addsWearer_11 : decode cX10_addsWearer 11 = .ok (.iconst 2, 1) := by decide +kernel
theorem dX10_addsWearer_12 : decode cX10_addsWearer 12 = .ok (.dup2, 1) := by decide +kernel
theorem dX10_addsWearer_13 : decode cX10_addsWearer 13 = .ok (.iaload, 1) := by decide +kernel
theorem dX10_addsWearer_14 : decode cX10_addsWearer 14 = .ok (.iconst 1, 1) := by decide +kernel
theorem dX10_addsWearer_15 : decode cX10_addsWearer 15 = .ok (.iadd, 1) := by decide +kernel
theorem dX10_addsWearer_16 : decode cX10_addsWearer 16 = .ok (.iastore, 1) := by decide +kernel
theorem dX10_addsWearer_17 : decode cX10_addsWearer 17 = .ok (.aload_n 0, 1) := by decide +kernel
theorem dX10_addsWearer_18 : decode cX10_addsWearer 18 = .ok (.getfield 7, 3) := by decide +kernel
theorem dX10_addsWearer_21 : decode cX10_addsWearer 21 = .ok (.iload_n 2, 1) := by decide +kernel
theorem dX10_addsWearer_22 : decode cX10_addsWearer 22 = .ok (.iconst 0, 1) := by decide +kernel
theorem dX10_addsWearer_23 : decode cX10_addsWearer 23 = .ok (.invokestatic 49, 3) := by decide +kernel
theorem dX10_addsWearer_26 : decode cX10_addsWearer 26 = .ok (.iload_n 1, 1) := by decide +kernel
theorem dX10_addsWearer_27 : decode cX10_addsWearer 27 = .ok (.iastore, 1) := by decide +kernel
theorem dX10_addsWearer_28 : decode cX10_addsWearer 28 = .ok (.aload_n 0, 1) := by decide +kernel
theorem dX10_addsWearer_29 : decode cX10_addsWearer 29 = .ok (.getfield 7, 3) := by decide +kernel
theorem dX10_addsWearer_32 : decode cX10_addsWearer 32 = .ok (.iload_n 2, 1) := by decide +kernel
theorem dX10_addsWearer_33 : decode cX10_addsWearer 33 = .ok (.iconst 1, 1) := by decide +kernel
theorem dX10_addsWearer_34 : decode cX10_addsWearer 34 = .ok (.invokestatic 49, 3) := by decide +kernel
theorem dX10_addsWearer_37 : decode cX10_addsWearer 37 = .ok (.iload_n 2, 1) := by decide +kernel
theorem dX10_addsWearer_38 : decode cX10_addsWearer 38 = .ok (.iastore, 1) := by decide +kernel
theorem dX10_addsWearer_39 : decode cX10_addsWearer 39 = .ok (.iload_n 2, 1) := by decide +kernel
theorem dX10_addsWearer_40 : decode cX10_addsWearer 40 = .ok (.ireturn, 1) := by decide +kernel
theorem dX10_wearer_0 : decode cX10_wearer 0 = .ok (.iload_n 1, 1) := by decide +kernel
theorem dX10_wearer_1 : decode cX10_wearer 1 = .ok (.i2l, 1) := by decide +kernel
theorem dX10_wearer_2 : decode cX10_wearer 2 = .ok (.lconst 0, 1) := by decide +kernel
theorem dX10_wearer_3 : decode cX10_wearer 3 = .ok (.ldc2_w 135, 3) := by decide +kernel
theorem dX10_wearer_6 : decode cX10_wearer 6 = .ok (.invokestatic 54, 3) := by decide +kernel
theorem dX10_wearer_9 : decode cX10_wearer 9 = .ok (.ifCond .ne 10, 3) := by decide +kernel
theorem dX10_wearer_12 : decode cX10_wearer 12 = .ok (.aload_n 0, 1) := by decide +kernel
theorem dX10_wearer_13 : decode cX10_wearer 13 = .ok (.ldc 45, 2) := by decide +kernel
theorem dX10_wearer_15 : decode cX10_wearer 15 = .ok (.invokevirtual 75, 3) := by decide +kernel
theorem dX10_wearer_18 : decode cX10_wearer 18 = .ok (.ireturn, 1) := by decide +kernel
theorem dX10_wearer_19 : decode cX10_wearer 19 = .ok (.aload_n 0, 1) := by decide +kernel
theorem dX10_wearer_20 : decode cX10_wearer 20 = .ok (.getfield 7, 3) := by decide +kernel
theorem dX10_wearer_23 : decode cX10_wearer 23 = .ok (.iconst 2, 1) := by decide +kernel
theorem dX10_wearer_24 : decode cX10_wearer 24 = .ok (.iaload, 1) := by decide +kernel
theorem dX10_wearer_25 : decode cX10_wearer 25 = .ok (.bipush 6, 2) := by decide +kernel
theorem dX10_wearer_27 : decode cX10_wearer 27 = .ok (.if_icmp .ne 12, 3) := by decide +kernel
theorem dX10_wearer_30 : decode cX10_wearer 30 = .ok (.aload_n 0, 1) := by decide +kernel
theorem dX10_wearer_31 : decode cX10_wearer 31 = .ok (.ldc 110, 2) := by decide +kernel
theorem dX10_wearer_33 : decode cX10_wearer 33 = .ok (.invokevirtual 75, 3) := by decide +kernel
theorem dX10_wearer_36 : decode cX10_wearer 36 = .ok (.goto 8, 3) := by decide +kernel
theorem dX10_wearer_39 : decode cX10_wearer 39 = .ok (.aload_n 0, 1) := by decide +kernel
theorem dX10_wearer_40 : decode cX10_wearer 40 = .ok (.iload_n 1, 1) := by decide +kernel
theorem dX10_wearer_41 : decode cX10_wearer 41 = .ok (.invokevirtual 137, 3) := by decide +kernel
theorem dX10_wearer_44 : decode cX10_wearer 44 = .ok (.ireturn, 1) := by decide +kernel
theorem dX10_wearerOf_0 : decode cX10_wearerOf 0 = .ok (.aload_n 0, 1) := by decide +kernel
theorem dX10_wearerOf_1 : decode cX10_wearerOf 1 = .ok (.iload_n 1, 1) := by decide +kernel
theorem dX10_wearerOf_2 : decode cX10_wearerOf 2 = .ok (.invokevirtual 140, 3) := by decide +kernel
theorem dX10_wearerOf_5 : decode cX10_wearerOf 5 = .ok (.ifCond .eq 15, 3) := by decide +kernel
theorem dX10_wearerOf_8 : decode cX10_wearerOf 8 = .ok (.iload_n 2, 1) := by decide +kernel
theorem dX10_wearerOf_9 : decode cX10_wearerOf 9 = .ok (.i2l, 1) := by decide +kernel
theorem dX10_wearerOf_10 : decode cX10_wearerOf 10 = .ok (.lconst 0, 1) := by decide +kernel
theorem dX10_wearerOf_11 : decode cX10_wearerOf 11 = .ok (.ldc2_w 143, 3) := by decide +kernel
theorem dX10_wearerOf_14 : decode cX10_wearerOf 14 = .ok (.invokestatic 54, 3) := by decide +kernel
theorem dX10_wearerOf_17 : decode cX10_wearerOf 17 = .ok (.ifCond .ne 10, 3) := by decide +kernel
theorem dX10_wearerOf_20 : decode cX10_wearerOf 20 = .ok (.aload_n 0, 1) := by decide +kernel
theorem dX10_wearerOf_21 : decode cX10_wearerOf 21 = .ok (.ldc 45, 2) := by decide +kernel
theorem dX10_wearerOf_23 : decode cX10_wearerOf 23 = .ok (.invokevirtual 75, 3) := by decide +kernel
theorem dX10_wearerOf_26 : decode cX10_wearerOf 26 = .ok (.ireturn, 1) := by decide +kernel
theorem dX10_wearerOf_27 : decode cX10_wearerOf 27 = .ok (.iload_n 2, 1) := by decide +kernel
theorem dX10_wearerOf_28 : decode cX10_wearerOf 28 = .ok (.iconst 1, 1) := by decide +kernel
theorem dX10_wearerOf_29 : decode cX10_wearerOf 29 = .ok (.if_icmp .gt 12, 3) := by decide +kernel
theorem dX10_wearerOf_32 : decode cX10_wearerOf 32 = .ok (.aload_n 0, 1) := by decide +kernel
theorem dX10_wearerOf_33 : decode cX10_wearerOf 33 = .ok (.iload_n 1, 1) := by decide +kernel
theorem dX10_wearerOf_34 : decode cX10_wearerOf 34 = .ok (.iload_n 2, 1) := by decide +kernel
theorem dX10_wearerOf_35 : decode cX10_wearerOf 35 = .ok (.invokevirtual 58, 3) := by decide +kernel
theorem dX10_wearerOf_38 : decode cX10_wearerOf 38 = .ok (.goto 21, 3) := by decide +kernel
theorem dX10_wearerOf_41 : decode cX10_wearerOf 41 = .ok (.iload_n 2, 1) := by decide +kernel
theorem dX10_wearerOf_42 : decode cX10_wearerOf 42 = .ok (.iconst 2, 1) := by decide +kernel
theorem dX10_wearerOf_43 : decode cX10_wearerOf 43 = .ok (.if_icmp .ne 11, 3) := by decide +kernel
theorem dX10_wearerOf_46 : decode cX10_wearerOf 46 = .ok (.aload_n 0, 1) := by decide +kernel
theorem dX10_wearerOf_47 : decode cX10_wearerOf 47 = .ok (.iload_n 1, 1) := by decide +kernel
theorem dX10_wearerOf_48 : decode cX10_wearerOf 48 = .ok (.invokevirtual 145, 3) := by decide +kernel
theorem dX10_wearerOf_51 : decode cX10_wearerOf 51 = .ok (.goto 8, 3) := by decide +kernel
theorem dX10_wearerOf_54 : decode cX10_wearerOf 54 = .ok (.aload_n 0, 1) := by decide +kernel
theorem dX10_wearerOf_55 : decode cX10_wearerOf 55 = .ok (.iload_n 1, 1) := by decide +kernel
theorem dX10_wearerOf_56 : decode cX10_wearerOf 56 = .ok (.invokevirtual 82, 3) := by decide +kernel
theorem dX10_wearerOf_59 : decode cX10_wearerOf 59 = .ok (.ireturn, 1) := by decide +kernel
theorem dX10_give_0 : decode cX10_give 0 = .ok (.iload_n 2, 1) := by decide +kernel
theorem dX10_give_1 : decode cX10_give 1 = .ok (.i2l, 1) := by decide +kernel
theorem dX10_give_2 : decode cX10_give 2 = .ok (.lconst 0, 1) := by decide +kernel
theorem dX10_give_3 : decode cX10_give 3 = .ok (.lconst 1, 1) := by decide +kernel
theorem dX10_give_4 : decode cX10_give 4 = .ok (.invokestatic 54, 3) := by decide +kernel
theorem dX10_give_7 : decode cX10_give 7 = .ok (.ifCond .eq 29, 3) := by decide +kernel
theorem dX10_give_10 : decode cX10_give 10 = .ok (.iload_n 3, 1) := by decide +kernel
theorem dX10_give_11 : decode cX10_give 11 = .ok (.i2l, 1) := by decide +kernel
theorem dX10_give_12 : decode cX10_give 12 = .ok (.lconst 0, 1) := by decide +kernel
theorem dX10_give_13 : decode cX10_give 13 = .ok (.iload_n 2, 1) := by decide +kernel
theorem dX10_give_14 : decode cX10_give 14 = .ok (.ifCond .ne 9, 3) := by decide +kernel
theorem dX10_give_17 : decode cX10_give 17 = .ok (.ldc2_w 135, 3) := by decide +kernel
theorem dX10_give_20 : decode cX10_give 20 = .ok (.goto 6, 3) := by decide +kernel
theorem dX10_give_23 : decode cX10_give 23 = .ok (.ldc2_w 52, 3) := by decide +kernel
theorem dX10_give_26 : decode cX10_give 26 = .ok (.invokestatic 54, 3) := by decide +kernel
theorem dX10_give_29 : decode cX10_give 29 = .ok (.ifCond .eq 7, 3) := by decide +kernel
theorem dX10_give_32 : decode cX10_give 32 = .ok (.iconst 1, 1) := by decide +kernel
theorem dX10_give_33 : decode cX10_give 33 = .ok (.goto 4, 3) := by decide +kernel
theorem dX10_give_36 : decode cX10_give 36 = .ok (.iconst 0, 1) := by decide +kernel
theorem dX10_give_37 : decode cX10_give 37 = .ok (.istore 4, 2) := by decide +kernel
theorem dX10_give_39 : decode cX10_give 39 = .ok (.aload_n 0, 1) := by decide +kernel
theorem dX10_give_40 : decode cX10_give 40 = .ok (.iload_n 1, 1) := by decide +kernel
theorem dX10_give_41 : decode cX10_give 41 = .ok (.invokevirtual 140, 3) := by decide +kernel
theorem dX10_give_44 : decode cX10_give 44 = .ok (.ifCond .eq 21, 3) := by decide +kernel
theorem dX10_give_47 : decode cX10_give 47 = .ok (.iload 4, 2) := by decide +kernel
theorem dX10_give_49 : decode cX10_give 49 = .ok (.ifCond .eq 16, 3) := by decide +kernel
theorem dX10_give_52 : decode cX10_give 52 = .ok (.aload_n 0, 1) := by decide +kernel
theorem dX10_give_53 : decode cX10_give 53 = .ok (.iload_n 1, 1) := by decide +kernel
theorem dX10_give_54 : decode cX10_give 54 = .ok (.iload_n 2, 1) := by decide +kernel
theorem dX10_give_55 : decode cX10_give 55 = .ok (.invokestatic 49, 3) := by decide +kernel
theorem dX10_give_58 : decode cX10_give 58 = .ok (.iload_n 3, 1) := by decide +kernel
theorem dX10_give_59 : decode cX10_give 59 = .ok (.invokevirtual 72, 3) := by decide +kernel
theorem dX10_give_62 : decode cX10_give 62 = .ok (.goto 9, 3) := by decide +kernel
theorem dX10_give_65 : decode cX10_give 65 = .ok (.aload_n 0, 1) := by decide +kernel
theorem dX10_give_66 : decode cX10_give 66 = .ok (.ldc 45, 2) := by decide +kernel
theorem dX10_give_68 : decode cX10_give 68 = .ok (.invokevirtual 75, 3) := by decide +kernel
theorem dX10_give_71 : decode cX10_give 71 = .ok (.ireturn, 1) := by decide +kernel
theorem dX10_hire_0 : decode cX10_hire 0 = .ok (.aload_n 0, 1) := by decide +kernel
theorem dX10_hire_1 : decode cX10_hire 1 = .ok (.iload_n 1, 1) := by decide +kernel
theorem dX10_hire_2 : decode cX10_hire 2 = .ok (.invokevirtual 140, 3) := by decide +kernel
theorem dX10_hire_5 : decode cX10_hire 5 = .ok (.ifCond .eq 11, 3) := by decide +kernel
theorem dX10_hire_8 : decode cX10_hire 8 = .ok (.aload_n 0, 1) := by decide +kernel
theorem dX10_hire_9 : decode cX10_hire 9 = .ok (.iload_n 2, 1) := by decide +kernel
theorem dX10_hire_10 : decode cX10_hire 10 = .ok (.invokevirtual 79, 3) := by decide +kernel
theorem dX10_hire_13 : decode cX10_hire 13 = .ok (.ifCond .ne 10, 3) := by decide +kernel
theorem dX10_hire_16 : decode cX10_hire 16 = .ok (.aload_n 0, 1) := by decide +kernel
theorem dX10_hire_17 : decode cX10_hire 17 = .ok (.ldc 45, 2) := by decide +kernel
theorem dX10_hire_19 : decode cX10_hire 19 = .ok (.invokevirtual 75, 3) := by decide +kernel
theorem dX10_hire_22 : decode cX10_hire 22 = .ok (.ireturn, 1) := by decide +kernel
theorem dX10_hire_23 : decode cX10_hire 23 = .ok (.aload_n 0, 1) := by decide +kernel
theorem dX10_hire_24 : decode cX10_hire 24 = .ok (.iload_n 1, 1) := by decide +kernel
theorem dX10_hire_25 : decode cX10_hire 25 = .ok (.invokevirtual 145, 3) := by decide +kernel
theorem dX10_hire_28 : decode cX10_hire 28 = .ok (.iconst (-1), 1) := by decide +kernel
theorem dX10_hire_29 : decode cX10_hire 29 = .ok (.if_icmp .ne 13, 3) := by decide +kernel
theorem dX10_hire_32 : decode cX10_hire 32 = .ok (.aload_n 0, 1) := by decide +kernel
theorem dX10_hire_33 : decode cX10_hire 33 = .ok (.iload_n 2, 1) := by decide +kernel
theorem dX10_hire_34 : decode cX10_hire 34 = .ok (.iconst 3, 1) := by decide +kernel
theorem dX10_hire_35 : decode cX10_hire 35 = .ok (.invokevirtual 61, 3) := by decide +kernel
theorem dX10_hire_38 : decode cX10_hire 38 = .ok (.iconst (-1), 1) := by decide +kernel
theorem dX10_hire_39 : decode cX10_hire 39 = .ok (.if_icmp .eq 10, 3) := by decide +kernel
theorem dX10_hire_42 : decode cX10_hire 42 = .ok (.aload_n 0, 1) := by decide +kernel
theorem dX10_hire_43 : decode cX10_hire 43 = .ok (.ldc 148, 2) := by decide +kernel
theorem dX10_hire_45 : decode cX10_hire 45 = .ok (.invokevirtual 75, 3) := by decide +kernel
theorem dX10_hire_48 : decode cX10_hire 48 = .ok (.ireturn, 1) := by decide +kernel
theorem dX10_hire_49 : decode cX10_hire 49 = .ok (.aload_n 0, 1) := by decide +kernel
theorem dX10_hire_50 : decode cX10_hire 50 = .ok (.getfield 7, 3) := by decide +kernel
theorem dX10_hire_53 : decode cX10_hire 53 = .ok (.iload_n 2, 1) := by decide +kernel
theorem dX10_hire_54 : decode cX10_hire 54 = .ok (.iconst 3, 1) := by decide +kernel
theorem dX10_hire_55 : decode cX10_hire 55 = .ok (.invokestatic 46, 3) := by decide +kernel
theorem dX10_hire_58 : decode cX10_hire 58 = .ok (.iload_n 1, 1) := by decide +kernel
theorem dX10_hire_59 : decode cX10_hire 59 = .ok (.iastore, 1) := by decide +kernel
theorem dX10_hire_60 : decode cX10_hire 60 = .ok (.aload_n 0, 1) := by decide +kernel
theorem dX10_hire_61 : decode cX10_hire 61 = .ok (.iload_n 2, 1) := by decide +kernel
theorem dX10_hire_62 : decode cX10_hire 62 = .ok (.invokevirtual 114, 3) := by decide +kernel
theorem dX10_hire_65 : decode cX10_hire 65 = .ok (.ireturn, 1) := by decide +kernel
theorem dX10_back_0 : decode cX10_back 0 = .ok (.aload_n 0, 1) := by decide +kernel
theorem dX10_back_1 : decode cX10_back 1 = .ok (.iload_n 1, 1) := by decide +kernel
theorem dX10_back_2 : decode cX10_back 2 = .ok (.invokevirtual 79, 3) := by decide +kernel
theorem dX10_back_5 : decode cX10_back 5 = .ok (.ifCond .ne 10, 3) := by decide +kernel
theorem dX10_back_8 : decode cX10_back 8 = .ok (.aload_n 0, 1) := by decide +kernel
theorem dX10_back_9 : decode cX10_back 9 = .ok (.ldc 45, 2) := by decide +kernel
theorem dX10_back_11 : decode cX10_back 11 = .ok (.invokevirtual 75, 3) := by decide +kernel
theorem dX10_back_14 : decode cX10_back 14 = .ok (.ireturn, 1) := by decide +kernel
theorem dX10_back_15 : decode cX10_back 15 = .ok (.aload_n 0, 1) := by decide +kernel
theorem dX10_back_16 : decode cX10_back 16 = .ok (.iload_n 1, 1) := by decide +kernel
theorem dX10_back_17 : decode cX10_back 17 = .ok (.iconst 3, 1) := by decide +kernel
theorem dX10_back_18 : decode cX10_back 18 = .ok (.invokevirtual 61, 3) := by decide +kernel
theorem dX10_back_21 : decode cX10_back 21 = .ok (.iconst (-1), 1) := by decide +kernel
theorem dX10_back_22 : decode cX10_back 22 = .ok (.if_icmp .ne 12, 3) := by decide +kernel
theorem dX10_back_25 : decode cX10_back 25 = .ok (.aload_n 0, 1) := by decide +kernel
theorem dX10_back_26 : decode cX10_back 26 = .ok (.ldc 148, 2) := by decide +kernel
theorem dX10_back_28 : decode cX10_back 28 = .ok (.invokevirtual 75, 3) := by decide +kernel
theorem dX10_back_31 : decode cX10_back 31 = .ok (.goto 13, 3) := by decide +kernel
theorem dX10_back_34 : decode cX10_back 34 = .ok (.aload_n 0, 1) := by decide +kernel
theorem dX10_back_35 : decode cX10_back 35 = .ok (.iload_n 1, 1) := by decide +kernel
theorem dX10_back_36 : decode cX10_back 36 = .ok (.iconst 3, 1) := by decide +kernel
theorem dX10_back_37 : decode cX10_back 37 = .ok (.invokestatic 46, 3) := by decide +kernel
theorem dX10_back_40 : decode cX10_back 40 = .ok (.iconst (-1), 1) := by decide +kernel
theorem dX10_back_41 : decode cX10_back 41 = .ok (.invokevirtual 72, 3) := by decide +kernel
theorem dX10_back_44 : decode cX10_back 44 = .ok (.ireturn, 1) := by decide +kernel
theorem dX10_goesOut_0 : decode cX10_goesOut 0 = .ok (.aload_n 0, 1) := by decide +kernel
theorem dX10_goesOut_1 : decode cX10_goesOut 1 = .ok (.iload_n 1, 1) := by decide +kernel
theorem dX10_goesOut_2 : decode cX10_goesOut 2 = .ok (.invokevirtual 82, 3) := by decide +kernel
theorem dX10_goesOut_5 : decode cX10_goesOut 5 = .ok (.istore_n 3, 1) := by decide +kernel
theorem dX10_goesOut_6 : decode cX10_goesOut 6 = .ok (.aload_n 0, 1) := by decide +kernel
theorem dX10_goesOut_7 : decode cX10_goesOut 7 = .ok (.iload_n 2, 1) := by decide +kernel
theorem dX10_goesOut_8 : decode cX10_goesOut 8 = .ok (.iload_n 3, 1) := by decide +kernel
theorem dX10_goesOut_9 : decode cX10_goesOut 9 = .ok (.invokevirtual 120, 3) := by decide +kernel
theorem dX10_goesOut_12 : decode cX10_goesOut 12 = .ok (.istore 4, 2) := by decide +kernel
theorem dX10_goesOut_14 : decode cX10_goesOut 14 = .ok (.aload_n 0, 1) := by decide +kernel
theorem dX10_goesOut_15 : decode cX10_goesOut 15 = .ok (.iload_n 2, 1) := by decide +kernel
theorem dX10_goesOut_16 : decode cX10_goesOut 16 = .ok (.invokevirtual 123, 3) := by decide +kernel
theorem dX10_goesOut_19 : decode cX10_goesOut 19 = .ok (.istore 5, 2) := by decide +kernel
theorem dX10_goesOut_21 : decode cX10_goesOut 21 = .ok (.aload_n 0, 1) := by decide +kernel
theorem dX10_goesOut_22 : decode cX10_goesOut 22 = .ok (.iload_n 2, 1) := by decide +kernel
theorem dX10_goesOut_23 : decode cX10_goesOut 23 = .ok (.invokevirtual 117, 3) := by decide +kernel
theorem dX10_goesOut_26 : decode cX10_goesOut 26 = .ok (.istore 6, 2) := by decide +kernel
theorem dX10_goesOut_28 : decode cX10_goesOut 28 = .ok (.aload_n 0, 1) := by decide +kernel
theorem dX10_goesOut_29 : decode cX10_goesOut 29 = .ok (.getfield 7, 3) := by decide +kernel
theorem dX10_goesOut_32 : decode cX10_goesOut 32 = .ok (.iload_n 1, 1) := by decide +kernel
theorem dX10_goesOut_33 : decode cX10_goesOut 33 = .ok (.iconst 0, 1) := by decide +kernel
theorem dX10_goesOut_34 : decode cX10_goesOut 34 = .ok (.invokestatic 49, 3) := by decide +kernel
theorem dX10_goesOut_37 : decode cX10_goesOut 37 = .ok (.aload_n 0, 1) := by decide +kernel
theorem dX10_goesOut_38 : decode cX10_goesOut 38 = .ok (.iload_n 1, 1) := by decide +kernel
theorem dX10_goesOut_39 : decode cX10_goesOut 39 = .ok (.iconst 0, 1) := by decide +kernel
theorem dX10_goesOut_40 : decode cX10_goesOut 40 = .ok (.invokevirtual 58, 3) := by decide +kernel
theorem dX10_goesOut_43 : decode cX10_goesOut 43 = .ok (.iload 4, 2) := by decide +kernel
theorem dX10_goesOut_45 : decode cX10_goesOut 45 = .ok (.iadd, 1) := by decide +kernel
theorem dX10_goesOut_46 : decode cX10_goesOut 46 = .ok (.iconst 0, 1) := by decide +kernel
theorem dX10_goesOut_47 : decode cX10_goesOut 47 = .ok (.sipush 9999, 3) := by decide +kernel
theorem dX10_goesOut_50 : decode cX10_goesOut 50 = .ok (.invokestatic 149, 3) := by decide +kernel
theorem dX10_goesOut_53 : decode cX10_goesOut 53 = .ok (.iastore, 1) := by decide +kernel
theorem dX10_goesOut_54 : decode cX10_goesOut 54 = .ok (.aload_n 0, 1) := by decide +kernel
theorem dX10_goesOut_55 : decode cX10_goesOut 55 = .ok (.getfield 7, 3) := by decide +kernel
theorem dX10_goesOut_58 : decode cX10_goesOut 58 = .ok (.iload_n 2, 1) := by decide +kernel
theorem dX10_goesOut_59 : decode cX10_goesOut 59 = .ok (.iconst 2, 1) := by decide +kernel
theorem dX10_goesOut_60 : decode cX10_goesOut 60 = .ok (.invokestatic 46, 3) := by decide +kernel
theorem dX10_goesOut_63 : decode cX10_goesOut 63 = .ok (.aload_n 0, 1) := by decide +kernel
theorem dX10_goesOut_64 : decode cX10_goesOut 64 = .ok (.iload_n 2, 1) := by decide +kernel
theorem dX10_goesOut_65 : decode cX10_goesOut 65 = .ok (.iconst 2, 1) := by decide +kernel
theorem dX10_goesOut_66 : decode cX10_goesOut 66 = .ok (.invokevirtual 61, 3) := by decide +kernel
theorem dX10_goesOut_69 : decode cX10_goesOut 69 = .ok (.iload 4, 2) := by decide +kernel
theorem dX10_goesOut_71 : decode cX10_goesOut 71 = .ok (.ifCond .le 7, 3) := by decide +kernel
theorem dX10_goesOut_74 : decode cX10_goesOut 74 = .ok (.iconst 3, 1) := by decide +kernel
theorem dX10_goesOut_75 : decode cX10_goesOut 75 = .ok (.goto 4, 3) := by decide +kernel
theorem dX10_goesOut_78 : decode cX10_goesOut 78 = .ok (.iconst 1, 1) := by decide +kernel
theorem dX10_goesOut_79 : decode cX10_goesOut 79 = .ok (.iadd, 1) := by decide +kernel
theorem dX10_goesOut_80 : decode cX10_goesOut 80 = .ok (.iconst 0, 1) := by decide +kernel
theorem dX10_goesOut_81 : decode cX10_goesOut 81 = .ok (.sipush 999, 3) := by decide +kernel
theorem dX10_goesOut_84 : decode cX10_goesOut 84 = .ok (.invokestatic 149, 3) := by decide +kernel
theorem dX10_goesOut_87 : decode cX10_goesOut 87 = .ok (.iastore, 1) := by decide +kernel
theorem dX10_goesOut_88 : decode cX10_goesOut 88 = .ok (.aload_n 0, 1) := by decide +kernel
theorem dX10_goesOut_89 : decode cX10_goesOut 89 = .ok (.getfield 7, 3) := by decide +kernel
theorem dX10_goesOut_92 : decode cX10_goesOut 92 = .ok (.iload_n 3, 1) := by decide +kernel
theorem dX10_goesOut_93 : decode cX10_goesOut 93 = .ok (.iconst 1, 1) := by decide +kernel
theorem dX10_goesOut_94 : decode cX10_goesOut 94 = .ok (.invokestatic 41, 3) := by decide +kernel
theorem dX10_goesOut_97 : decode cX10_goesOut 97 = .ok (.aload_n 0, 1) := by decide +kernel
theorem dX10_goesOut_98 : decode cX10_goesOut 98 = .ok (.iload_n 3, 1) := by decide +kernel
theorem dX10_goesOut_99 : decode cX10_goesOut 99 = .ok (.iconst 1, 1) := by decide +kernel
theorem dX10_goesOut_100 : decode cX10_goesOut 100 = .ok (.invokevirtual 87, 3) := by decide +kernel
theorem dX10_goesOut_103 : decode cX10_goesOut 103 = .ok (.iload 5, 2) := by decide +kernel
theorem dX10_goesOut_105 : decode cX10_goesOut 105 = .ok (.iadd, 1) := by decide +kernel
theorem dX10_goesOut_106 : decode cX10_goesOut 106 = .ok (.bipush (-50), 2) := by decide +kernel
theorem dX10_goesOut_108 : decode cX10_goesOut 108 = .ok (.bipush 50, 2) := by decide +kernel
theorem dX10_goesOut_110 : decode cX10_goesOut 110 = .ok (.invokestatic 149, 3) := by decide +kernel
theorem dX10_goesOut_113 : decode cX10_goesOut 113 = .ok (.iastore, 1) := by decide +kernel
theorem dX10_goesOut_114 : decode cX10_goesOut 114 = .ok (.aload_n 0, 1) := by decide +kernel
theorem dX10_goesOut_115 : decode cX10_goesOut 115 = .ok (.getfield 7, 3) := by decide +kernel
theorem dX10_goesOut_118 : decode cX10_goesOut 118 = .ok (.iload_n 3, 1) := by decide +kernel
theorem dX10_goesOut_119 : decode cX10_goesOut 119 = .ok (.iconst 0, 1) := by decide +kernel
theorem dX10_goesOut_120 : decode cX10_goesOut 120 = .ok (.invokestatic 41, 3) := by decide +kernel
theorem dX10_goesOut_123 : decode cX10_goesOut 123 = .ok (.iload_n 2, 1) := by decide +kernel
theorem dX10_goesOut_124 : decode cX10_goesOut 124 = .ok (.iastore, 1) := by decide +kernel
theorem dX10_goesOut_125 : decode cX10_goesOut 125 = .ok (.aload_n 0, 1) := by decide +kernel
theorem dX10_goesOut_126 : decode cX10_goesOut 126 = .ok (.getfield 7, 3) := by decide +kernel
theorem dX10_goesOut_129 : decode cX10_goesOut 129 = .ok (.iload_n 2, 1) := by decide +kernel
theorem dX10_goesOut_130 : decode cX10_goesOut 130 = .ok (.iconst 1, 1) := by decide +kernel
theorem dX10_goesOut_131 : decode cX10_goesOut 131 = .ok (.invokestatic 46, 3) := by decide +kernel
theorem dX10_goesOut_134 : decode cX10_goesOut 134 = .ok (.aload_n 0, 1) := by decide +kernel
theorem dX10_goesOut_135 : decode cX10_goesOut 135 = .ok (.iload_n 2, 1) := by decide +kernel
theorem dX10_goesOut_136 : decode cX10_goesOut 136 = .ok (.iconst 1, 1) := by decide +kernel
theorem dX10_goesOut_137 : decode cX10_goesOut 137 = .ok (.invokevirtual 61, 3) := by decide +kernel
theorem dX10_goesOut_140 : decode cX10_goesOut 140 = .ok (.iload 6, 2) := by decide +kernel
theorem dX10_goesOut_142 : decode cX10_goesOut 142 = .ok (.iadd, 1) := by decide +kernel
theorem dX10_goesOut_143 : decode cX10_goesOut 143 = .ok (.iconst 0, 1) := by decide +kernel
theorem dX10_goesOut_144 : decode cX10_goesOut 144 = .ok (.bipush 99, 2) := by decide +kernel
theorem dX10_goesOut_146 : decode cX10_goesOut 146 = .ok (.invokestatic 149, 3) := by decide +kernel
theorem dX10_goesOut_149 : decode cX10_goesOut 149 = .ok (.iastore, 1) := by decide +kernel
theorem dX10_goesOut_150 : decode cX10_goesOut 150 = .ok (.return_, 1) := by decide +kernel
theorem dX10_wears_0 : decode cX10_wears 0 = .ok (.aload_n 0, 1) := by decide +kernel
theorem dX10_wears_1 : decode cX10_wears 1 = .ok (.iload_n 2, 1) := by decide +kernel
theorem dX10_wears_2 : decode cX10_wears 2 = .ok (.invokevirtual 114, 3) := by decide +kernel
theorem dX10_wears_5 : decode cX10_wears 5 = .ok (.istore_n 3, 1) := by decide +kernel
theorem dX10_wears_6 : decode cX10_wears 6 = .ok (.aload_n 0, 1) := by decide +kernel
theorem dX10_wears_7 : decode cX10_wears 7 = .ok (.iload_n 1, 1) := by decide +kernel
theorem dX10_wears_8 : decode cX10_wears 8 = .ok (.iconst 0, 1) := by decide +kernel
theorem dX10_wears_9 : decode cX10_wears 9 = .ok (.invokevirtual 58, 3) := by decide +kernel
theorem dX10_wears_12 : decode cX10_wears 12 = .ok (.iload_n 3, 1) := by decide +kernel
theorem dX10_wears_13 : decode cX10_wears 13 = .ok (.if_icmp .ge 15, 3) := by decide +kernel
theorem dX10_wears_16 : decode cX10_wears 16 = .ok (.aload_n 0, 1) := by decide +kernel
theorem dX10_wears_17 : decode cX10_wears 17 = .ok (.getfield 7, 3) := by decide +kernel
theorem dX10_wears_20 : decode cX10_wears 20 = .ok (.iload_n 2, 1) := by decide +kernel
theorem dX10_wears_21 : decode cX10_wears 21 = .ok (.iconst 3, 1) := by decide +kernel
theorem dX10_wears_22 : decode cX10_wears 22 = .ok (.invokestatic 46, 3) := by decide +kernel
theorem dX10_wears_25 : decode cX10_wears 25 = .ok (.iconst (-1), 1) := by decide +kernel
theorem dX10_wears_26 : decode cX10_wears 26 = .ok (.iastore, 1) := by decide +kernel
theorem dX10_wears_27 : decode cX10_wears 27 = .ok (.return_, 1) := by decide +kernel
theorem dX10_wears_28 : decode cX10_wears 28 = .ok (.aload_n 0, 1) := by decide +kernel
theorem dX10_wears_29 : decode cX10_wears 29 = .ok (.getfield 7, 3) := by decide +kernel
theorem dX10_wears_32 : decode cX10_wears 32 = .ok (.iload_n 1, 1) := by decide +kernel
theorem dX10_wears_33 : decode cX10_wears 33 = .ok (.iconst 0, 1) := by decide +kernel
theorem dX10_wears_34 : decode cX10_wears 34 = .ok (.invokestatic 49, 3) := by decide +kernel
theorem dX10_wears_37 : decode cX10_wears 37 = .ok (.dup2, 1) := by decide +kernel
theorem dX10_wears_38 : decode cX10_wears 38 = .ok (.iaload, 1) := by decide +kernel
theorem dX10_wears_39 : decode cX10_wears 39 = .ok (.iload_n 3, 1) := by decide +kernel
theorem dX10_wears_40 : decode cX10_wears 40 = .ok (.isub, 1) := by decide +kernel
theorem dX10_wears_41 : decode cX10_wears 41 = .ok (.iastore, 1) := by decide +kernel
theorem dX10_wears_42 : decode cX10_wears 42 = .ok (.aload_n 0, 1) := by decide +kernel
theorem dX10_wears_43 : decode cX10_wears 43 = .ok (.iload_n 1, 1) := by decide +kernel
theorem dX10_wears_44 : decode cX10_wears 44 = .ok (.iload_n 2, 1) := by decide +kernel
theorem dX10_wears_45 : decode cX10_wears 45 = .ok (.invokevirtual 153, 3) := by decide +kernel
theorem dX10_wears_48 : decode cX10_wears 48 = .ok (.return_, 1) := by decide +kernel
theorem dX10_night_0 : decode cX10_night 0 = .ok (.iconst 0, 1) := by decide +kernel
theorem dX10_night_1 : decode cX10_night 1 = .ok (.istore_n 1, 1) := by decide +kernel
theorem dX10_night_2 : decode cX10_night 2 = .ok (.iload_n 1, 1) := by decide +kernel
theorem dX10_night_3 : decode cX10_night 3 = .ok (.aload_n 0, 1) := by decide +kernel
theorem dX10_night_4 : decode cX10_night 4 = .ok (.getfield 7, 3) := by decide +kernel
theorem dX10_night_7 : decode cX10_night 7 = .ok (.iconst 2, 1) := by decide +kernel
theorem dX10_night_8 : decode cX10_night 8 = .ok (.iaload, 1) := by decide +kernel
theorem dX10_night_9 : decode cX10_night 9 = .ok (.if_icmp .ge 26, 3) := by decide +kernel
theorem dX10_night_12 : decode cX10_night 12 = .ok (.aload_n 0, 1) := by decide +kernel
theorem dX10_night_13 : decode cX10_night 13 = .ok (.iload_n 1, 1) := by decide +kernel
theorem dX10_night_14 : decode cX10_night 14 = .ok (.invokevirtual 145, 3) := by decide +kernel
theorem dX10_night_17 : decode cX10_night 17 = .ok (.istore_n 2, 1) := by decide +kernel
theorem dX10_night_18 : decode cX10_night 18 = .ok (.iload_n 2, 1) := by decide +kernel
theorem dX10_night_19 : decode cX10_night 19 = .ok (.iconst (-1), 1) := by decide +kernel
theorem dX10_night_20 : decode cX10_night 20 = .ok (.if_icmp .eq 9, 3) := by decide +kernel
theorem dX10_night_23 : decode cX10_night 23 = .ok (.aload_n 0, 1) := by decide +kernel
theorem dX10_night_24 : decode cX10_night 24 = .ok (.iload_n 1, 1) := by decide +kernel
theorem dX10_night_25 : decode cX10_night 25 = .ok (.iload_n 2, 1) := by decide +kernel
theorem dX10_night_26 : decode cX10_night 26 = .ok (.invokevirtual 157, 3) := by decide +kernel
theorem dX10_night_29 : decode cX10_night 29 = .ok (.iinc 1 1, 3) := by decide +kernel
theorem dX10_night_32 : decode cX10_night 32 = .ok (.goto (-30), 3) := by decide +kernel
theorem dX10_night_35 : decode cX10_night 35 = .ok (.iconst 0, 1) := by decide +kernel
theorem dX10_night_36 : decode cX10_night 36 = .ok (.istore_n 1, 1) := by decide +kernel
theorem dX10_night_37 : decode cX10_night 37 = .ok (.iload_n 1, 1) := by decide +kernel
theorem dX10_night_38 : decode cX10_night 38 = .ok (.aload_n 0, 1) := by decide +kernel
theorem dX10_night_39 : decode cX10_night 39 = .ok (.getfield 7, 3) := by decide +kernel
theorem dX10_night_42 : decode cX10_night 42 = .ok (.iconst 1, 1) := by decide +kernel
theorem dX10_night_43 : decode cX10_night 43 = .ok (.iaload, 1) := by decide +kernel
theorem dX10_night_44 : decode cX10_night 44 = .ok (.if_icmp .ge 46, 3) := by decide +kernel
theorem dX10_night_47 : decode cX10_night 47 = .ok (.aload_n 0, 1) := by decide +kernel
theorem dX10_night_48 : decode cX10_night 48 = .ok (.invokevirtual 93, 3) := by decide +kernel
theorem dX10_night_51 : decode cX10_night 51 = .ok (.ifCond .eq 39, 3) := by decide +kernel
theorem dX10_night_54 : decode cX10_night 54 = .ok (.aload_n 0, 1) := by decide +kernel
theorem dX10_night_55 : decode cX10_night 55 = .ok (.getfield 7, 3) := by decide +kernel
theorem dX10_night_58 : decode cX10_night 58 = .ok (.iload_n 1, 1) := by decide +kernel
theorem dX10_night_59 : decode cX10_night 59 = .ok (.iconst 2, 1) := by decide +kernel
theorem dX10_night_60 : decode cX10_night 60 = .ok (.invokestatic 46, 3) := by decide +kernel
theorem dX10_night_63 : decode cX10_night 63 = .ok (.aload_n 0, 1) := by decide +kernel
theorem dX10_night_64 : decode cX10_night 64 = .ok (.iload_n 1, 1) := by decide +kernel
theorem dX10_night_65 : decode cX10_night 65 = .ok (.iconst 3, 1) := by decide +kernel
theorem dX10_night_66 : decode cX10_night 66 = .ok (.invokevirtual 61, 3) := by decide +kernel
theorem dX10_night_69 : decode cX10_night 69 = .ok (.iconst (-1), 1) := by decide +kernel
theorem dX10_night_70 : decode cX10_night 70 = .ok (.if_icmp .ne 7, 3) := by decide +kernel
theorem dX10_night_73 : decode cX10_night 73 = .ok (.iconst 0, 1) := by decide +kernel
theorem dX10_night_74 : decode cX10_night 74 = .ok (.goto 9, 3) := by decide +kernel
theorem dX10_night_77 : decode cX10_night 77 = .ok (.aload_n 0, 1) := by decide +kernel
theorem dX10_night_78 : decode cX10_night 78 = .ok (.iload_n 1, 1) := by decide +kernel
theorem dX10_night_79 : decode cX10_night 79 = .ok (.iconst 2, 1) := by decide +kernel
theorem dX10_night_80 : decode cX10_night 80 = .ok (.invokevirtual 61, 3) := by decide +kernel
theorem dX10_night_83 : decode cX10_night 83 = .ok (.iastore, 1) := by decide +kernel
theorem dX10_night_84 : decode cX10_night 84 = .ok (.iinc 1 1, 3) := by decide +kernel
theorem dX10_night_87 : decode cX10_night 87 = .ok (.goto (-50), 3) := by decide +kernel
theorem dX10_night_90 : decode cX10_night 90 = .ok (.aload_n 0, 1) := by decide +kernel
theorem dX10_night_91 : decode cX10_night 91 = .ok (.getfield 7, 3) := by decide +kernel
theorem dX10_night_94 : decode cX10_night 94 = .ok (.iconst 0, 1) := by decide +kernel
theorem dX10_night_95 : decode cX10_night 95 = .ok (.dup2, 1) := by decide +kernel
theorem dX10_night_96 : decode cX10_night 96 = .ok (.iaload, 1) := by decide +kernel
theorem dX10_night_97 : decode cX10_night 97 = .ok (.iconst 1, 1) := by decide +kernel
theorem dX10_night_98 : decode cX10_night 98 = .ok (.iadd, 1) := by decide +kernel
theorem dX10_night_99 : decode cX10_night 99 = .ok (.iastore, 1) := by decide +kernel
theorem dX10_night_100 : decode cX10_night 100 = .ok (.return_, 1) := by decide +kernel
theorem dX10_nightsGo_0 : decode cX10_nightsGo 0 = .ok (.iconst 0, 1) := by decide +kernel
theorem dX10_nightsGo_1 : decode cX10_nightsGo 1 = .ok (.istore_n 2, 1) := by decide +kernel
theorem dX10_nightsGo_2 : decode cX10_nightsGo 2 = .ok (.iload_n 2, 1) := by decide +kernel
theorem dX10_nightsGo_3 : decode cX10_nightsGo 3 = .ok (.iload_n 1, 1) := by decide +kernel
theorem dX10_nightsGo_4 : decode cX10_nightsGo 4 = .ok (.if_icmp .ge 13, 3) := by decide +kernel
theorem dX10_nightsGo_7 : decode cX10_nightsGo 7 = .ok (.aload_n 0, 1) := by decide +kernel
theorem dX10_nightsGo_8 : decode cX10_nightsGo 8 = .ok (.invokevirtual 160, 3) := by decide +kernel
theorem dX10_nightsGo_11 : decode cX10_nightsGo 11 = .ok (.iinc 2 1, 3) := by decide +kernel
theorem dX10_nightsGo_14 : decode cX10_nightsGo 14 = .ok (.goto (-12), 3) := by decide +kernel
theorem dX10_nightsGo_17 : decode cX10_nightsGo 17 = .ok (.return_, 1) := by decide +kernel
theorem dX10_nights_0 : decode cX10_nights 0 = .ok (.iload_n 1, 1) := by decide +kernel
theorem dX10_nights_1 : decode cX10_nights 1 = .ok (.i2l, 1) := by decide +kernel
theorem dX10_nights_2 : decode cX10_nights 2 = .ok (.lconst 1, 1) := by decide +kernel
theorem dX10_nights_3 : decode cX10_nights 3 = .ok (.ldc2_w 163, 3) := by decide +kernel
theorem dX10_nights_6 : decode cX10_nights 6 = .ok (.invokestatic 54, 3) := by decide +kernel
theorem dX10_nights_9 : decode cX10_nights 9 = .ok (.ifCond .ne 10, 3) := by decide +kernel
theorem dX10_nights_12 : decode cX10_nights 12 = .ok (.aload_n 0, 1) := by decide +kernel
theorem dX10_nights_13 : decode cX10_nights 13 = .ok (.ldc 45, 2) := by decide +kernel
theorem dX10_nights_15 : decode cX10_nights 15 = .ok (.invokevirtual 75, 3) := by decide +kernel
theorem dX10_nights_18 : decode cX10_nights 18 = .ok (.ireturn, 1) := by decide +kernel
theorem dX10_nights_19 : decode cX10_nights 19 = .ok (.aload_n 0, 1) := by decide +kernel
theorem dX10_nights_20 : decode cX10_nights 20 = .ok (.getfield 7, 3) := by decide +kernel
theorem dX10_nights_23 : decode cX10_nights 23 = .ok (.iconst 0, 1) := by decide +kernel
theorem dX10_nights_24 : decode cX10_nights 24 = .ok (.iaload, 1) := by decide +kernel
theorem dX10_nights_25 : decode cX10_nights 25 = .ok (.iload_n 1, 1) := by decide +kernel
theorem dX10_nights_26 : decode cX10_nights 26 = .ok (.iadd, 1) := by decide +kernel
theorem dX10_nights_27 : decode cX10_nights 27 = .ok (.ldc 165, 2) := by decide +kernel
theorem dX10_nights_29 : decode cX10_nights 29 = .ok (.if_icmp .le 10, 3) := by decide +kernel
theorem dX10_nights_32 : decode cX10_nights 32 = .ok (.aload_n 0, 1) := by decide +kernel
theorem dX10_nights_33 : decode cX10_nights 33 = .ok (.ldc 148, 2) := by decide +kernel
theorem dX10_nights_35 : decode cX10_nights 35 = .ok (.invokevirtual 75, 3) := by decide +kernel
theorem dX10_nights_38 : decode cX10_nights 38 = .ok (.ireturn, 1) := by decide +kernel
theorem dX10_nights_39 : decode cX10_nights 39 = .ok (.aload_n 0, 1) := by decide +kernel
theorem dX10_nights_40 : decode cX10_nights 40 = .ok (.iload_n 1, 1) := by decide +kernel
theorem dX10_nights_41 : decode cX10_nights 41 = .ok (.invokevirtual 166, 3) := by decide +kernel
theorem dX10_nights_44 : decode cX10_nights 44 = .ok (.aload_n 0, 1) := by decide +kernel
theorem dX10_nights_45 : decode cX10_nights 45 = .ok (.invokevirtual 104, 3) := by decide +kernel
theorem dX10_nights_48 : decode cX10_nights 48 = .ok (.ireturn, 1) := by decide +kernel
theorem dX10_isAhead_0 : decode cX10_isAhead 0 = .ok (.iload_n 0, 1) := by decide +kernel
theorem dX10_isAhead_1 : decode cX10_isAhead 1 = .ok (.i2l, 1) := by decide +kernel
theorem dX10_isAhead_2 : decode cX10_isAhead 2 = .ok (.lconst 0, 1) := by decide +kernel
theorem dX10_isAhead_3 : decode cX10_isAhead 3 = .ok (.ldc2_w 170, 3) := by decide +kernel
theorem dX10_isAhead_6 : decode cX10_isAhead 6 = .ok (.invokestatic 54, 3) := by decide +kernel
theorem dX10_isAhead_9 : decode cX10_isAhead 9 = .ok (.ireturn, 1) := by decide +kernel
theorem dX10_behind_0 : decode cX10_behind 0 = .ok (.aload_n 0, 1) := by decide +kernel
theorem dX10_behind_1 : decode cX10_behind 1 = .ok (.invokevirtual 172, 3) := by decide +kernel
theorem dX10_behind_4 : decode cX10_behind 4 = .ok (.aload_n 0, 1) := by decide +kernel
theorem dX10_behind_5 : decode cX10_behind 5 = .ok (.iload_n 2, 1) := by decide +kernel
theorem dX10_behind_6 : decode cX10_behind 6 = .ok (.invokevirtual 166, 3) := by decide +kernel
theorem dX10_behind_9 : decode cX10_behind 9 = .ok (.aload_n 0, 1) := by decide +kernel
theorem dX10_behind_10 : decode cX10_behind 10 = .ok (.aload_n 0, 1) := by decide +kernel
theorem dX10_behind_11 : decode cX10_behind 11 = .ok (.getfield 7, 3) := by decide +kernel
theorem dX10_behind_14 : decode cX10_behind 14 = .ok (.iload_n 1, 1) := by decide +kernel
theorem dX10_behind_15 : decode cX10_behind 15 = .ok (.iaload, 1) := by decide +kernel
theorem dX10_behind_16 : decode cX10_behind 16 = .ok (.invokevirtual 175, 3) := by decide +kernel
theorem dX10_behind_19 : decode cX10_behind 19 = .ok (.ireturn, 1) := by decide +kernel
theorem dX10_wornBehind_0 : decode cX10_wornBehind 0 = .ok (.aload_n 0, 1) := by decide +kernel
theorem dX10_wornBehind_1 : decode cX10_wornBehind 1 = .ok (.invokevirtual 172, 3) := by decide +kernel
theorem dX10_wornBehind_4 : decode cX10_wornBehind 4 = .ok (.aload_n 0, 1) := by decide +kernel
theorem dX10_wornBehind_5 : decode cX10_wornBehind 5 = .ok (.iload_n 2, 1) := by decide +kernel
theorem dX10_wornBehind_6 : decode cX10_wornBehind 6 = .ok (.invokevirtual 166, 3) := by decide +kernel
theorem dX10_wornBehind_9 : decode cX10_wornBehind 9 = .ok (.aload_n 0, 1) := by decide +kernel
theorem dX10_wornBehind_10 : decode cX10_wornBehind 10 = .ok (.aload_n 0, 1) := by decide +kernel
theorem dX10_wornBehind_11 : decode cX10_wornBehind 11 = .ok (.iload_n 1, 1) := by decide +kernel
theorem dX10_wornBehind_12 : decode cX10_wornBehind 12 = .ok (.invokevirtual 145, 3) := by decide +kernel
theorem dX10_wornBehind_15 : decode cX10_wornBehind 15 = .ok (.invokevirtual 175, 3) := by decide +kernel
theorem dX10_wornBehind_18 : decode cX10_wornBehind 18 = .ok (.ireturn, 1) := by decide +kernel
theorem dX10_pursesBehind_0 : decode cX10_pursesBehind 0 = .ok (.aload_n 0, 1) := by decide +kernel
theorem dX10_pursesBehind_1 : decode cX10_pursesBehind 1 = .ok (.invokevirtual 172, 3) := by decide +kernel
theorem dX10_pursesBehind_4 : decode cX10_pursesBehind 4 = .ok (.aload_n 0, 1) := by decide +kernel
theorem dX10_pursesBehind_5 : decode cX10_pursesBehind 5 = .ok (.iload_n 1, 1) := by decide +kernel
theorem dX10_pursesBehind_6 : decode cX10_pursesBehind 6 = .ok (.invokevirtual 166, 3) := by decide +kernel
theorem dX10_pursesBehind_9 : decode cX10_pursesBehind 9 = .ok (.aload_n 0, 1) := by decide +kernel
theorem dX10_pursesBehind_10 : decode cX10_pursesBehind 10 = .ok (.aload_n 0, 1) := by decide +kernel
theorem dX10_pursesBehind_11 : decode cX10_pursesBehind 11 = .ok (.invokevirtual 104, 3) := by decide +kernel
theorem dX10_pursesBehind_14 : decode cX10_pursesBehind 14 = .ok (.invokevirtual 175, 3) := by decide +kernel
theorem dX10_pursesBehind_17 : decode cX10_pursesBehind 17 = .ok (.ireturn, 1) := by decide +kernel
theorem dX10_on_0 : decode cX10_on 0 = .ok (.aload_n 0, 1) := by decide +kernel
theorem dX10_on_1 : decode cX10_on 1 = .ok (.iload_n 1, 1) := by decide +kernel
theorem dX10_on_2 : decode cX10_on 2 = .ok (.invokevirtual 140, 3) := by decide +kernel
theorem dX10_on_5 : decode cX10_on 5 = .ok (.ifCond .eq 20, 3) := by decide +kernel
theorem dX10_on_8 : decode cX10_on 8 = .ok (.iload_n 2, 1) := by decide +kernel
theorem dX10_on_9 : decode cX10_on 9 = .ok (.invokestatic 178, 3) := by decide +kernel
theorem dX10_on_12 : decode cX10_on 12 = .ok (.ifCond .eq 13, 3) := by decide +kernel
theorem dX10_on_15 : decode cX10_on 15 = .ok (.iload_n 3, 1) := by decide +kernel
theorem dX10_on_16 : decode cX10_on 16 = .ok (.i2l, 1) := by decide +kernel
theorem dX10_on_17 : decode cX10_on 17 = .ok (.lconst 0, 1) := by decide +kernel
theorem dX10_on_18 : decode cX10_on 18 = .ok (.lconst 1, 1) := by decide +kernel
theorem dX10_on_19 : decode cX10_on 19 = .ok (.invokestatic 54, 3) := by decide +kernel
theorem dX10_on_22 : decode cX10_on 22 = .ok (.ifCond .ne 10, 3) := by decide +kernel
theorem dX10_on_25 : decode cX10_on 25 = .ok (.aload_n 0, 1) := by decide +kernel
theorem dX10_on_26 : decode cX10_on 26 = .ok (.ldc 45, 2) := by decide +kernel
theorem dX10_on_28 : decode cX10_on 28 = .ok (.invokevirtual 75, 3) := by decide +kernel
theorem dX10_on_31 : decode cX10_on 31 = .ok (.ireturn, 1) := by decide +kernel
theorem dX10_on_32 : decode cX10_on 32 = .ok (.iload_n 3, 1) := by decide +kernel
theorem dX10_on_33 : decode cX10_on 33 = .ok (.ifCond .ne 16, 3) := by decide +kernel
theorem dX10_on_36 : decode cX10_on 36 = .ok (.aload_n 0, 1) := by decide +kernel
theorem dX10_on_37 : decode cX10_on 37 = .ok (.iload_n 1, 1) := by decide +kernel
theorem dX10_on_38 : decode cX10_on 38 = .ok (.iconst 0, 1) := by decide +kernel
theorem dX10_on_39 : decode cX10_on 39 = .ok (.invokestatic 49, 3) := by decide +kernel
theorem dX10_on_42 : decode cX10_on 42 = .ok (.iload_n 2, 1) := by decide +kernel
theorem dX10_on_43 : decode cX10_on 43 = .ok (.invokevirtual 181, 3) := by decide +kernel
theorem dX10_on_46 : decode cX10_on 46 = .ok (.goto 9, 3) := by decide +kernel
theorem dX10_on_49 : decode cX10_on 49 = .ok (.aload_n 0, 1) := by decide +kernel
theorem dX10_on_50 : decode cX10_on 50 = .ok (.iload_n 1, 1) := by decide +kernel
theorem dX10_on_51 : decode cX10_on 51 = .ok (.iload_n 2, 1) := by decide +kernel
theorem dX10_on_52 : decode cX10_on 52 = .ok (.invokevirtual 184, 3) := by decide +kernel
theorem dX10_on_55 : decode cX10_on 55 = .ok (.ireturn, 1) := by decide +kernel
theorem dX10_then_0 : decode cX10_then 0 = .ok (.aload_n 0, 1) := by decide +kernel
theorem dX10_then_1 : decode cX10_then 1 = .ok (.iload_n 1, 1) := by decide +kernel
theorem dX10_then_2 : decode cX10_then 2 = .ok (.invokevirtual 79, 3) := by decide +kernel
theorem dX10_then_5 : decode cX10_then 5 = .ok (.ifCond .eq 20, 3) := by decide +kernel
theorem dX10_then_8 : decode cX10_then 8 = .ok (.iload_n 2, 1) := by decide +kernel
theorem dX10_then_9 : decode cX10_then 9 = .ok (.invokestatic 178, 3) := by decide +kernel
theorem dX10_then_12 : decode cX10_then 12 = .ok (.ifCond .eq 13, 3) := by decide +kernel
theorem dX10_then_15 : decode cX10_then 15 = .ok (.iload_n 3, 1) := by decide +kernel
theorem dX10_then_16 : decode cX10_then 16 = .ok (.i2l, 1) := by decide +kernel
theorem dX10_then_17 : decode cX10_then 17 = .ok (.lconst 0, 1) := by decide +kernel
theorem dX10_then_18 : decode cX10_then 18 = .ok (.lconst 1, 1) := by decide +kernel
theorem dX10_then_19 : decode cX10_then 19 = .ok (.invokestatic 54, 3) := by decide +kernel
theorem dX10_then_22 : decode cX10_then 22 = .ok (.ifCond .ne 10, 3) := by decide +kernel
theorem dX10_then_25 : decode cX10_then 25 = .ok (.aload_n 0, 1) := by decide +kernel
theorem dX10_then_26 : decode cX10_then 26 = .ok (.ldc 45, 2) := by decide +kernel
theorem dX10_then_28 : decode cX10_then 28 = .ok (.invokevirtual 75, 3) := by decide +kernel
theorem dX10_then_31 : decode cX10_then 31 = .ok (.ireturn, 1) := by decide +kernel
theorem dX10_then_32 : decode cX10_then 32 = .ok (.aload_n 0, 1) := by decide +kernel
theorem dX10_then_33 : decode cX10_then 33 = .ok (.iload_n 1, 1) := by decide +kernel
theorem dX10_then_34 : decode cX10_then 34 = .ok (.iload_n 3, 1) := by decide +kernel
theorem dX10_then_35 : decode cX10_then 35 = .ok (.ifCond .ne 7, 3) := by decide +kernel
theorem dX10_then_38 : decode cX10_then 38 = .ok (.iconst 1, 1) := by decide +kernel
theorem dX10_then_39 : decode cX10_then 39 = .ok (.goto 4, 3) := by decide +kernel
theorem dX10_then_42 : decode cX10_then 42 = .ok (.iconst 2, 1) := by decide +kernel
theorem dX10_then_43 : decode cX10_then 43 = .ok (.invokestatic 46, 3) := by decide +kernel
theorem dX10_then_46 : decode cX10_then 46 = .ok (.iload_n 2, 1) := by decide +kernel
theorem dX10_then_47 : decode cX10_then 47 = .ok (.invokevirtual 181, 3) := by decide +kernel
theorem dX10_then_50 : decode cX10_then 50 = .ok (.ireturn, 1) := by decide +kernel
theorem dX10_fond_0 : decode cX10_fond 0 = .ok (.iload_n 1, 1) := by decide +kernel
theorem dX10_fond_1 : decode cX10_fond 1 = .ok (.invokestatic 64, 3) := by decide +kernel
theorem dX10_fond_4 : decode cX10_fond 4 = .ok (.ifCond .eq 23, 3) := by decide +kernel
theorem dX10_fond_7 : decode cX10_fond 7 = .ok (.iload_n 2, 1) := by decide +kernel
theorem dX10_fond_8 : decode cX10_fond 8 = .ok (.invokestatic 178, 3) := by decide +kernel
theorem dX10_fond_11 : decode cX10_fond 11 = .ok (.ifCond .eq 16, 3) := by decide +kernel
theorem dX10_fond_14 : decode cX10_fond 14 = .ok (.aload_n 0, 1) := by decide +kernel
theorem dX10_fond_15 : decode cX10_fond 15 = .ok (.iload_n 1, 1) := by decide +kernel
theorem dX10_fond_16 : decode cX10_fond 16 = .ok (.iconst 1, 1) := by decide +kernel
theorem dX10_fond_17 : decode cX10_fond 17 = .ok (.invokestatic 41, 3) := by decide +kernel
theorem dX10_fond_20 : decode cX10_fond 20 = .ok (.iload_n 2, 1) := by decide +kernel
theorem dX10_fond_21 : decode cX10_fond 21 = .ok (.invokevirtual 181, 3) := by decide +kernel
theorem dX10_fond_24 : decode cX10_fond 24 = .ok (.goto 9, 3) := by decide +kernel
theorem dX10_fond_27 : decode cX10_fond 27 = .ok (.aload_n 0, 1) := by decide +kernel
theorem dX10_fond_28 : decode cX10_fond 28 = .ok (.ldc 45, 2) := by decide +kernel
theorem dX10_fond_30 : decode cX10_fond 30 = .ok (.invokevirtual 75, 3) := by decide +kernel
theorem dX10_fond_33 : decode cX10_fond 33 = .ok (.ireturn, 1) := by decide +kernel
theorem dX10_firstDown_0 : decode cX10_firstDown 0 = .ok (.aload_n 0, 1) := by decide +kernel
theorem dX10_firstDown_1 : decode cX10_firstDown 1 = .ok (.invokevirtual 172, 3) := by decide +kernel
theorem dX10_firstDown_4 : decode cX10_firstDown 4 = .ok (.iconst 0, 1) := by decide +kernel
theorem dX10_firstDown_5 : decode cX10_firstDown 5 = .ok (.istore_n 3, 1) := by decide +kernel
theorem dX10_firstDown_6 : decode cX10_firstDown 6 = .ok (.iload_n 3, 1) := by decide +kernel
theorem dX10_firstDown_7 : decode cX10_firstDown 7 = .ok (.sipush 200, 3) := by decide +kernel
theorem dX10_firstDown_10 : decode cX10_firstDown 10 = .ok (.if_icmp .gt 23, 3) := by decide +kernel
theorem dX10_firstDown_13 : decode cX10_firstDown 13 = .ok (.aload_n 0, 1) := by decide +kernel
theorem dX10_firstDown_14 : decode cX10_firstDown 14 = .ok (.getfield 7, 3) := by decide +kernel
theorem dX10_firstDown_17 : decode cX10_firstDown 17 = .ok (.iload_n 1, 1) := by decide +kernel
theorem dX10_firstDown_18 : decode cX10_firstDown 18 = .ok (.iaload, 1) := by decide +kernel
theorem dX10_firstDown_19 : decode cX10_firstDown 19 = .ok (.iload_n 2, 1) := by decide +kernel
theorem dX10_firstDown_20 : decode cX10_firstDown 20 = .ok (.if_icmp .le 13, 3) := by decide +kernel
theorem dX10_firstDown_23 : decode cX10_firstDown 23 = .ok (.aload_n 0, 1) := by decide +kernel
theorem dX10_firstDown_24 : decode cX10_firstDown 24 = .ok (.invokevirtual 160, 3) := by decide +kernel
theorem dX10_firstDown_27 : decode cX10_firstDown 27 = .ok (.iinc 3 1, 3) := by decide +kernel
theorem dX10_firstDown_30 : decode cX10_firstDown 30 = .ok (.goto (-24), 3) := by decide +kernel
theorem dX10_firstDown_33 : decode cX10_firstDown 33 = .ok (.aload_n 0, 1) := by decide +kernel
theorem dX10_firstDown_34 : decode cX10_firstDown 34 = .ok (.iload_n 3, 1) := by decide +kernel
theorem dX10_firstDown_35 : decode cX10_firstDown 35 = .ok (.invokevirtual 175, 3) := by decide +kernel
theorem dX10_firstDown_38 : decode cX10_firstDown 38 = .ok (.istore 4, 2) := by decide +kernel
theorem dX10_firstDown_40 : decode cX10_firstDown 40 = .ok (.iload 4, 2) := by decide +kernel
theorem dX10_firstDown_42 : decode cX10_firstDown 42 = .ok (.sipush 200, 3) := by decide +kernel
theorem dX10_firstDown_45 : decode cX10_firstDown 45 = .ok (.if_icmp .le 12, 3) := by decide +kernel
theorem dX10_firstDown_48 : decode cX10_firstDown 48 = .ok (.aload_n 0, 1) := by decide +kernel
theorem dX10_firstDown_49 : decode cX10_firstDown 49 = .ok (.ldc 187, 2) := by decide +kernel
theorem dX10_firstDown_51 : decode cX10_firstDown 51 = .ok (.invokevirtual 75, 3) := by decide +kernel
theorem dX10_firstDown_54 : decode cX10_firstDown 54 = .ok (.goto 5, 3) := by decide +kernel
theorem dX10_firstDown_57 : decode cX10_firstDown 57 = .ok (.iload 4, 2) := by decide +kernel
theorem dX10_firstDown_59 : decode cX10_firstDown 59 = .ok (.ireturn, 1) := by decide +kernel
theorem dX10_home_0 : decode cX10_home 0 = .ok (.aload_n 0, 1) := by decide +kernel
theorem dX10_home_1 : decode cX10_home 1 = .ok (.iload_n 1, 1) := by decide +kernel
theorem dX10_home_2 : decode cX10_home 2 = .ok (.invokevirtual 79, 3) := by decide +kernel
theorem dX10_home_5 : decode cX10_home 5 = .ok (.ifCond .eq 16, 3) := by decide +kernel
theorem dX10_home_8 : decode cX10_home 8 = .ok (.aload_n 0, 1) := by decide +kernel
theorem dX10_home_9 : decode cX10_home 9 = .ok (.iload_n 1, 1) := by decide +kernel
theorem dX10_home_10 : decode cX10_home 10 = .ok (.iconst 3, 1) := by decide +kernel
theorem dX10_home_11 : decode cX10_home 11 = .ok (.invokestatic 46, 3) := by decide +kernel
theorem dX10_home_14 : decode cX10_home 14 = .ok (.iconst (-1), 1) := by decide +kernel
theorem dX10_home_15 : decode cX10_home 15 = .ok (.invokevirtual 188, 3) := by decide +kernel
theorem dX10_home_18 : decode cX10_home 18 = .ok (.goto 9, 3) := by decide +kernel
theorem dX10_home_21 : decode cX10_home 21 = .ok (.aload_n 0, 1) := by decide +kernel
theorem dX10_home_22 : decode cX10_home 22 = .ok (.ldc 45, 2) := by decide +kernel
theorem dX10_home_24 : decode cX10_home 24 = .ok (.invokevirtual 75, 3) := by decide +kernel
theorem dX10_home_27 : decode cX10_home 27 = .ok (.ireturn, 1) := by decide +kernel
theorem dX10_falls_0 : decode cX10_falls 0 = .ok (.aload_n 0, 1) := by decide +kernel
theorem dX10_falls_1 : decode cX10_falls 1 = .ok (.iload_n 1, 1) := by decide +kernel
theorem dX10_falls_2 : decode cX10_falls 2 = .ok (.invokevirtual 140, 3) := by decide +kernel
theorem dX10_falls_5 : decode cX10_falls 5 = .ok (.ifCond .eq 28, 3) := by decide +kernel
theorem dX10_falls_8 : decode cX10_falls 8 = .ok (.iload_n 2, 1) := by decide +kernel
theorem dX10_falls_9 : decode cX10_falls 9 = .ok (.i2l, 1) := by decide +kernel
theorem dX10_falls_10 : decode cX10_falls 10 = .ok (.lconst 0, 1) := by decide +kernel
theorem dX10_falls_11 : decode cX10_falls 11 = .ok (.ldc2_w 135, 3) := by decide +kernel
theorem dX10_falls_14 : decode cX10_falls 14 = .ok (.invokestatic 54, 3) := by decide +kernel
theorem dX10_falls_17 : decode cX10_falls 17 = .ok (.ifCond .eq 16, 3) := by decide +kernel
theorem dX10_falls_20 : decode cX10_falls 20 = .ok (.aload_n 0, 1) := by decide +kernel
theorem dX10_falls_21 : decode cX10_falls 21 = .ok (.iload_n 1, 1) := by decide +kernel
theorem dX10_falls_22 : decode cX10_falls 22 = .ok (.iconst 0, 1) := by decide +kernel
theorem dX10_falls_23 : decode cX10_falls 23 = .ok (.invokestatic 49, 3) := by decide +kernel
theorem dX10_falls_26 : decode cX10_falls 26 = .ok (.iload_n 2, 1) := by decide +kernel
theorem dX10_falls_27 : decode cX10_falls 27 = .ok (.invokevirtual 188, 3) := by decide +kernel
theorem dX10_falls_30 : decode cX10_falls 30 = .ok (.goto 9, 3) := by decide +kernel
theorem dX10_falls_33 : decode cX10_falls 33 = .ok (.aload_n 0, 1) := by decide +kernel
theorem dX10_falls_34 : decode cX10_falls 34 = .ok (.ldc 45, 2) := by decide +kernel
theorem dX10_falls_36 : decode cX10_falls 36 = .ok (.invokevirtual 75, 3) := by decide +kernel
theorem dX10_falls_39 : decode cX10_falls 39 = .ok (.ireturn, 1) := by decide +kernel
theorem dX10_isSoon_0 : decode cX10_isSoon 0 = .ok (.iload_n 0, 1) := by decide +kernel
theorem dX10_isSoon_1 : decode cX10_isSoon 1 = .ok (.i2l, 1) := by decide +kernel
theorem dX10_isSoon_2 : decode cX10_isSoon 2 = .ok (.lconst 1, 1) := by decide +kernel
theorem dX10_isSoon_3 : decode cX10_isSoon 3 = .ok (.ldc2_w 191, 3) := by decide +kernel
theorem dX10_isSoon_6 : decode cX10_isSoon 6 = .ok (.invokestatic 54, 3) := by decide +kernel
theorem dX10_isSoon_9 : decode cX10_isSoon 9 = .ok (.ireturn, 1) := by decide +kernel
theorem dX10_best_0 : decode cX10_best 0 = .ok (.aload_n 0, 1) := by decide +kernel
theorem dX10_best_1 : decode cX10_best 1 = .ok (.iload_n 1, 1) := by decide +kernel
theorem dX10_best_2 : decode cX10_best 2 = .ok (.invokevirtual 140, 3) := by decide +kernel
theorem dX10_best_5 : decode cX10_best 5 = .ok (.ifCond .eq 10, 3) := by decide +kernel
theorem dX10_best_8 : decode cX10_best 8 = .ok (.iload_n 2, 1) := by decide +kernel
theorem dX10_best_9 : decode cX10_best 9 = .ok (.invokestatic 193, 3) := by decide +kernel
theorem dX10_best_12 : decode cX10_best 12 = .ok (.ifCond .ne 10, 3) := by decide +kernel
theorem dX10_best_15 : decode cX10_best 15 = .ok (.aload_n 0, 1) := by decide +kernel
theorem dX10_best_16 : decode cX10_best 16 = .ok (.ldc 45, 2) := by decide +kernel
theorem dX10_best_18 : decode cX10_best 18 = .ok (.invokevirtual 75, 3) := by decide +kernel
theorem dX10_best_21 : decode cX10_best 21 = .ok (.ireturn, 1) := by decide +kernel
theorem dX10_best_22 : decode cX10_best 22 = .ok (.aload_n 0, 1) := by decide +kernel
theorem dX10_best_23 : decode cX10_best 23 = .ok (.iload_n 1, 1) := by decide +kernel
theorem dX10_best_24 : decode cX10_best 24 = .ok (.invokevirtual 145, 3) := by decide +kernel
theorem dX10_best_27 : decode cX10_best 27 = .ok (.iconst (-1), 1) := by decide +kernel
theorem dX10_best_28 : decode cX10_best 28 = .ok (.if_icmp .eq 10, 3) := by decide +kernel
theorem dX10_best_31 : decode cX10_best 31 = .ok (.aload_n 0, 1) := by decide +kernel
theorem dX10_best_32 : decode cX10_best 32 = .ok (.ldc 148, 2) := by decide +kernel
theorem dX10_best_34 : decode cX10_best 34 = .ok (.invokevirtual 75, 3) := by decide +kernel
theorem dX10_best_37 : decode cX10_best 37 = .ok (.ireturn, 1) := by decide +kernel
theorem dX10_best_38 : decode cX10_best 38 = .ok (.iconst (-1), 1) := by decide +kernel
theorem dX10_best_39 : decode cX10_best 39 = .ok (.istore_n 3, 1) := by decide +kernel
theorem dX10_best_40 : decode cX10_best 40 = .ok (.iconst (-1), 1) := by decide +kernel
theorem dX10_best_41 : decode cX10_best 41 = .ok (.istore 4, 2) := by decide +kernel
theorem dX10_best_43 : decode cX10_best 43 = .ok (.iconst 0, 1) := by decide +kernel
theorem dX10_best_44 : decode cX10_best 44 = .ok (.istore 5, 2) := by decide +kernel
theorem dX10_best_46 : decode cX10_best 46 = .ok (.iload 5, 2) := by decide +kernel
theorem dX10_best_48 : decode cX10_best 48 = .ok (.aload_n 0, 1) := by decide +kernel
theorem dX10_best_49 : decode cX10_best 49 = .ok (.getfield 7, 3) := by decide +kernel
theorem dX10_best_52 : decode cX10_best 52 = .ok (.iconst 1, 1) := by decide +kernel
theorem dX10_best_53 : decode cX10_best 53 = .ok (.iaload, 1) := by decide +kernel
theorem dX10_best_54 : decode cX10_best 54 = .ok (.if_icmp .ge 86, 3) := by decide +kernel
theorem dX10_best_57 : decode cX10_best 57 = .ok (.aload_n 0, 1) := by decide +kernel
theorem dX10_best_58 : decode cX10_best 58 = .ok (.iload 5, 2) := by decide +kernel
theorem dX10_best_60 : decode cX10_best 60 = .ok (.iconst 3, 1) := by decide +kernel
theorem dX10_best_61 : decode cX10_best 61 = .ok (.invokevirtual 61, 3) := by decide +kernel
theorem dX10_best_64 : decode cX10_best 64 = .ok (.iconst (-1), 1) := by decide +kernel
theorem dX10_best_65 : decode cX10_best 65 = .ok (.if_icmp .ne 69, 3) := by decide +kernel
theorem dX10_best_68 : decode cX10_best 68 = .ok (.aload_n 0, 1) := by decide +kernel
theorem dX10_best_69 : decode cX10_best 69 = .ok (.getfield 7, 3) := by decide +kernel
theorem dX10_best_72 : decode cX10_best 72 = .ok (.iload 5, 2) := by decide +kernel
theorem dX10_best_74 : decode cX10_best 74 = .ok (.iconst 3, 1) := by decide +kernel
theorem dX10_best_75 : decode cX10_best 75 = .ok (.invokestatic 46, 3) := by decide +kernel
theorem dX10_best_78 : decode cX10_best 78 = .ok (.iload_n 1, 1) := by decide +kernel
theorem dX10_best_79 : decode cX10_best 79 = .ok (.iastore, 1) := by decide +kernel
theorem dX10_best_80 : decode cX10_best 80 = .ok (.aload_n 0, 1) := by decide +kernel
theorem dX10_best_81 : decode cX10_best 81 = .ok (.iload_n 1, 1) := by decide +kernel
theorem dX10_best_82 : decode cX10_best 82 = .ok (.iconst 0, 1) := by decide +kernel
theorem dX10_best_83 : decode cX10_best 83 = .ok (.invokestatic 49, 3) := by decide +kernel
theorem dX10_best_86 : decode cX10_best 86 = .ok (.iload_n 2, 1) := by decide +kernel
theorem dX10_best_87 : decode cX10_best 87 = .ok (.invokevirtual 181, 3) := by decide +kernel
theorem dX10_best_90 : decode cX10_best 90 = .ok (.istore 6, 2) := by decide +kernel
theorem dX10_best_92 : decode cX10_best 92 = .ok (.aload_n 0, 1) := by decide +kernel
theorem dX10_best_93 : decode cX10_best 93 = .ok (.getfield 7, 3) := by decide +kernel
theorem dX10_best_96 : decode cX10_best 96 = .ok (.iload 5, 2) := by decide +kernel
theorem dX10_best_98 : decode cX10_best 98 = .ok (.iconst 3, 1) := by decide +kernel
theorem dX10_best_99 : decode cX10_best 99 = .ok (.invokestatic 46, 3) := by decide +kernel
theorem dX10_best_102 : decode cX10_best 102 = .ok (.iconst (-1), 1) := by decide +kernel
