theorem dX7_can_65 : decode cX7_can 65 = .ok (.getfield 18, 3) := by decide +kernel
theorem dX7_can_68 : decode cX7_can 68 = .ok (.invokevirtual 213, 3) := by decide +kernel
theorem dX7_can_71 : decode cX7_can 71 = .ok (.ifCond .eq 19, 3) := by decide +kernel
theorem dX7_can_74 : decode cX7_can 74 = .ok (.iload_n 3, 1) := by decide +kernel
theorem dX7_can_75 : decode cX7_can 75 = .ok (.ifCond .ne 8, 3) := by decide +kernel
theorem dX7_can_78 : decode cX7_can 78 = .ok (.iload 5, 2) := by decide +kernel
theorem dX7_can_80 : decode cX7_can 80 = .ok (.goto 5, 3) := by decide +kernel
theorem dX7_can_83 : decode cX7_can 83 = .ok (.iload 4, 2) := by decide +kernel
theorem dX7_can_85 : decode cX7_can 85 = .ok (.istore 4, 2) := by decide +kernel
theorem dX7_can_87 : decode cX7_can 87 = .ok (.iinc 3 1, 3) := by decide +kernel
theorem dX7_can_90 : decode cX7_can 90 = .ok (.iinc 5 1, 3) := by decide +kernel
theorem dX7_can_93 : decode cX7_can 93 = .ok (.goto (-62), 3) := by decide +kernel
theorem dX7_can_96 : decode cX7_can 96 = .ok (.iload_n 2, 1) := by decide +kernel
theorem dX7_can_97 : decode cX7_can 97 = .ok (.ifCond .ne 7, 3) := by decide +kernel
theorem dX7_can_100 : decode cX7_can 100 = .ok (.iload_n 3, 1) := by decide +kernel
theorem dX7_can_101 : decode cX7_can 101 = .ok (.goto 5, 3) := by decide +kernel
theorem dX7_can_104 : decode cX7_can 104 = .ok (.iload 4, 2) := by decide +kernel
theorem dX7_can_106 : decode cX7_can 106 = .ok (.ireturn, 1) := by decide +kernel
set_option maxRecDepth 20000 in
theorem ggX7_odds_X7_isWithin : GoodIn wsX7_odds wsX7_isWithin := goodIn_r _ [7] (by decide +kernel) (by decide +kernel)
set_option maxRecDepth 20000 in
theorem gX7_odds_X7_isWithin : GoodIn wsX7_odds (va_wsS RX7 62 yX7_isWithin wsX7_isWithin) := goodIn_app (goodIn_of _ (by decide +kernel)) ggX7_odds_X7_isWithin
set_option maxRecDepth 20000 in
theorem ggX7_odds_X2_becomeAs : GoodIn wsX7_odds wsX2_becomeAs := goodIn_r _ [11, 12, 13, 14, 15, 16, 17, 18, 19, 20, 21, 22, 23, 24, 25, 106, 107, 108, 109, 110, 111, 112, 113, 114, 115, 116] (by decide +kernel) (by decide +kernel)
set_option maxRecDepth 20000 in
theorem gX7_odds_X2_becomeAs_n179 : GoodIn wsX7_odds (wsX2_becomeAs) := ggX7_odds_X2_becomeAs
set_option maxRecDepth 20000 in
theorem ggX7_odds_X2_daysGo : GoodIn wsX7_odds wsX2_daysGo := goodIn_r _ [28, 29, 30, 31, 9, 32, 12, 24, 33, 34, 35, 36, 22, 21, 13, 19, 18, 20, 37, 38, 39, 40, 23, 41, 42, 43, 44, 25, 45, 46, 47, 48, 49, 50, 51, 52, 53, 54, 55, 56, 57, 58, 59, 60, 61, 62, 63, 64, 65, 66, 67, 68, 69, 70, 71, 72, 73, 74, 75, 76, 77, 78, 79, 80, 81, 82, 83, 84, 85, 86, 87, 88, 106, 107, 108, 109, 110, 111, 112, 113, 114, 115, 116, 117, 118, 119] (by decide +kernel) (by decide +kernel)
set_option maxRecDepth 20000 in
theorem gX7_odds_X2_daysGo_n176 : GoodIn wsX7_odds (wsX2_daysGo) := ggX7_odds_X2_daysGo
set_option maxRecDepth 20000 in
theorem ggX7_odds_X7_partOfFraction : GoodIn wsX7_odds wsX7_partOfFraction := goodIn_r _ [91, 1, 4, 5, 6, 7, 92, 93, 94] (by decide +kernel) (by decide +kernel)
set_option maxRecDepth 20000 in
theorem gX7_odds_X7_partOfFraction : GoodIn wsX7_odds (va_wsS RX7 219 yX7_partOfFraction wsX7_partOfFraction) := goodIn_app (goodIn_of _ (by decide +kernel)) ggX7_odds_X7_partOfFraction
theorem dX7_odds_0 : decode cX7_odds 0 = .ok (.iload_n 1, 1) := by decide +kernel
theorem dX7_odds_1 : decode cX7_odds 1 = .ok (.iconst 0, 1) := by decide +kernel
theorem dX7_odds_2 : decode cX7_odds 2 = .ok (.bipush 60, 2) := by decide +kernel
theorem dX7_odds_4 : decode cX7_odds 4 = .ok (.invokestatic 62, 3) := by decide +kernel
theorem dX7_odds_7 : decode cX7_odds 7 = .ok (.ifCond .eq 13, 3) := by decide +kernel
theorem dX7_odds_10 : decode cX7_odds 10 = .ok (.iload_n 2, 1) := by decide +kernel
theorem dX7_odds_11 : decode cX7_odds 11 = .ok (.iconst 0, 1) := by decide +kernel
theorem dX7_odds_12 : decode cX7_odds 12 = .ok (.bipush 6, 2) := by decide +kernel
theorem dX7_odds_14 : decode cX7_odds 14 = .ok (.invokestatic 62, 3) := by decide +kernel
theorem dX7_odds_17 : decode cX7_odds 17 = .ok (.ifCond .ne 7, 3) := by decide +kernel
theorem dX7_odds_20 : decode cX7_odds 20 = .ok (.ldc2_w 217, 3) := by decide +kernel
theorem dX7_odds_23 : decode cX7_odds 23 = .ok (.lreturn, 1) := by decide +kernel
theorem dX7_odds_24 : decode cX7_odds 24 = .ok (.iconst 0, 1) := by decide +kernel
theorem dX7_odds_25 : decode cX7_odds 25 = .ok (.istore 4, 2) := by decide +kernel
theorem dX7_odds_27 : decode cX7_odds 27 = .ok (.iconst 0, 1) := by decide +kernel
theorem dX7_odds_28 : decode cX7_odds 28 = .ok (.istore 5, 2) := by decide +kernel
theorem dX7_odds_30 : decode cX7_odds 30 = .ok (.iload 5, 2) := by decide +kernel
theorem dX7_odds_32 : decode cX7_odds 32 = .ok (.aload_n 0, 1) := by decide +kernel
theorem dX7_odds_33 : decode cX7_odds 33 = .ok (.getfield 12, 3) := by decide +kernel
theorem dX7_odds_36 : decode cX7_odds 36 = .ok (.getfield 66, 3) := by decide +kernel
theorem dX7_odds_39 : decode cX7_odds 39 = .ok (.if_icmp .ge 53, 3) := by decide +kernel
theorem dX7_odds_42 : decode cX7_odds 42 = .ok (.aload_n 0, 1) := by decide +kernel
theorem dX7_odds_43 : decode cX7_odds 43 = .ok (.getfield 18, 3) := by decide +kernel
theorem dX7_odds_46 : decode cX7_odds 46 = .ok (.aload_n 0, 1) := by decide +kernel
theorem dX7_odds_47 : decode cX7_odds 47 = .ok (.getfield 12, 3) := by decide +kernel
theorem dX7_odds_50 : decode cX7_odds 50 = .ok (.invokevirtual 179, 3) := by decide +kernel
theorem dX7_odds_53 : decode cX7_odds 53 = .ok (.aload_n 0, 1) := by decide +kernel
theorem dX7_odds_54 : decode cX7_odds 54 = .ok (.getfield 18, 3) := by decide +kernel
theorem dX7_odds_57 : decode cX7_odds 57 = .ok (.getfield 85, 3) := by decide +kernel
theorem dX7_odds_60 : decode cX7_odds 60 = .ok (.iload 5, 2) := by decide +kernel
theorem dX7_odds_62 : decode cX7_odds 62 = .ok (.iconst 0, 1) := by decide +kernel
theorem dX7_odds_63 : decode cX7_odds 63 = .ok (.iastore, 1) := by decide +kernel
theorem dX7_odds_64 : decode cX7_odds 64 = .ok (.aload_n 0, 1) := by decide +kernel
theorem dX7_odds_65 : decode cX7_odds 65 = .ok (.getfield 18, 3) := by decide +kernel
theorem dX7_odds_68 : decode cX7_odds 68 = .ok (.iload_n 1, 1) := by decide +kernel
theorem dX7_odds_69 : decode cX7_odds 69 = .ok (.invokevirtual 176, 3) := by decide +kernel
theorem dX7_odds_72 : decode cX7_odds 72 = .ok (.aload_n 0, 1) := by decide +kernel
theorem dX7_odds_73 : decode cX7_odds 73 = .ok (.getfield 18, 3) := by decide +kernel
theorem dX7_odds_76 : decode cX7_odds 76 = .ok (.getfield 108, 3) := by decide +kernel
theorem dX7_odds_79 : decode cX7_odds 79 = .ok (.iload_n 2, 1) := by decide +kernel
theorem dX7_odds_80 : decode cX7_odds 80 = .ok (.if_icmp .lt 6, 3) := by decide +kernel
theorem dX7_odds_83 : decode cX7_odds 83 = .ok (.iinc 4 1, 3) := by decide +kernel
theorem dX7_odds_86 : decode cX7_odds 86 = .ok (.iinc 5 1, 3) := by decide +kernel
theorem dX7_odds_89 : decode cX7_odds 89 = .ok (.goto (-59), 3) := by decide +kernel
theorem dX7_odds_92 : decode cX7_odds 92 = .ok (.iload 4, 2) := by decide +kernel
theorem dX7_odds_94 : decode cX7_odds 94 = .ok (.aload_n 0, 1) := by decide +kernel
theorem dX7_odds_95 : decode cX7_odds 95 = .ok (.getfield 12, 3) := by decide +kernel
theorem dX7_odds_98 : decode cX7_odds 98 = .ok (.getfield 66, 3) := by decide +kernel
theorem dX7_odds_101 : decode cX7_odds 101 = .ok (.iload_n 3, 1) := by decide +kernel
theorem dX7_odds_102 : decode cX7_odds 102 = .ok (.invokestatic 219, 3) := by decide +kernel
theorem dX7_odds_105 : decode cX7_odds 105 = .ok (.lreturn, 1) := by decide +kernel
set_option maxRecDepth 20000 in
theorem ggX7_mean_J6_bitCount_0f7a4 : GoodIn wsX7_mean wsJ6_bitCount_0f7a4 := goodIn_r _ [5, 6, 7, 8] (by decide +kernel) (by decide +kernel)
set_option maxRecDepth 20000 in
theorem gX7_mean_J6_bitCount_0f7a4 : GoodIn wsX7_mean (va_wsS RX7 223 yJ6_bitCount_0f7a4 wsJ6_bitCount_0f7a4) := goodIn_app (goodIn_of _ (by decide +kernel)) ggX7_mean_J6_bitCount_0f7a4
set_option maxRecDepth 20000 in
theorem ggX7_mean_X7_partOfFraction : GoodIn wsX7_mean wsX7_partOfFraction := goodIn_r _ [12, 13, 14, 15, 11, 16, 17, 18, 19] (by decide +kernel) (by decide +kernel)
set_option maxRecDepth 20000 in
theorem gX7_mean_X7_partOfFraction : GoodIn wsX7_mean (va_wsS RX7 219 yX7_partOfFraction wsX7_partOfFraction) := goodIn_app (goodIn_of _ (by decide +kernel)) ggX7_mean_X7_partOfFraction
theorem dX7_mean_0 : decode cX7_mean 0 = .ok (.iconst 0, 1) := by decide +kernel
theorem dX7_mean_1 : decode cX7_mean 1 = .ok (.istore_n 2, 1) := by decide +kernel
theorem dX7_mean_2 : decode cX7_mean 2 = .ok (.iconst 0, 1) := by decide +kernel
theorem dX7_mean_3 : decode cX7_mean 3 = .ok (.istore_n 3, 1) := by decide +kernel
theorem dX7_mean_4 : decode cX7_mean 4 = .ok (.iload_n 3, 1) := by decide +kernel
theorem dX7_mean_5 : decode cX7_mean 5 = .ok (.aload_n 0, 1) := by decide +kernel
theorem dX7_mean_6 : decode cX7_mean 6 = .ok (.getfield 12, 3) := by decide +kernel
theorem dX7_mean_9 : decode cX7_mean 9 = .ok (.getfield 66, 3) := by decide +kernel
theorem dX7_mean_12 : decode cX7_mean 12 = .ok (.if_icmp .ge 24, 3) := by decide +kernel
theorem dX7_mean_15 : decode cX7_mean 15 = .ok (.iload_n 2, 1) := by decide +kernel
theorem dX7_mean_16 : decode cX7_mean 16 = .ok (.aload_n 0, 1) := by decide +kernel
theorem dX7_mean_17 : decode cX7_mean 17 = .ok (.getfield 12, 3) := by decide +kernel
theorem dX7_mean_20 : decode cX7_mean 20 = .ok (.getfield 85, 3) := by decide +kernel
theorem dX7_mean_23 : decode cX7_mean 23 = .ok (.iload_n 3, 1) := by decide +kernel
theorem dX7_mean_24 : decode cX7_mean 24 = .ok (.iaload, 1) := by decide +kernel
theorem dX7_mean_25 : decode cX7_mean 25 = .ok (.invokestatic 223, 3) := by decide +kernel
theorem dX7_mean_28 : decode cX7_mean 28 = .ok (.iadd, 1) := by decide +kernel
theorem dX7_mean_29 : decode cX7_mean 29 = .ok (.istore_n 2, 1) := by decide +kernel
theorem dX7_mean_30 : decode cX7_mean 30 = .ok (.iinc 3 1, 3) := by decide +kernel
theorem dX7_mean_33 : decode cX7_mean 33 = .ok (.goto (-29), 3) := by decide +kernel
theorem dX7_mean_36 : decode cX7_mean 36 = .ok (.iload_n 2, 1) := by decide +kernel
theorem dX7_mean_37 : decode cX7_mean 37 = .ok (.aload_n 0, 1) := by decide +kernel
theorem dX7_mean_38 : decode cX7_mean 38 = .ok (.getfield 12, 3) := by decide +kernel
theorem dX7_mean_41 : decode cX7_mean 41 = .ok (.getfield 66, 3) := by decide +kernel
theorem dX7_mean_44 : decode cX7_mean 44 = .ok (.iload_n 1, 1) := by decide +kernel
theorem dX7_mean_45 : decode cX7_mean 45 = .ok (.invokestatic 219, 3) := by decide +kernel
theorem dX7_mean_48 : decode cX7_mean 48 = .ok (.lreturn, 1) := by decide +kernel
set_option maxRecDepth 20000 in
theorem ggX7_week_X7_isWithin : GoodIn wsX7_week wsX7_isWithin := goodIn_r _ [6] (by decide +kernel) (by decide +kernel)
set_option maxRecDepth 20000 in
theorem gX7_week_X7_isWithin : GoodIn wsX7_week (va_wsS RX7 62 yX7_isWithin wsX7_isWithin) := goodIn_app (goodIn_of _ (by decide +kernel)) ggX7_week_X7_isWithin
set_option maxRecDepth 20000 in
theorem ggX7_week_X2_hasThing : GoodIn wsX7_week wsX2_hasThing := goodIn_r _ [10, 11, 40, 41, 42, 43, 44, 45, 46, 47, 48, 49, 50] (by decide +kernel) (by decide +kernel)
set_option maxRecDepth 20000 in
theorem gX7_week_X2_hasThing_n74 : GoodIn wsX7_week (wsX2_hasThing) := ggX7_week_X2_hasThing
set_option maxRecDepth 20000 in
theorem ggX7_week_X1_addToWeek : GoodIn wsX7_week wsX1_addToWeek := goodIn_r _ [15, 16, 17, 18, 30, 31, 32, 33, 34, 35, 36, 37, 38, 39] (by decide +kernel) (by decide +kernel)
set_option maxRecDepth 20000 in
theorem gX7_week_X1_addToWeek_n231 : GoodIn wsX7_week (wsX1_addToWeek) := ggX7_week_X1_addToWeek
theorem dX7_week_0 : decode cX7_week 0 = .ok (.iload_n 1, 1) := by decide +kernel
theorem dX7_week_1 : decode cX7_week 1 = .ok (.iconst (-1), 1) := by decide +kernel
theorem dX7_week_2 : decode cX7_week 2 = .ok (.if_icmp .ne 13, 3) := by decide +kernel
theorem dX7_week_5 : decode cX7_week 5 = .ok (.aload_n 0, 1) := by decide +kernel
theorem dX7_week_6 : decode cX7_week 6 = .ok (.getfield 24, 3) := by decide +kernel
theorem dX7_week_9 : decode cX7_week 9 = .ok (.iconst 0, 1) := by decide +kernel
theorem dX7_week_10 : decode cX7_week 10 = .ok (.putfield 228, 3) := by decide +kernel
theorem dX7_week_13 : decode cX7_week 13 = .ok (.iconst 0, 1) := by decide +kernel
theorem dX7_week_14 : decode cX7_week 14 = .ok (.ireturn, 1) := by decide +kernel
theorem dX7_week_15 : decode cX7_week 15 = .ok (.iload_n 1, 1) := by decide +kernel
theorem dX7_week_16 : decode cX7_week 16 = .ok (.iconst 0, 1) := by decide +kernel
theorem dX7_week_17 : decode cX7_week 17 = .ok (.iconst 2, 1) := by decide +kernel
theorem dX7_week_18 : decode cX7_week 18 = .ok (.invokestatic 62, 3) := by decide +kernel
theorem dX7_week_21 : decode cX7_week 21 = .ok (.ifCond .ne 5, 3) := by decide +kernel
theorem dX7_week_24 : decode cX7_week 24 = .ok (.iconst (-1), 1) := by decide +kernel
theorem dX7_week_25 : decode cX7_week 25 = .ok (.ireturn, 1) := by decide +kernel
theorem dX7_week_26 : decode cX7_week 26 = .ok (.iload_n 1, 1) := by decide +kernel
theorem dX7_week_27 : decode cX7_week 27 = .ok (.iconst 2, 1) := by decide +kernel
theorem dX7_week_28 : decode cX7_week 28 = .ok (.if_icmp .ne 16, 3) := by decide +kernel
theorem dX7_week_31 : decode cX7_week 31 = .ok (.aload_n 0, 1) := by decide +kernel
theorem dX7_week_32 : decode cX7_week 32 = .ok (.getfield 12, 3) := by decide +kernel
theorem dX7_week_35 : decode cX7_week 35 = .ok (.iload_n 2, 1) := by decide +kernel
theorem dX7_week_36 : decode cX7_week 36 = .ok (.invokevirtual 74, 3) := by decide +kernel
theorem dX7_week_39 : decode cX7_week 39 = .ok (.ifCond .ne 5, 3) := by decide +kernel
theorem dX7_week_42 : decode cX7_week 42 = .ok (.iconst (-1), 1) := by decide +kernel
theorem dX7_week_43 : decode cX7_week 43 = .ok (.ireturn, 1) := by decide +kernel
theorem dX7_week_44 : decode cX7_week 44 = .ok (.aload_n 0, 1) := by decide +kernel
theorem dX7_week_45 : decode cX7_week 45 = .ok (.getfield 24, 3) := by decide +kernel
theorem dX7_week_48 : decode cX7_week 48 = .ok (.getfield 228, 3) := by decide +kernel
theorem dX7_week_51 : decode cX7_week 51 = .ok (.bipush 10, 2) := by decide +kernel
theorem dX7_week_53 : decode cX7_week 53 = .ok (.if_icmp .lt 6, 3) := by decide +kernel
theorem dX7_week_56 : decode cX7_week 56 = .ok (.bipush (-4), 2) := by decide +kernel
theorem dX7_week_58 : decode cX7_week 58 = .ok (.ireturn, 1) := by decide +kernel
theorem dX7_week_59 : decode cX7_week 59 = .ok (.aload_n 0, 1) := by decide +kernel
theorem dX7_week_60 : decode cX7_week 60 = .ok (.getfield 24, 3) := by decide +kernel
theorem dX7_week_63 : decode cX7_week 63 = .ok (.iload_n 1, 1) := by decide +kernel
theorem dX7_week_64 : decode cX7_week 64 = .ok (.iload_n 2, 1) := by decide +kernel
theorem dX7_week_65 : decode cX7_week 65 = .ok (.invokevirtual 231, 3) := by decide +kernel
theorem dX7_week_68 : decode cX7_week 68 = .ok (.ireturn, 1) := by decide +kernel
set_option maxRecDepth 20000 in
theorem ggX7_ends_X7_isWithin : GoodIn wsX7_ends wsX7_isWithin := goodIn_r _ [7] (by decide +kernel) (by decide +kernel)
set_option maxRecDepth 20000 in
theorem gX7_ends_X7_isWithin : GoodIn wsX7_ends (va_wsS RX7 62 yX7_isWithin wsX7_isWithin) := goodIn_app (goodIn_of _ (by decide +kernel)) ggX7_ends_X7_isWithin
set_option maxRecDepth 20000 in
theorem ggX7_ends_X2_becomeAs : GoodIn wsX7_ends wsX2_becomeAs := goodIn_r _ [11, 12, 13, 14, 15, 16, 17, 18, 19, 20, 21, 22, 23, 24, 25, 110, 111, 112, 113, 114, 115, 116, 117, 118, 119, 120] (by decide +kernel) (by decide +kernel)
set_option maxRecDepth 20000 in
theorem gX7_ends_X2_becomeAs_n179 : GoodIn wsX7_ends (wsX2_becomeAs) := ggX7_ends_X2_becomeAs
set_option maxRecDepth 20000 in
theorem ggX7_ends_X1_goThroughWeek : GoodIn wsX7_ends wsX1_goThroughWeek := goodIn_r _ [29, 30, 31, 32, 33, 9, 34, 35, 12, 24, 36, 37, 38, 39, 22, 21, 13, 19, 18, 20, 40, 41, 42, 43, 23, 44, 45, 46, 47, 25, 48, 49, 50, 51, 52, 53, 54, 55, 56, 57, 58, 59, 60, 61, 62, 63, 64, 65, 66, 67, 68, 69, 70, 71, 72, 73, 74, 75, 76, 77, 78, 79, 80, 81, 82, 83, 84, 85, 86, 87, 88, 89, 90, 91, 92, 93, 94, 95, 96, 97, 121, 122, 123, 124, 125, 126, 127, 128, 129, 130, 110, 111, 112, 113, 114, 115, 116, 117, 118, 119, 120, 131, 132, 133] (by decide +kernel) (by decide +kernel)
set_option maxRecDepth 20000 in
theorem gX7_ends_X1_goThroughWeek_n235 : GoodIn wsX7_ends (wsX1_goThroughWeek) := ggX7_ends_X1_goThroughWeek
set_option maxRecDepth 20000 in
theorem ggX7_ends_X2_marksOf : GoodIn wsX7_ends wsX2_marksOf := goodIn_r _ [55, 12, 19, 110, 111, 112, 113, 114, 115, 116, 117, 118, 119, 120] (by decide +kernel) (by decide +kernel)
set_option maxRecDepth 20000 in
theorem gX7_ends_X2_marksOf_n167 : GoodIn wsX7_ends (wsX2_marksOf) := ggX7_ends_X2_marksOf
set_option maxRecDepth 20000 in
theorem ggX7_ends_J6_bitCount_0f7a4 : GoodIn wsX7_ends wsJ6_bitCount_0f7a4 := goodIn_r _ [59, 60, 61, 62] (by decide +kernel) (by decide +kernel)
set_option maxRecDepth 20000 in
theorem gX7_ends_J6_bitCount_0f7a4 : GoodIn wsX7_ends (va_wsS RX7 223 yJ6_bitCount_0f7a4 wsJ6_bitCount_0f7a4) := goodIn_app (goodIn_of _ (by decide +kernel)) ggX7_ends_J6_bitCount_0f7a4
theorem dX7_ends_0 : decode cX7_ends 0 = .ok (.iload_n 1, 1) := by decide +kernel
theorem dX7_ends_1 : decode cX7_ends 1 = .ok (.iconst 0, 1) := by decide +kernel
theorem dX7_ends_2 : decode cX7_ends 2 = .ok (.iconst 1, 1) := by decide +kernel
theorem dX7_ends_3 : decode cX7_ends 3 = .ok (.invokestatic 62, 3) := by decide +kernel
theorem dX7_ends_6 : decode cX7_ends 6 = .ok (.ifCond .ne 5, 3) := by decide +kernel
theorem dX7_ends_9 : decode cX7_ends 9 = .ok (.iconst (-1), 1) := by decide +kernel
theorem dX7_ends_10 : decode cX7_ends 10 = .ok (.ireturn, 1) := by decide +kernel
theorem dX7_ends_11 : decode cX7_ends 11 = .ok (.aload_n 0, 1) := by decide +kernel
theorem dX7_ends_12 : decode cX7_ends 12 = .ok (.getfield 18, 3) := by decide +kernel
theorem dX7_ends_15 : decode cX7_ends 15 = .ok (.aload_n 0, 1) := by decide +kernel
theorem dX7_ends_16 : decode cX7_ends 16 = .ok (.getfield 12, 3) := by decide +kernel
theorem dX7_ends_19 : decode cX7_ends 19 = .ok (.invokevirtual 179, 3) := by decide +kernel
theorem dX7_ends_22 : decode cX7_ends 22 = .ok (.aload_n 0, 1) := by decide +kernel
theorem dX7_ends_23 : decode cX7_ends 23 = .ok (.getfield 24, 3) := by decide +kernel
theorem dX7_ends_26 : decode cX7_ends 26 = .ok (.aload_n 0, 1) := by decide +kernel
theorem dX7_ends_27 : decode cX7_ends 27 = .ok (.getfield 18, 3) := by decide +kernel
theorem dX7_ends_30 : decode cX7_ends 30 = .ok (.invokevirtual 235, 3) := by decide +kernel
theorem dX7_ends_33 : decode cX7_ends 33 = .ok (.iload_n 1, 1) := by decide +kernel
theorem dX7_ends_34 : decode cX7_ends 34 = .ok (.ifCond .ne 13, 3) := by decide +kernel
theorem dX7_ends_37 : decode cX7_ends 37 = .ok (.aload_n 0, 1) := by decide +kernel
theorem dX7_ends_38 : decode cX7_ends 38 = .ok (.getfield 18, 3) := by decide +kernel
theorem dX7_ends_41 : decode cX7_ends 41 = .ok (.getfield 161, 3) := by decide +kernel
theorem dX7_ends_44 : decode cX7_ends 44 = .ok (.goto 20, 3) := by decide +kernel
theorem dX7_ends_47 : decode cX7_ends 47 = .ok (.aload_n 0, 1) := by decide +kernel
theorem dX7_ends_48 : decode cX7_ends 48 = .ok (.getfield 18, 3) := by decide +kernel
theorem dX7_ends_51 : decode cX7_ends 51 = .ok (.aload_n 0, 1) := by decide +kernel
theorem dX7_ends_52 : decode cX7_ends 52 = .ok (.getfield 18, 3) := by decide +kernel
theorem dX7_ends_55 : decode cX7_ends 55 = .ok (.getfield 161, 3) := by decide +kernel
theorem dX7_ends_58 : decode cX7_ends 58 = .ok (.invokevirtual 167, 3) := by decide +kernel
theorem dX7_ends_61 : decode cX7_ends 61 = .ok (.invokestatic 223, 3) := by decide +kernel
theorem dX7_ends_64 : decode cX7_ends 64 = .ok (.ireturn, 1) := by decide +kernel
set_option maxRecDepth 20000 in
theorem ggX7_book_X2_hasThing : GoodIn wsX7_book wsX2_hasThing := goodIn_r _ [6, 7, 40, 41, 42, 43, 44, 45, 46, 47, 48, 49, 50] (by decide +kernel) (by decide +kernel)
set_option maxRecDepth 20000 in
theorem gX7_book_X2_hasThing_n74 : GoodIn wsX7_book (wsX2_hasThing) := ggX7_book_X2_hasThing
set_option maxRecDepth 20000 in
theorem ggX7_book_X7_isWithin : GoodIn wsX7_book wsX7_isWithin := goodIn_r _ [11] (by decide +kernel) (by decide +kernel)
set_option maxRecDepth 20000 in
theorem gX7_book_X7_isWithin : GoodIn wsX7_book (va_wsS RX7 62 yX7_isWithin wsX7_isWithin) := goodIn_app (goodIn_of _ (by decide +kernel)) ggX7_book_X7_isWithin
set_option maxRecDepth 20000 in
theorem ggX7_book_X1_addToBook : GoodIn wsX7_book wsX1_addToBook := goodIn_r _ [15, 16, 17, 18, 30, 31, 32, 33, 34, 35, 36, 37, 38, 39] (by decide +kernel) (by decide +kernel)
set_option maxRecDepth 20000 in
theorem gX7_book_X1_addToBook_n241 : GoodIn wsX7_book (wsX1_addToBook) := ggX7_book_X1_addToBook
theorem dX7_book_0 : decode cX7_book 0 = .ok (.iload_n 1, 1) := by decide +kernel
theorem dX7_book_1 : decode cX7_book 1 = .ok (.iconst (-1), 1) := by decide +kernel
theorem dX7_book_2 : decode cX7_book 2 = .ok (.if_icmp .ne 13, 3) := by decide +kernel
theorem dX7_book_5 : decode cX7_book 5 = .ok (.aload_n 0, 1) := by decide +kernel
theorem dX7_book_6 : decode cX7_book 6 = .ok (.getfield 24, 3) := by decide +kernel
theorem dX7_book_9 : decode cX7_book 9 = .ok (.iconst 0, 1) := by decide +kernel
theorem dX7_book_10 : decode cX7_book 10 = .ok (.putfield 238, 3) := by decide +kernel
theorem dX7_book_13 : decode cX7_book 13 = .ok (.iconst 0, 1) := by decide +kernel
theorem dX7_book_14 : decode cX7_book 14 = .ok (.ireturn, 1) := by decide +kernel
theorem dX7_book_15 : decode cX7_book 15 = .ok (.aload_n 0, 1) := by decide +kernel
theorem dX7_book_16 : decode cX7_book 16 = .ok (.getfield 12, 3) := by decide +kernel
theorem dX7_book_19 : decode cX7_book 19 = .ok (.iload_n 1, 1) := by decide +kernel
theorem dX7_book_20 : decode cX7_book 20 = .ok (.invokevirtual 74, 3) := by decide +kernel
theorem dX7_book_23 : decode cX7_book 23 = .ok (.ifCond .ne 5, 3) := by decide +kernel
theorem dX7_book_26 : decode cX7_book 26 = .ok (.iconst (-1), 1) := by decide +kernel
theorem dX7_book_27 : decode cX7_book 27 = .ok (.ireturn, 1) := by decide +kernel
theorem dX7_book_28 : decode cX7_book 28 = .ok (.iload_n 2, 1) := by decide +kernel
theorem dX7_book_29 : decode cX7_book 29 = .ok (.iconst 0, 1) := by decide +kernel
theorem dX7_book_30 : decode cX7_book 30 = .ok (.sipush 255, 3) := by decide +kernel
theorem dX7_book_33 : decode cX7_book 33 = .ok (.invokestatic 62, 3) := by decide +kernel
theorem dX7_book_36 : decode cX7_book 36 = .ok (.ifCond .ne 6, 3) := by decide +kernel
theorem dX7_book_39 : decode cX7_book 39 = .ok (.bipush (-2), 2) := by decide +kernel
theorem dX7_book_41 : decode cX7_book 41 = .ok (.ireturn, 1) := by decide +kernel
theorem dX7_book_42 : decode cX7_book 42 = .ok (.aload_n 0, 1) := by decide +kernel
theorem dX7_book_43 : decode cX7_book 43 = .ok (.getfield 24, 3) := by decide +kernel
theorem dX7_book_46 : decode cX7_book 46 = .ok (.getfield 238, 3) := by decide +kernel
theorem dX7_book_49 : decode cX7_book 49 = .ok (.bipush 8, 2) := by decide +kernel
theorem dX7_book_51 : decode cX7_book 51 = .ok (.if_icmp .lt 6, 3) := by decide +kernel
theorem dX7_book_54 : decode cX7_book 54 = .ok (.bipush (-4), 2) := by decide +kernel
theorem dX7_book_56 : decode cX7_book 56 = .ok (.ireturn, 1) := by decide +kernel
theorem dX7_book_57 : decode cX7_book 57 = .ok (.aload_n 0, 1) := by decide +kernel
theorem dX7_book_58 : decode cX7_book 58 = .ok (.getfield 24, 3) := by decide +kernel
theorem dX7_book_61 : decode cX7_book 61 = .ok (.iload_n 1, 1) := by decide +kernel
theorem dX7_book_62 : decode cX7_book 62 = .ok (.iload_n 2, 1) := by decide +kernel
theorem dX7_book_63 : decode cX7_book 63 = .ok (.invokevirtual 241, 3) := by decide +kernel
theorem dX7_book_66 : decode cX7_book 66 = .ok (.ireturn, 1) := by decide +kernel
set_option maxRecDepth 20000 in
theorem ggX7_looked_X1_firstOtherwise : GoodIn wsX7_looked wsX1_firstOtherwise := goodIn_r _ [6, 7, 8, 9, 10, 11, 12, 13, 14, 26, 27, 28, 29, 30, 31, 32, 33, 34, 35, 36, 37, 38, 39, 40, 41, 42, 43, 44, 45, 46] (by decide +kernel) (by decide +kernel)
set_option maxRecDepth 20000 in
theorem gX7_looked_X1_firstOtherwise_n244 : GoodIn wsX7_looked (wsX1_firstOtherwise) := ggX7_looked_X1_firstOtherwise
theorem dX7_looked_0 : decode cX7_looked 0 = .ok (.aload_n 0, 1) := by decide +kernel
theorem dX7_looked_1 : decode cX7_looked 1 = .ok (.getfield 24, 3) := by decide +kernel
theorem dX7_looked_4 : decode cX7_looked 4 = .ok (.aload_n 0, 1) := by decide +kernel
theorem dX7_looked_5 : decode cX7_looked 5 = .ok (.getfield 12, 3) := by decide +kernel
theorem dX7_looked_8 : decode cX7_looked 8 = .ok (.invokevirtual 244, 3) := by decide +kernel
theorem dX7_looked_11 : decode cX7_looked 11 = .ok (.ireturn, 1) := by decide +kernel
set_option maxRecDepth 20000 in
theorem ggX7_judge_X6_hasTape : GoodIn wsX7_judge wsX6_hasTape := goodIn_r _ [6] (by decide +kernel) (by decide +kernel)
set_option maxRecDepth 20000 in
theorem gX7_judge_X6_hasTape_n247 : GoodIn wsX7_judge (wsX6_hasTape) := ggX7_judge_X6_hasTape
set_option maxRecDepth 20000 in
theorem ggX7_judge_X6_itemAt : GoodIn wsX7_judge wsX6_itemAt := goodIn_r _ [9, 10, 22, 23, 24] (by decide +kernel) (by decide +kernel)
set_option maxRecDepth 20000 in
theorem gX7_judge_X6_itemAt_n256 : GoodIn wsX7_judge (wsX6_itemAt) := ggX7_judge_X6_itemAt
theorem dX7_judge_0 : decode cX7_judge 0 = .ok (.aload_n 0, 1) := by decide +kernel
theorem dX7_judge_1 : decode cX7_judge 1 = .ok (.getfield 58, 3) := by decide +kernel
theorem dX7_judge_4 : decode cX7_judge 4 = .ok (.iload_n 1, 1) := by decide +kernel
theorem dX7_judge_5 : decode cX7_judge 5 = .ok (.invokevirtual 247, 3) := by decide +kernel
theorem dX7_judge_8 : decode cX7_judge 8 = .ok (.ifCond .ne 5, 3) := by decide +kernel
theorem dX7_judge_11 : decode cX7_judge 11 = .ok (.iconst (-1), 1) := by decide +kernel
theorem dX7_judge_12 : decode cX7_judge 12 = .ok (.ireturn, 1) := by decide +kernel
theorem dX7_judge_13 : decode cX7_judge 13 = .ok (.aload_n 0, 1) := by decide +kernel
theorem dX7_judge_14 : decode cX7_judge 14 = .ok (.getfield 58, 3) := by decide +kernel
theorem dX7_judge_17 : decode cX7_judge 17 = .ok (.getfield 250, 3) := by decide +kernel
theorem dX7_judge_20 : decode cX7_judge 20 = .ok (.iload_n 1, 1) := by decide +kernel
theorem dX7_judge_21 : decode cX7_judge 21 = .ok (.iaload, 1) := by decide +kernel
theorem dX7_judge_22 : decode cX7_judge 22 = .ok (.iconst 1, 1) := by decide +kernel
theorem dX7_judge_23 : decode cX7_judge 23 = .ok (.if_icmp .eq 19, 3) := by decide +kernel
theorem dX7_judge_26 : decode cX7_judge 26 = .ok (.aload_n 0, 1) := by decide +kernel
theorem dX7_judge_27 : decode cX7_judge 27 = .ok (.getfield 58, 3) := by decide +kernel
theorem dX7_judge_30 : decode cX7_judge 30 = .ok (.getfield 250, 3) := by decide +kernel
theorem dX7_judge_33 : decode cX7_judge 33 = .ok (.iload_n 1, 1) := by decide +kernel
theorem dX7_judge_34 : decode cX7_judge 34 = .ok (.iaload, 1) := by decide +kernel
theorem dX7_judge_35 : decode cX7_judge 35 = .ok (.iconst (-1), 1) := by decide +kernel
theorem dX7_judge_36 : decode cX7_judge 36 = .ok (.if_icmp .eq 6, 3) := by decide +kernel
theorem dX7_judge_39 : decode cX7_judge 39 = .ok (.bipush (-12), 2) := by decide +kernel
theorem dX7_judge_41 : decode cX7_judge 41 = .ok (.ireturn, 1) := by decide +kernel
theorem dX7_judge_42 : decode cX7_judge 42 = .ok (.iconst 0, 1) := by decide +kernel
theorem dX7_judge_43 : decode cX7_judge 43 = .ok (.istore_n 3, 1) := by decide +kernel
theorem dX7_judge_44 : decode cX7_judge 44 = .ok (.iload_n 3, 1) := by decide +kernel
theorem dX7_judge_45 : decode cX7_judge 45 = .ok (.aload_n 0, 1) := by decide +kernel
theorem dX7_judge_46 : decode cX7_judge 46 = .ok (.getfield 12, 3) := by decide +kernel
theorem dX7_judge_49 : decode cX7_judge 49 = .ok (.getfield 66, 3) := by decide +kernel
theorem dX7_judge_52 : decode cX7_judge 52 = .ok (.if_icmp .ge 60, 3) := by decide +kernel
theorem dX7_judge_55 : decode cX7_judge 55 = .ok (.iload_n 2, 1) := by decide +kernel
theorem dX7_judge_56 : decode cX7_judge 56 = .ok (.ifCond .lt 18, 3) := by decide +kernel
theorem dX7_judge_59 : decode cX7_judge 59 = .ok (.iload_n 2, 1) := by decide +kernel
theorem dX7_judge_60 : decode cX7_judge 60 = .ok (.aload_n 0, 1) := by decide +kernel
theorem dX7_judge_61 : decode cX7_judge 61 = .ok (.getfield 58, 3) := by decide +kernel
theorem dX7_judge_64 : decode cX7_judge 64 = .ok (.getfield 253, 3) := by decide +kernel
theorem dX7_judge_67 : decode cX7_judge 67 = .ok (.iload_n 1, 1) := by decide +kernel
theorem dX7_judge_68 : decode cX7_judge 68 = .ok (.iaload, 1) := by decide +kernel
theorem dX7_judge_69 : decode cX7_judge 69 = .ok (.iload_n 3, 1) := by decide +kernel
theorem dX7_judge_70 : decode cX7_judge 70 = .ok (.isub, 1) := by decide +kernel
theorem dX7_judge_71 : decode cX7_judge 71 = .ok (.if_icmp .lt 8, 3) := by decide +kernel
theorem dX7_judge_74 : decode cX7_judge 74 = .ok (.bipush 100, 2) := by decide +kernel
theorem dX7_judge_76 : decode cX7_judge 76 = .ok (.iload_n 3, 1) := by decide +kernel
theorem dX7_judge_77 : decode cX7_judge 77 = .ok (.iadd, 1) := by decide +kernel
theorem dX7_judge_78 : decode cX7_judge 78 = .ok (.ireturn, 1) := by decide +kernel
theorem dX7_judge_79 : decode cX7_judge 79 = .ok (.aload_n 0, 1) := by decide +kernel
theorem dX7_judge_80 : decode cX7_judge 80 = .ok (.getfield 58, 3) := by decide +kernel
theorem dX7_judge_83 : decode cX7_judge 83 = .ok (.iload_n 1, 1) := by decide +kernel
theorem dX7_judge_84 : decode cX7_judge 84 = .ok (.iload_n 2, 1) := by decide +kernel
theorem dX7_judge_85 : decode cX7_judge 85 = .ok (.iload_n 3, 1) := by decide +kernel
theorem dX7_judge_86 : decode cX7_judge 86 = .ok (.iadd, 1) := by decide +kernel
theorem dX7_judge_87 : decode cX7_judge 87 = .ok (.invokevirtual 256, 3) := by decide +kernel
theorem dX7_judge_90 : decode cX7_judge 90 = .ok (.aload_n 0, 1) := by decide +kernel
theorem dX7_judge_91 : decode cX7_judge 91 = .ok (.getfield 12, 3) := by decide +kernel
theorem dX7_judge_94 : decode cX7_judge 94 = .ok (.getfield 85, 3) := by decide +kernel
theorem dX7_judge_97 : decode cX7_judge 97 = .ok (.iload_n 3, 1) := by decide +kernel
theorem dX7_judge_98 : decode cX7_judge 98 = .ok (.iaload, 1) := by decide +kernel
theorem dX7_judge_99 : decode cX7_judge 99 = .ok (.i2l, 1) := by decide +kernel
theorem dX7_judge_100 : decode cX7_judge 100 = .ok (.lcmp, 1) := by decide +kernel
theorem dX7_judge_101 : decode cX7_judge 101 = .ok (.ifCond .eq 5, 3) := by decide +kernel
theorem dX7_judge_104 : decode cX7_judge 104 = .ok (.iload_n 3, 1) := by decide +kernel
theorem dX7_judge_105 : decode cX7_judge 105 = .ok (.ireturn, 1) := by decide +kernel
theorem dX7_judge_106 : decode cX7_judge 106 = .ok (.iinc 3 1, 3) := by decide +kernel
theorem dX7_judge_109 : decode cX7_judge 109 = .ok (.goto (-65), 3) := by decide +kernel
theorem dX7_judge_112 : decode cX7_judge 112 = .ok (.bipush (-5), 2) := by decide +kernel
theorem dX7_judge_114 : decode cX7_judge 114 = .ok (.ireturn, 1) := by decide +kernel
set_option maxRecDepth 20000 in
theorem ggX7_image_X2_becomeAs : GoodIn wsX7_image wsX2_becomeAs := goodIn_r _ [9, 10, 11, 12, 13, 14, 15, 16, 17, 18, 19, 20, 21, 22, 23, 50, 51, 52, 53, 54, 55, 56, 57, 58, 59, 60] (by decide +kernel) (by decide +kernel)
set_option maxRecDepth 20000 in
theorem gX7_image_X2_becomeAs_n179 : GoodIn wsX7_image (wsX2_becomeAs) := ggX7_image_X2_becomeAs
set_option maxRecDepth 20000 in
theorem ggX7_image_X1_becomeAs : GoodIn wsX7_image wsX1_becomeAs := goodIn_r _ [27, 28, 29, 13, 14, 15, 30, 31, 32, 33, 34, 35, 36, 37, 38, 61, 62, 63, 64, 65, 66, 67, 68, 69, 70] (by decide +kernel) (by decide +kernel)
set_option maxRecDepth 20000 in
theorem gX7_image_X1_becomeAs_n260 : GoodIn wsX7_image (wsX1_becomeAs) := ggX7_image_X1_becomeAs
theorem dX7_image_0 : decode cX7_image 0 = .ok (.aload_n 0, 1) := by decide +kernel
theorem dX7_image_1 : decode cX7_image 1 = .ok (.getfield 28, 3) := by decide +kernel
theorem dX7_image_4 : decode cX7_image 4 = .ok (.aload_n 0, 1) := by decide +kernel
theorem dX7_image_5 : decode cX7_image 5 = .ok (.getfield 12, 3) := by decide +kernel
theorem dX7_image_8 : decode cX7_image 8 = .ok (.invokevirtual 179, 3) := by decide +kernel
theorem dX7_image_11 : decode cX7_image 11 = .ok (.aload_n 0, 1) := by decide +kernel
theorem dX7_image_12 : decode cX7_image 12 = .ok (.getfield 31, 3) := by decide +kernel
theorem dX7_image_15 : decode cX7_image 15 = .ok (.aload_n 0, 1) := by decide +kernel
theorem dX7_image_16 : decode cX7_image 16 = .ok (.getfield 24, 3) := by decide +kernel
theorem dX7_image_19 : decode cX7_image 19 = .ok (.invokevirtual 260, 3) := by decide +kernel
theorem dX7_image_22 : decode cX7_image 22 = .ok (.aload_n 0, 1) := by decide +kernel
theorem dX7_image_23 : decode cX7_image 23 = .ok (.iconst 1, 1) := by decide +kernel
theorem dX7_image_24 : decode cX7_image 24 = .ok (.putfield 263, 3) := by decide +kernel
theorem dX7_image_27 : decode cX7_image 27 = .ok (.aload_n 0, 1) := by decide +kernel
theorem dX7_image_28 : decode cX7_image 28 = .ok (.getfield 12, 3) := by decide +kernel
theorem dX7_image_31 : decode cX7_image 31 = .ok (.getfield 66, 3) := by decide +kernel
theorem dX7_image_34 : decode cX7_image 34 = .ok (.ireturn, 1) := by decide +kernel
set_option maxRecDepth 20000 in
theorem ggX7_undo_X2_becomeAs : GoodIn wsX7_undo wsX2_becomeAs := goodIn_r _ [9, 10, 11, 12, 13, 14, 15, 16, 17, 18, 19, 20, 21, 22, 23, 50, 51, 52, 53, 54, 55, 56, 57, 58, 59, 60] (by decide +kernel) (by decide +kernel)
set_option maxRecDepth 20000 in
theorem gX7_undo_X2_becomeAs_n179 : GoodIn wsX7_undo (wsX2_becomeAs) := ggX7_undo_X2_becomeAs
set_option maxRecDepth 20000 in
theorem ggX7_undo_X1_becomeAs : GoodIn wsX7_undo wsX1_becomeAs := goodIn_r _ [27, 28, 29, 13, 14, 15, 30, 31, 32, 33, 34, 35, 36, 37, 38, 61, 62, 63, 64, 65, 66, 67, 68, 69, 70] (by decide +kernel) (by decide +kernel)
set_option maxRecDepth 20000 in
theorem gX7_undo_X1_becomeAs_n260 : GoodIn wsX7_undo (wsX1_becomeAs) := ggX7_undo_X1_becomeAs
theorem dX7_undo_0 : decode cX7_undo 0 = .ok (.aload_n 0, 1) := by decide +kernel
theorem dX7_undo_1 : decode cX7_undo 1 = .ok (.getfield 263, 3) := by decide +kernel
theorem dX7_undo_4 : decode cX7_undo 4 = .ok (.ifCond .ne 6, 3) := by decide +kernel
theorem dX7_undo_7 : decode cX7_undo 7 = .ok (.bipush (-3), 2) := by decide +kernel
theorem dX7_undo_9 : decode cX7_undo 9 = .ok (.ireturn, 1) := by decide +kernel
theorem dX7_undo_10 : decode cX7_undo 10 = .ok (.aload_n 0, 1) := by decide +kernel
theorem dX7_undo_11 : decode cX7_undo 11 = .ok (.getfield 12, 3) := by decide +kernel
theorem dX7_undo_14 : decode cX7_undo 14 = .ok (.aload_n 0, 1) := by decide +kernel
theorem dX7_undo_15 : decode cX7_undo 15 = .ok (.getfield 28, 3) := by decide +kernel
theorem dX7_undo_18 : decode cX7_undo 18 = .ok (.invokevirtual 179, 3) := by decide +kernel
theorem dX7_undo_21 : decode cX7_undo 21 = .ok (.aload_n 0, 1) := by decide +kernel
theorem dX7_undo_22 : decode cX7_undo 22 = .ok (.getfield 24, 3) := by decide +kernel
theorem dX7_undo_25 : decode cX7_undo 25 = .ok (.aload_n 0, 1) := by decide +kernel
theorem dX7_undo_26 : decode cX7_undo 26 = .ok (.getfield 31, 3) := by decide +kernel
theorem dX7_undo_29 : decode cX7_undo 29 = .ok (.invokevirtual 260, 3) := by decide +kernel
theorem dX7_undo_32 : decode cX7_undo 32 = .ok (.aload_n 0, 1) := by decide +kernel
theorem dX7_undo_33 : decode cX7_undo 33 = .ok (.getfield 12, 3) := by decide +kernel
theorem dX7_undo_36 : decode cX7_undo 36 = .ok (.getfield 66, 3) := by decide +kernel
theorem dX7_undo_39 : decode cX7_undo 39 = .ok (.ireturn, 1) := by decide +kernel
set_option maxRecDepth 20000 in
theorem ggX7_act_X0_forget : GoodIn wsX7_act wsX0_forget := goodIn_r _ [6, 7, 65, 66, 67, 68, 69] (by decide +kernel) (by decide +kernel)
set_option maxRecDepth 20000 in
theorem gX7_act_X0_forget_n267 : GoodIn wsX7_act (wsX0_forget) := ggX7_act_X0_forget
set_option maxRecDepth 20000 in
theorem ggX7_act_X2_hasThing : GoodIn wsX7_act wsX2_hasThing := goodIn_r _ [11, 12, 54, 55, 56, 57, 58, 59, 60, 61, 62, 63, 64] (by decide +kernel) (by decide +kernel)
set_option maxRecDepth 20000 in
theorem gX7_act_X2_hasThing_n74 : GoodIn wsX7_act (wsX2_hasThing) := ggX7_act_X2_hasThing
set_option maxRecDepth 20000 in
theorem ggX7_act_X7_isWithin : GoodIn wsX7_act wsX7_isWithin := goodIn_r _ [16] (by decide +kernel) (by decide +kernel)
set_option maxRecDepth 20000 in
theorem gX7_act_X7_isWithin : GoodIn wsX7_act (va_wsS RX7 62 yX7_isWithin wsX7_isWithin) := goodIn_app (goodIn_of _ (by decide +kernel)) ggX7_act_X7_isWithin
set_option maxRecDepth 20000 in
theorem ggX7_act_X0_perform : GoodIn wsX7_act wsX0_perform := goodIn_r _ [19, 20, 21, 22, 23, 24, 25, 4, 26, 27, 28, 29, 30, 7, 31, 32, 33, 34, 35, 36, 37, 38, 39, 40, 41, 42, 65, 66, 67, 68, 69] (by decide +kernel) (by decide +kernel)
set_option maxRecDepth 20000 in
theorem gX7_act_X0_perform_n270 : GoodIn wsX7_act (wsX0_perform) := ggX7_act_X0_perform
theorem dX7_act_0 : decode cX7_act 0 = .ok (.aload_n 0, 1) := by decide +kernel
theorem dX7_act_1 : decode cX7_act 1 = .ok (.getfield 51, 3) := by decide +kernel
theorem dX7_act_4 : decode cX7_act 4 = .ok (.invokevirtual 267, 3) := by decide +kernel
theorem dX7_act_7 : decode cX7_act 7 = .ok (.aload_n 0, 1) := by decide +kernel
theorem dX7_act_8 : decode cX7_act 8 = .ok (.getfield 12, 3) := by decide +kernel
theorem dX7_act_11 : decode cX7_act 11 = .ok (.iload_n 1, 1) := by decide +kernel
theorem dX7_act_12 : decode cX7_act 12 = .ok (.invokevirtual 74, 3) := by decide +kernel
theorem dX7_act_15 : decode cX7_act 15 = .ok (.ifCond .eq 12, 3) := by decide +kernel
theorem dX7_act_18 : decode cX7_act 18 = .ok (.iload_n 2, 1) := by decide +kernel
theorem dX7_act_19 : decode cX7_act 19 = .ok (.iconst 0, 1) := by decide +kernel
theorem dX7_act_20 : decode cX7_act 20 = .ok (.iconst 2, 1) := by decide +kernel
theorem dX7_act_21 : decode cX7_act 21 = .ok (.invokestatic 62, 3) := by decide +kernel
theorem dX7_act_24 : decode cX7_act 24 = .ok (.ifCond .ne 5, 3) := by decide +kernel
theorem dX7_act_27 : decode cX7_act 27 = .ok (.iconst 0, 1) := by decide +kernel
theorem dX7_act_28 : decode cX7_act 28 = .ok (.ireturn, 1) := by decide +kernel
theorem dX7_act_29 : decode cX7_act 29 = .ok (.aload_n 0, 1) := by decide +kernel
theorem dX7_act_30 : decode cX7_act 30 = .ok (.getfield 51, 3) := by decide +kernel
theorem dX7_act_33 : decode cX7_act 33 = .ok (.aload_n 0, 1) := by decide +kernel
theorem dX7_act_34 : decode cX7_act 34 = .ok (.getfield 12, 3) := by decide +kernel
theorem dX7_act_37 : decode cX7_act 37 = .ok (.getfield 78, 3) := by decide +kernel
theorem dX7_act_40 : decode cX7_act 40 = .ok (.iload_n 1, 1) := by decide +kernel
theorem dX7_act_41 : decode cX7_act 41 = .ok (.iaload, 1) := by decide +kernel
theorem dX7_act_42 : decode cX7_act 42 = .ok (.iload_n 1, 1) := by decide +kernel
theorem dX7_act_43 : decode cX7_act 43 = .ok (.aload_n 0, 1) := by decide +kernel
theorem dX7_act_44 : decode cX7_act 44 = .ok (.getfield 12, 3) := by decide +kernel
theorem dX7_act_47 : decode cX7_act 47 = .ok (.getfield 82, 3) := by decide +kernel
theorem dX7_act_50 : decode cX7_act 50 = .ok (.iload_n 1, 1) := by decide +kernel
theorem dX7_act_51 : decode cX7_act 51 = .ok (.iaload, 1) := by decide +kernel
theorem dX7_act_52 : decode cX7_act 52 = .ok (.iload_n 2, 1) := by decide +kernel
theorem dX7_act_53 : decode cX7_act 53 = .ok (.iload_n 3, 1) := by decide +kernel
theorem dX7_act_54 : decode cX7_act 54 = .ok (.invokevirtual 270, 3) := by decide +kernel
theorem dX7_act_57 : decode cX7_act 57 = .ok (.ireturn, 1) := by decide +kernel
set_option maxRecDepth 20000 in
theorem ggX7_trace_X0_keptCount : GoodIn wsX7_trace wsX0_keptCount := goodIn_r _ [5, 6, 7, 8, 9, 10, 22, 23, 24, 25, 26] (by decide +kernel) (by decide +kernel)
set_option maxRecDepth 20000 in
theorem gX7_trace_X0_keptCount_n274 : GoodIn wsX7_trace (wsX0_keptCount) := ggX7_trace_X0_keptCount
theorem dX7_trace_0 : decode cX7_trace 0 = .ok (.iload_n 1, 1) := by decide +kernel
theorem dX7_trace_1 : decode cX7_trace 1 = .ok (.ifCond .lt 26, 3) := by decide +kernel
theorem dX7_trace_4 : decode cX7_trace 4 = .ok (.iload_n 1, 1) := by decide +kernel
theorem dX7_trace_5 : decode cX7_trace 5 = .ok (.aload_n 0, 1) := by decide +kernel
theorem dX7_trace_6 : decode cX7_trace 6 = .ok (.getfield 51, 3) := by decide +kernel
theorem dX7_trace_9 : decode cX7_trace 9 = .ok (.invokevirtual 274, 3) := by decide +kernel
theorem dX7_trace_12 : decode cX7_trace 12 = .ok (.if_icmp .ge 15, 3) := by decide +kernel
theorem dX7_trace_15 : decode cX7_trace 15 = .ok (.aload_n 0, 1) := by decide +kernel
theorem dX7_trace_16 : decode cX7_trace 16 = .ok (.getfield 51, 3) := by decide +kernel
theorem dX7_trace_19 : decode cX7_trace 19 = .ok (.getfield 277, 3) := by decide +kernel
theorem dX7_trace_22 : decode cX7_trace 22 = .ok (.iload_n 1, 1) := by decide +kernel
theorem dX7_trace_23 : decode cX7_trace 23 = .ok (.iaload, 1) := by decide +kernel
theorem dX7_trace_24 : decode cX7_trace 24 = .ok (.goto 4, 3) := by decide +kernel
theorem dX7_trace_27 : decode cX7_trace 27 = .ok (.iconst (-1), 1) := by decide +kernel
theorem dX7_trace_28 : decode cX7_trace 28 = .ok (.ireturn, 1) := by decide +kernel
set_option maxRecDepth 20000 in
theorem ggX7_taken_X7_isWithin : GoodIn wsX7_taken wsX7_isWithin := goodIn_r _ [5] (by decide +kernel) (by decide +kernel)
set_option maxRecDepth 20000 in
theorem gX7_taken_X7_isWithin : GoodIn wsX7_taken (va_wsS RX7 62 yX7_isWithin wsX7_isWithin) := goodIn_app (goodIn_of _ (by decide +kernel)) ggX7_taken_X7_isWithin
set_option maxRecDepth 20000 in
theorem ggX7_taken_X2_hasThing : GoodIn wsX7_taken wsX2_hasThing := goodIn_r _ [9, 10, 26, 27, 28, 29, 30, 31, 32, 33, 34, 35, 36] (by decide +kernel) (by decide +kernel)
set_option maxRecDepth 20000 in
theorem gX7_taken_X2_hasThing_n74 : GoodIn wsX7_taken (wsX2_hasThing) := ggX7_taken_X2_hasThing
set_option maxRecDepth 20000 in
theorem ggX7_taken_X7_isUnder : GoodIn wsX7_taken wsX7_isUnder := goodIn_r _ [13, 14] (by decide +kernel) (by decide +kernel)
set_option maxRecDepth 20000 in
theorem gX7_taken_X7_isUnder : GoodIn wsX7_taken (va_wsS RX7 280 yX7_isUnder wsX7_isUnder) := goodIn_app (goodIn_of _ (by decide +kernel)) ggX7_taken_X7_isUnder
theorem dX7_taken_0 : decode cX7_taken 0 = .ok (.iload_n 2, 1) := by decide +kernel
theorem dX7_taken_1 : decode cX7_taken 1 = .ok (.iconst 0, 1) := by decide +kernel
theorem dX7_taken_2 : decode cX7_taken 2 = .ok (.bipush 6, 2) := by decide +kernel
theorem dX7_taken_4 : decode cX7_taken 4 = .ok (.invokestatic 62, 3) := by decide +kernel
theorem dX7_taken_7 : decode cX7_taken 7 = .ok (.ifCond .ne 6, 3) := by decide +kernel
theorem dX7_taken_10 : decode cX7_taken 10 = .ok (.bipush (-2), 2) := by decide +kernel
theorem dX7_taken_12 : decode cX7_taken 12 = .ok (.ireturn, 1) := by decide +kernel
theorem dX7_taken_13 : decode cX7_taken 13 = .ok (.aload_n 0, 1) := by decide +kernel
theorem dX7_taken_14 : decode cX7_taken 14 = .ok (.getfield 12, 3) := by decide +kernel
theorem dX7_taken_17 : decode cX7_taken 17 = .ok (.iload_n 1, 1) := by decide +kernel
theorem dX7_taken_18 : decode cX7_taken 18 = .ok (.invokevirtual 74, 3) := by decide +kernel
theorem dX7_taken_21 : decode cX7_taken 21 = .ok (.ifCond .ne 6, 3) := by decide +kernel
theorem dX7_taken_24 : decode cX7_taken 24 = .ok (.bipush (-11), 2) := by decide +kernel
theorem dX7_taken_26 : decode cX7_taken 26 = .ok (.ireturn, 1) := by decide +kernel
theorem dX7_taken_27 : decode cX7_taken 27 = .ok (.aload_n 0, 1) := by decide +kernel
theorem dX7_taken_28 : decode cX7_taken 28 = .ok (.getfield 12, 3) := by decide +kernel
theorem dX7_taken_31 : decode cX7_taken 31 = .ok (.getfield 78, 3) := by decide +kernel
theorem dX7_taken_34 : decode cX7_taken 34 = .ok (.iload_n 1, 1) := by decide +kernel
theorem dX7_taken_35 : decode cX7_taken 35 = .ok (.iaload, 1) := by decide +kernel
theorem dX7_taken_36 : decode cX7_taken 36 = .ok (.istore_n 3, 1) := by decide +kernel
theorem dX7_taken_37 : decode cX7_taken 37 = .ok (.iload_n 3, 1) := by decide +kernel
theorem dX7_taken_38 : decode cX7_taken 38 = .ok (.iload_n 2, 1) := by decide +kernel
theorem dX7_taken_39 : decode cX7_taken 39 = .ok (.invokestatic 280, 3) := by decide +kernel
theorem dX7_taken_42 : decode cX7_taken 42 = .ok (.ifCond .eq 7, 3) := by decide +kernel
theorem dX7_taken_45 : decode cX7_taken 45 = .ok (.iload_n 3, 1) := by decide +kernel
theorem dX7_taken_46 : decode cX7_taken 46 = .ok (.goto 5, 3) := by decide +kernel
theorem dX7_taken_49 : decode cX7_taken 49 = .ok (.bipush (-12), 2) := by decide +kernel
theorem dX7_taken_51 : decode cX7_taken 51 = .ok (.ireturn, 1) := by decide +kernel
theorem dX7_count_0 : decode cX7_count 0 = .ok (.iload_n 1, 1) := by decide +kernel
theorem dX7_count_1 : decode cX7_count 1 = .ok (.tableswitch 108 0 7 #[47, 55, 60, 68, 76, 84, 92, 100], 47) := by decide +kernel
theorem dX7_count_48 : decode cX7_count 48 = .ok (.aload_n 0, 1) := by decide +kernel
theorem dX7_count_49 : decode cX7_count 49 = .ok (.getfield 12, 3) := by decide +kernel
theorem dX7_count_52 : decode cX7_count 52 = .ok (.getfield 66, 3) := by decide +kernel
theorem dX7_count_55 : decode cX7_count 55 = .ok (.ireturn, 1) := by decide +kernel
theorem dX7_count_56 : decode cX7_count 56 = .ok (.aload_n 0, 1) := by decide +kernel
theorem dX7_count_57 : decode cX7_count 57 = .ok (.getfield 121, 3) := by decide +kernel
theorem dX7_count_60 : decode cX7_count 60 = .ok (.ireturn, 1) := by decide +kernel
theorem dX7_count_61 : decode cX7_count 61 = .ok (.aload_n 0, 1) := by decide +kernel
theorem dX7_count_62 : decode cX7_count 62 = .ok (.getfield 12, 3) := by decide +kernel
theorem dX7_count_65 : decode cX7_count 65 = .ok (.getfield 108, 3) := by decide +kernel
theorem dX7_count_68 : decode cX7_count 68 = .ok (.ireturn, 1) := by decide +kernel
theorem dX7_count_69 : decode cX7_count 69 = .ok (.aload_n 0, 1) := by decide +kernel
theorem dX7_count_70 : decode cX7_count 70 = .ok (.getfield 24, 3) := by decide +kernel
theorem dX7_count_73 : decode cX7_count 73 = .ok (.getfield 206, 3) := by decide +kernel
theorem dX7_count_76 : decode cX7_count 76 = .ok (.ireturn, 1) := by decide +kernel
theorem dX7_count_77 : decode cX7_count 77 = .ok (.aload_n 0, 1) := by decide +kernel
theorem dX7_count_78 : decode cX7_count 78 = .ok (.getfield 24, 3) := by decide +kernel
theorem dX7_count_81 : decode cX7_count 81 = .ok (.getfield 228, 3) := by decide +kernel
theorem dX7_count_84 : decode cX7_count 84 = .ok (.ireturn, 1) := by decide +kernel
theorem dX7_count_85 : decode cX7_count 85 = .ok (.aload_n 0, 1) := by decide +kernel
theorem dX7_count_86 : decode cX7_count 86 = .ok (.getfield 24, 3) := by decide +kernel
theorem dX7_count_89 : decode cX7_count 89 = .ok (.getfield 238, 3) := by decide +kernel
theorem dX7_count_92 : decode cX7_count 92 = .ok (.ireturn, 1) := by decide +kernel
theorem dX7_count_93 : decode cX7_count 93 = .ok (.aload_n 0, 1) := by decide +kernel
theorem dX7_count_94 : decode cX7_count 94 = .ok (.getfield 37, 3) := by decide +kernel
theorem dX7_count_97 : decode cX7_count 97 = .ok (.getfield 115, 3) := by decide +kernel
theorem dX7_count_100 : decode cX7_count 100 = .ok (.ireturn, 1) := by decide +kernel
theorem dX7_count_101 : decode cX7_count 101 = .ok (.aload_n 0, 1) := by decide +kernel
theorem dX7_count_102 : decode cX7_count 102 = .ok (.getfield 51, 3) := by decide +kernel
theorem dX7_count_105 : decode cX7_count 105 = .ok (.getfield 284, 3) := by decide +kernel
theorem dX7_count_108 : decode cX7_count 108 = .ok (.ireturn, 1) := by decide +kernel
theorem dX7_count_109 : decode cX7_count 109 = .ok (.bipush (-2), 2) := by decide +kernel
theorem dX7_count_111 : decode cX7_count 111 = .ok (.ireturn, 1) := by decide +kernel
set_option maxRecDepth 20000 in
theorem ggX7_tape_X6_hasTape : GoodIn wsX7_tape wsX6_hasTape := goodIn_r _ [5] (by decide +kernel) (by decide +kernel)
set_option maxRecDepth 20000 in
theorem gX7_tape_X6_hasTape_n247 : GoodIn wsX7_tape (wsX6_hasTape) := ggX7_tape_X6_hasTape
set_option maxRecDepth 20000 in
theorem ggX7_tape_X6_makeRow : GoodIn wsX7_tape wsX6_makeRow := goodIn_r _ [8, 9, 10, 11, 27, 28, 29] (by decide +kernel) (by decide +kernel)
set_option maxRecDepth 20000 in
theorem gX7_tape_X6_makeRow_n287 : GoodIn wsX7_tape (wsX6_makeRow) := ggX7_tape_X6_makeRow
set_option maxRecDepth 20000 in
theorem ggX7_tape_X7_isWithin : GoodIn wsX7_tape wsX7_isWithin := goodIn_r _ [15] (by decide +kernel) (by decide +kernel)
set_option maxRecDepth 20000 in
theorem gX7_tape_X7_isWithin : GoodIn wsX7_tape (va_wsS RX7 62 yX7_isWithin wsX7_isWithin) := goodIn_app (goodIn_of _ (by decide +kernel)) ggX7_tape_X7_isWithin
theorem dX7_tape_0 : decode cX7_tape 0 = .ok (.aload_n 0, 1) := by decide +kernel
theorem dX7_tape_1 : decode cX7_tape 1 = .ok (.getfield 58, 3) := by decide +kernel
theorem dX7_tape_4 : decode cX7_tape 4 = .ok (.iload_n 1, 1) := by decide +kernel
theorem dX7_tape_5 : decode cX7_tape 5 = .ok (.invokevirtual 247, 3) := by decide +kernel
theorem dX7_tape_8 : decode cX7_tape 8 = .ok (.ifCond .ne 5, 3) := by decide +kernel
theorem dX7_tape_11 : decode cX7_tape 11 = .ok (.iconst (-1), 1) := by decide +kernel
theorem dX7_tape_12 : decode cX7_tape 12 = .ok (.ireturn, 1) := by decide +kernel
theorem dX7_tape_13 : decode cX7_tape 13 = .ok (.iload_n 2, 1) := by decide +kernel
theorem dX7_tape_14 : decode cX7_tape 14 = .ok (.iconst (-1), 1) := by decide +kernel
theorem dX7_tape_15 : decode cX7_tape 15 = .ok (.if_icmp .ne 15, 3) := by decide +kernel
theorem dX7_tape_18 : decode cX7_tape 18 = .ok (.aload_n 0, 1) := by decide +kernel
theorem dX7_tape_19 : decode cX7_tape 19 = .ok (.getfield 58, 3) := by decide +kernel
theorem dX7_tape_22 : decode cX7_tape 22 = .ok (.iload_n 1, 1) := by decide +kernel
theorem dX7_tape_23 : decode cX7_tape 23 = .ok (.iconst (-1), 1) := by decide +kernel
theorem dX7_tape_24 : decode cX7_tape 24 = .ok (.iconst 0, 1) := by decide +kernel
theorem dX7_tape_25 : decode cX7_tape 25 = .ok (.invokevirtual 287, 3) := by decide +kernel
theorem dX7_tape_28 : decode cX7_tape 28 = .ok (.iconst 1, 1) := by decide +kernel
theorem dX7_tape_29 : decode cX7_tape 29 = .ok (.ireturn, 1) := by decide +kernel
theorem dX7_tape_30 : decode cX7_tape 30 = .ok (.iload_n 2, 1) := by decide +kernel
theorem dX7_tape_31 : decode cX7_tape 31 = .ok (.iconst 0, 1) := by decide +kernel
theorem dX7_tape_32 : decode cX7_tape 32 = .ok (.iconst 4, 1) := by decide +kernel
theorem dX7_tape_33 : decode cX7_tape 33 = .ok (.invokestatic 62, 3) := by decide +kernel
theorem dX7_tape_36 : decode cX7_tape 36 = .ok (.ifCond .eq 9, 3) := by decide +kernel
theorem dX7_tape_39 : decode cX7_tape 39 = .ok (.iload_n 3, 1) := by decide +kernel
theorem dX7_tape_40 : decode cX7_tape 40 = .ok (.bipush 60, 2) := by decide +kernel
theorem dX7_tape_42 : decode cX7_tape 42 = .ok (.if_icmp .le 6, 3) := by decide +kernel
theorem dX7_tape_45 : decode cX7_tape 45 = .ok (.bipush (-2), 2) := by decide +kernel
theorem dX7_tape_47 : decode cX7_tape 47 = .ok (.ireturn, 1) := by decide +kernel
theorem dX7_tape_48 : decode cX7_tape 48 = .ok (.iload_n 3, 1) := by decide +kernel
theorem dX7_tape_49 : decode cX7_tape 49 = .ok (.ifCond .ge 6, 3) := by decide +kernel
theorem dX7_tape_52 : decode cX7_tape 52 = .ok (.bipush (-14), 2) := by decide +kernel
theorem dX7_tape_54 : decode cX7_tape 54 = .ok (.ireturn, 1) := by decide +kernel
theorem dX7_tape_55 : decode cX7_tape 55 = .ok (.aload_n 0, 1) := by decide +kernel
theorem dX7_tape_56 : decode cX7_tape 56 = .ok (.getfield 58, 3) := by decide +kernel
theorem dX7_tape_59 : decode cX7_tape 59 = .ok (.iload_n 1, 1) := by decide +kernel
theorem dX7_tape_60 : decode cX7_tape 60 = .ok (.iload_n 2, 1) := by decide +kernel
theorem dX7_tape_61 : decode cX7_tape 61 = .ok (.iload_n 3, 1) := by decide +kernel
theorem dX7_tape_62 : decode cX7_tape 62 = .ok (.invokevirtual 287, 3) := by decide +kernel
theorem dX7_tape_65 : decode cX7_tape 65 = .ok (.iconst 1, 1) := by decide +kernel
theorem dX7_tape_66 : decode cX7_tape 66 = .ok (.ireturn, 1) := by decide +kernel
set_option maxRecDepth 20000 in
theorem ggX7_item_X6_hasTape : GoodIn wsX7_item wsX6_hasTape := goodIn_r _ [5] (by decide +kernel) (by decide +kernel)
set_option maxRecDepth 20000 in
theorem gX7_item_X6_hasTape_n247 : GoodIn wsX7_item (wsX6_hasTape) := ggX7_item_X6_hasTape
set_option maxRecDepth 20000 in
theorem ggX7_item_X6_hasPlace : GoodIn wsX7_item wsX6_hasPlace := goodIn_r _ [8, 9, 29, 30, 31] (by decide +kernel) (by decide +kernel)
set_option maxRecDepth 20000 in
theorem gX7_item_X6_hasPlace_n291 : GoodIn wsX7_item (wsX6_hasPlace) := ggX7_item_X6_hasPlace
set_option maxRecDepth 20000 in
theorem ggX7_item_X6_setItem : GoodIn wsX7_item wsX6_setItem := goodIn_r _ [12, 13, 14, 15, 16, 3, 17, 29, 30, 31] (by decide +kernel) (by decide +kernel)
set_option maxRecDepth 20000 in
theorem gX7_item_X6_setItem_n294 : GoodIn wsX7_item (wsX6_setItem) := ggX7_item_X6_setItem
theorem dX7_item_0 : decode cX7_item 0 = .ok (.aload_n 0, 1) := by decide +kernel
theorem dX7_item_1 : decode cX7_item 1 = .ok (.getfield 58, 3) := by decide +kernel
theorem dX7_item_4 : decode cX7_item 4 = .ok (.iload_n 1, 1) := by decide +kernel
theorem dX7_item_5 : decode cX7_item 5 = .ok (.invokevirtual 247, 3) := by decide +kernel
theorem dX7_item_8 : decode cX7_item 8 = .ok (.ifCond .ne 5, 3) := by decide +kernel
theorem dX7_item_11 : decode cX7_item 11 = .ok (.iconst (-1), 1) := by decide +kernel
theorem dX7_item_12 : decode cX7_item 12 = .ok (.ireturn, 1) := by decide +kernel
theorem dX7_item_13 : decode cX7_item 13 = .ok (.aload_n 0, 1) := by decide +kernel
theorem dX7_item_14 : decode cX7_item 14 = .ok (.getfield 58, 3) := by decide +kernel
theorem dX7_item_17 : decode cX7_item 17 = .ok (.getfield 250, 3) := by decide +kernel
theorem dX7_item_20 : decode cX7_item 20 = .ok (.iload_n 1, 1) := by decide +kernel
theorem dX7_item_21 : decode cX7_item 21 = .ok (.iaload, 1) := by decide +kernel
theorem dX7_item_22 : decode cX7_item 22 = .ok (.iconst (-1), 1) := by decide +kernel
theorem dX7_item_23 : decode cX7_item 23 = .ok (.if_icmp .ne 6, 3) := by decide +kernel
theorem dX7_item_26 : decode cX7_item 26 = .ok (.bipush (-11), 2) := by decide +kernel
theorem dX7_item_28 : decode cX7_item 28 = .ok (.ireturn, 1) := by decide +kernel
theorem dX7_item_29 : decode cX7_item 29 = .ok (.aload_n 0, 1) := by decide +kernel
theorem dX7_item_30 : decode cX7_item 30 = .ok (.getfield 58, 3) := by decide +kernel
theorem dX7_item_33 : decode cX7_item 33 = .ok (.iload_n 1, 1) := by decide +kernel
theorem dX7_item_34 : decode cX7_item 34 = .ok (.iload_n 2, 1) := by decide +kernel
theorem dX7_item_35 : decode cX7_item 35 = .ok (.invokevirtual 291, 3) := by decide +kernel
theorem dX7_item_38 : decode cX7_item 38 = .ok (.ifCond .ne 6, 3) := by decide +kernel
theorem dX7_item_41 : decode cX7_item 41 = .ok (.bipush (-13), 2) := by decide +kernel
theorem dX7_item_43 : decode cX7_item 43 = .ok (.ireturn, 1) := by decide +kernel
theorem dX7_item_44 : decode cX7_item 44 = .ok (.aload_n 0, 1) := by decide +kernel
theorem dX7_item_45 : decode cX7_item 45 = .ok (.getfield 58, 3) := by decide +kernel
theorem dX7_item_48 : decode cX7_item 48 = .ok (.iload_n 1, 1) := by decide +kernel
theorem dX7_item_49 : decode cX7_item 49 = .ok (.iload_n 2, 1) := by decide +kernel
theorem dX7_item_50 : decode cX7_item 50 = .ok (.lload_n 3, 1) := by decide +kernel
theorem dX7_item_51 : decode cX7_item 51 = .ok (.invokevirtual 294, 3) := by decide +kernel
theorem dX7_item_54 : decode cX7_item 54 = .ok (.iconst 1, 1) := by decide +kernel
theorem dX7_item_55 : decode cX7_item 55 = .ok (.ireturn, 1) := by decide +kernel
set_option maxRecDepth 20000 in
theorem ggX7_read_X6_hasTape : GoodIn wsX7_read wsX6_hasTape := goodIn_r _ [6] (by decide +kernel) (by decide +kernel)
set_option maxRecDepth 20000 in
theorem gX7_read_X6_hasTape_n247 : GoodIn wsX7_read (wsX6_hasTape) := ggX7_read_X6_hasTape
set_option maxRecDepth 20000 in
theorem ggX7_read_X6_hasPlace : GoodIn wsX7_read wsX6_hasPlace := goodIn_r _ [9, 10, 26, 27, 28] (by decide +kernel) (by decide +kernel)
set_option maxRecDepth 20000 in
theorem gX7_read_X6_hasPlace_n291 : GoodIn wsX7_read (wsX6_hasPlace) := ggX7_read_X6_hasPlace
set_option maxRecDepth 20000 in
theorem ggX7_read_X6_itemAt : GoodIn wsX7_read wsX6_itemAt := goodIn_r _ [13, 14, 26, 27, 28] (by decide +kernel) (by decide +kernel)
set_option maxRecDepth 20000 in
theorem gX7_read_X6_itemAt_n256 : GoodIn wsX7_read (wsX6_itemAt) := ggX7_read_X6_itemAt
theorem dX7_read_0 : decode cX7_read 0 = .ok (.aload_n 0, 1) := by decide +kernel
theorem dX7_read_1 : decode cX7_read 1 = .ok (.getfield 58, 3) := by decide +kernel
theorem dX7_read_4 : decode cX7_read 4 = .ok (.iload_n 1, 1) := by decide +kernel
theorem dX7_read_5 : decode cX7_read 5 = .ok (.invokevirtual 247, 3) := by decide +kernel
theorem dX7_read_8 : decode cX7_read 8 = .ok (.ifCond .eq 15, 3) := by decide +kernel
theorem dX7_read_11 : decode cX7_read 11 = .ok (.aload_n 0, 1) := by decide +kernel
theorem dX7_read_12 : decode cX7_read 12 = .ok (.getfield 58, 3) := by decide +kernel
theorem dX7_read_15 : decode cX7_read 15 = .ok (.iload_n 1, 1) := by decide +kernel
theorem dX7_read_16 : decode cX7_read 16 = .ok (.iload_n 2, 1) := by decide +kernel
theorem dX7_read_17 : decode cX7_read 17 = .ok (.invokevirtual 291, 3) := by decide +kernel
theorem dX7_read_20 : decode cX7_read 20 = .ok (.ifCond .ne 7, 3) := by decide +kernel
theorem dX7_read_23 : decode cX7_read 23 = .ok (.ldc2_w 217, 3) := by decide +kernel
theorem dX7_read_26 : decode cX7_read 26 = .ok (.lreturn, 1) := by decide +kernel
theorem dX7_read_27 : decode cX7_read 27 = .ok (.aload_n 0, 1) := by decide +kernel
theorem dX7_read_28 : decode cX7_read 28 = .ok (.getfield 58, 3) := by decide +kernel
theorem dX7_read_31 : decode cX7_read 31 = .ok (.iload_n 1, 1) := by decide +kernel
theorem dX7_read_32 : decode cX7_read 32 = .ok (.iload_n 2, 1) := by decide +kernel
theorem dX7_read_33 : decode cX7_read 33 = .ok (.invokevirtual 256, 3) := by decide +kernel
theorem dX7_read_36 : decode cX7_read 36 = .ok (.lreturn, 1) := by decide +kernel
set_option maxRecDepth 20000 in
theorem ggX7_shift_X6_hasTape : GoodIn wsX7_shift wsX6_hasTape := goodIn_r _ [5] (by decide +kernel) (by decide +kernel)
set_option maxRecDepth 20000 in
theorem gX7_shift_X6_hasTape_n247 : GoodIn wsX7_shift (wsX6_hasTape) := ggX7_shift_X6_hasTape
set_option maxRecDepth 20000 in
theorem ggX7_shift_X6_hasStretch : GoodIn wsX7_shift wsX6_hasStretch := goodIn_r _ [8, 9, 29, 30, 31] (by decide +kernel) (by decide +kernel)
set_option maxRecDepth 20000 in
theorem gX7_shift_X6_hasStretch_n298 : GoodIn wsX7_shift (wsX6_hasStretch) := ggX7_shift_X6_hasStretch
set_option maxRecDepth 20000 in
theorem ggX7_shift_X6_copyItems : GoodIn wsX7_shift wsX6_copyItems := goodIn_r _ [12, 13, 14, 15, 16, 17, 29, 30, 31] (by decide +kernel) (by decide +kernel)
set_option maxRecDepth 20000 in
theorem gX7_shift_X6_copyItems_n301 : GoodIn wsX7_shift (wsX6_copyItems) := ggX7_shift_X6_copyItems
theorem dX7_shift_0 : decode cX7_shift 0 = .ok (.aload_n 0, 1) := by decide +kernel
theorem dX7_shift_1 : decode cX7_shift 1 = .ok (.getfield 58, 3) := by decide +kernel
theorem dX7_shift_4 : decode cX7_shift 4 = .ok (.iload_n 1, 1) := by decide +kernel
theorem dX7_shift_5 : decode cX7_shift 5 = .ok (.invokevirtual 247, 3) := by decide +kernel
theorem dX7_shift_8 : decode cX7_shift 8 = .ok (.ifCond .eq 14, 3) := by decide +kernel
theorem dX7_shift_11 : decode cX7_shift 11 = .ok (.aload_n 0, 1) := by decide +kernel
theorem dX7_shift_12 : decode cX7_shift 12 = .ok (.getfield 58, 3) := by decide +kernel
theorem dX7_shift_15 : decode cX7_shift 15 = .ok (.iload_n 3, 1) := by decide +kernel
theorem dX7_shift_16 : decode cX7_shift 16 = .ok (.invokevirtual 247, 3) := by decide +kernel
theorem dX7_shift_19 : decode cX7_shift 19 = .ok (.ifCond .ne 5, 3) := by decide +kernel
theorem dX7_shift_22 : decode cX7_shift 22 = .ok (.iconst (-1), 1) := by decide +kernel
theorem dX7_shift_23 : decode cX7_shift 23 = .ok (.ireturn, 1) := by decide +kernel
theorem dX7_shift_24 : decode cX7_shift 24 = .ok (.aload_n 0, 1) := by decide +kernel
theorem dX7_shift_25 : decode cX7_shift 25 = .ok (.getfield 58, 3) := by decide +kernel
theorem dX7_shift_28 : decode cX7_shift 28 = .ok (.getfield 250, 3) := by decide +kernel
theorem dX7_shift_31 : decode cX7_shift 31 = .ok (.iload_n 1, 1) := by decide +kernel
theorem dX7_shift_32 : decode cX7_shift 32 = .ok (.iaload, 1) := by decide +kernel
theorem dX7_shift_33 : decode cX7_shift 33 = .ok (.iconst (-1), 1) := by decide +kernel
theorem dX7_shift_34 : decode cX7_shift 34 = .ok (.if_icmp .eq 16, 3) := by decide +kernel
theorem dX7_shift_37 : decode cX7_shift 37 = .ok (.aload_n 0, 1) := by decide +kernel
theorem dX7_shift_38 : decode cX7_shift 38 = .ok (.getfield 58, 3) := by decide +kernel
theorem dX7_shift_41 : decode cX7_shift 41 = .ok (.getfield 250, 3) := by decide +kernel
theorem dX7_shift_44 : decode cX7_shift 44 = .ok (.iload_n 3, 1) := by decide +kernel
theorem dX7_shift_45 : decode cX7_shift 45 = .ok (.iaload, 1) := by decide +kernel
theorem dX7_shift_46 : decode cX7_shift 46 = .ok (.iconst (-1), 1) := by decide +kernel
theorem dX7_shift_47 : decode cX7_shift 47 = .ok (.if_icmp .ne 6, 3) := by decide +kernel
theorem dX7_shift_50 : decode cX7_shift 50 = .ok (.bipush (-11), 2) := by decide +kernel
theorem dX7_shift_52 : decode cX7_shift 52 = .ok (.ireturn, 1) := by decide +kernel
theorem dX7_shift_53 : decode cX7_shift 53 = .ok (.aload_n 0, 1) := by decide +kernel
theorem dX7_shift_54 : decode cX7_shift 54 = .ok (.getfield 58, 3) := by decide +kernel
theorem dX7_shift_57 : decode cX7_shift 57 = .ok (.getfield 250, 3) := by decide +kernel
theorem dX7_shift_60 : decode cX7_shift 60 = .ok (.iload_n 1, 1) := by decide +kernel
theorem dX7_shift_61 : decode cX7_shift 61 = .ok (.iaload, 1) := by decide +kernel
theorem dX7_shift_62 : decode cX7_shift 62 = .ok (.aload_n 0, 1) := by decide +kernel
theorem dX7_shift_63 : decode cX7_shift 63 = .ok (.getfield 58, 3) := by decide +kernel
theorem dX7_shift_66 : decode cX7_shift 66 = .ok (.getfield 250, 3) := by decide +kernel
theorem dX7_shift_69 : decode cX7_shift 69 = .ok (.iload_n 3, 1) := by decide +kernel
theorem dX7_shift_70 : decode cX7_shift 70 = .ok (.iaload, 1) := by decide +kernel
theorem dX7_shift_71 : decode cX7_shift 71 = .ok (.if_icmp .eq 6, 3) := by decide +kernel
theorem dX7_shift_74 : decode cX7_shift 74 = .ok (.bipush (-12), 2) := by decide +kernel
theorem dX7_shift_76 : decode cX7_shift 76 = .ok (.ireturn, 1) := by decide +kernel
theorem dX7_shift_77 : decode cX7_shift 77 = .ok (.aload_n 0, 1) := by decide +kernel
theorem dX7_shift_78 : decode cX7_shift 78 = .ok (.getfield 58, 3) := by decide +kernel
theorem dX7_shift_81 : decode cX7_shift 81 = .ok (.iload_n 1, 1) := by decide +kernel
theorem dX7_shift_82 : decode cX7_shift 82 = .ok (.iload_n 2, 1) := by decide +kernel
theorem dX7_shift_83 : decode cX7_shift 83 = .ok (.iload 5, 2) := by decide +kernel
theorem dX7_shift_85 : decode cX7_shift 85 = .ok (.invokevirtual 298, 3) := by decide +kernel
theorem dX7_shift_88 : decode cX7_shift 88 = .ok (.ifCond .eq 18, 3) := by decide +kernel
theorem dX7_shift_91 : decode cX7_shift 91 = .ok (.aload_n 0, 1) := by decide +kernel
theorem dX7_shift_92 : decode cX7_shift 92 = .ok (.getfield 58, 3) := by decide +kernel
theorem dX7_shift_95 : decode cX7_shift 95 = .ok (.iload_n 3, 1) := by decide +kernel
theorem dX7_shift_96 : decode cX7_shift 96 = .ok (.iload 4, 2) := by decide +kernel
theorem dX7_shift_98 : decode cX7_shift 98 = .ok (.iload 5, 2) := by decide +kernel
theorem dX7_shift_100 : decode cX7_shift 100 = .ok (.invokevirtual 298, 3) := by decide +kernel
theorem dX7_shift_103 : decode cX7_shift 103 = .ok (.ifCond .ne 6, 3) := by decide +kernel
theorem dX7_shift_106 : decode cX7_shift 106 = .ok (.bipush (-13), 2) := by decide +kernel
theorem dX7_shift_108 : decode cX7_shift 108 = .ok (.ireturn, 1) := by decide +kernel
theorem dX7_shift_109 : decode cX7_shift 109 = .ok (.aload_n 0, 1) := by decide +kernel
theorem dX7_shift_110 : decode cX7_shift 110 = .ok (.getfield 58, 3) := by decide +kernel
theorem dX7_shift_113 : decode cX7_shift 113 = .ok (.iload_n 1, 1) := by decide +kernel
theorem dX7_shift_114 : decode cX7_shift 114 = .ok (.iload_n 2, 1) := by decide +kernel
theorem dX7_shift_115 : decode cX7_shift 115 = .ok (.iload_n 3, 1) := by decide +kernel
theorem dX7_shift_116 : decode cX7_shift 116 = .ok (.iload 4, 2) := by decide +kernel
theorem dX7_shift_118 : decode cX7_shift 118 = .ok (.iload 5, 2) := by decide +kernel
theorem dX7_shift_120 : decode cX7_shift 120 = .ok (.invokevirtual 301, 3) := by decide +kernel
theorem dX7_shift_123 : decode cX7_shift 123 = .ok (.iload 5, 2) := by decide +kernel
theorem dX7_shift_125 : decode cX7_shift 125 = .ok (.ireturn, 1) := by decide +kernel
theorem dX7_isWithin_0 : decode cX7_isWithin 0 = .ok (.iload_n 0, 1) := by decide +kernel
theorem dX7_isWithin_1 : decode cX7_isWithin 1 = .ok (.iload_n 1, 1) := by decide +kernel
theorem dX7_isWithin_2 : decode cX7_isWithin 2 = .ok (.if_icmp .lt 12, 3) := by decide +kernel
theorem dX7_isWithin_5 : decode cX7_isWithin 5 = .ok (.iload_n 0, 1) := by decide +kernel
theorem dX7_isWithin_6 : decode cX7_isWithin 6 = .ok (.iload_n 2, 1) := by decide +kernel
theorem dX7_isWithin_7 : decode cX7_isWithin 7 = .ok (.if_icmp .gt 7, 3) := by decide +kernel
theorem dX7_isWithin_10 : decode cX7_isWithin 10 = .ok (.iconst 1, 1) := by decide +kernel
theorem dX7_isWithin_11 : decode cX7_isWithin 11 = .ok (.goto 4, 3) := by decide +kernel
theorem dX7_isWithin_14 : decode cX7_isWithin 14 = .ok (.iconst 0, 1) := by decide +kernel
theorem dX7_isWithin_15 : decode cX7_isWithin 15 = .ok (.ireturn, 1) := by decide +kernel
theorem dX7_isUnder_0 : decode cX7_isUnder 0 = .ok (.iload_n 0, 1) := by decide +kernel
theorem dX7_isUnder_1 : decode cX7_isUnder 1 = .ok (.istore_n 2, 1) := by decide +kernel
theorem dX7_isUnder_2 : decode cX7_isUnder 2 = .ok (.iconst 0, 1) := by decide +kernel
theorem dX7_isUnder_3 : decode cX7_isUnder 3 = .ok (.istore_n 3, 1) := by decide +kernel
theorem dX7_isUnder_4 : decode cX7_isUnder 4 = .ok (.iload_n 3, 1) := by decide +kernel
theorem dX7_isUnder_5 : decode cX7_isUnder 5 = .ok (.getstatic 305, 3) := by decide +kernel
theorem dX7_isUnder_8 : decode cX7_isUnder 8 = .ok (.arraylength, 1) := by decide +kernel
theorem dX7_isUnder_9 : decode cX7_isUnder 9 = .ok (.if_icmp .ge 36, 3) := by decide +kernel
theorem dX7_isUnder_12 : decode cX7_isUnder 12 = .ok (.iload_n 2, 1) := by decide +kernel
theorem dX7_isUnder_13 : decode cX7_isUnder 13 = .ok (.iload_n 1, 1) := by decide +kernel
theorem dX7_isUnder_14 : decode cX7_isUnder 14 = .ok (.if_icmp .ne 5, 3) := by decide +kernel
theorem dX7_isUnder_17 : decode cX7_isUnder 17 = .ok (.iconst 1, 1) := by decide +kernel
theorem dX7_isUnder_18 : decode cX7_isUnder 18 = .ok (.ireturn, 1) := by decide +kernel
theorem dX7_isUnder_19 : decode cX7_isUnder 19 = .ok (.iload_n 2, 1) := by decide +kernel
theorem dX7_isUnder_20 : decode cX7_isUnder 20 = .ok (.ifCond .lt 11, 3) := by decide +kernel
theorem dX7_isUnder_23 : decode cX7_isUnder 23 = .ok (.iload_n 2, 1) := by decide +kernel
theorem dX7_isUnder_24 : decode cX7_isUnder 24 = .ok (.getstatic 305, 3) := by decide +kernel
theorem dX7_isUnder_27 : decode cX7_isUnder 27 = .ok (.arraylength, 1) := by decide +kernel
theorem dX7_isUnder_28 : decode cX7_isUnder 28 = .ok (.if_icmp .lt 5, 3) := by decide +kernel
theorem dX7_isUnder_31 : decode cX7_isUnder 31 = .ok (.iconst 0, 1) := by decide +kernel
theorem dX7_isUnder_32 : decode cX7_isUnder 32 = .ok (.ireturn, 1) := by decide +kernel
theorem dX7_isUnder_33 : decode cX7_isUnder 33 = .ok (.getstatic 305, 3) := by decide +kernel
theorem dX7_isUnder_36 : decode cX7_isUnder 36 = .ok (.iload_n 2, 1) := by decide +kernel
theorem dX7_isUnder_37 : decode cX7_isUnder 37 = .ok (.iaload, 1) := by decide +kernel
theorem dX7_isUnder_38 : decode cX7_isUnder 38 = .ok (.istore_n 2, 1) := by decide +kernel
theorem dX7_isUnder_39 : decode cX7_isUnder 39 = .ok (.iinc 3 1, 3) := by decide +kernel
theorem dX7_isUnder_42 : decode cX7_isUnder 42 = .ok (.goto (-38), 3) := by decide +kernel
theorem dX7_isUnder_45 : decode cX7_isUnder 45 = .ok (.iconst 0, 1) := by decide +kernel
theorem dX7_isUnder_46 : decode cX7_isUnder 46 = .ok (.ireturn, 1) := by decide +kernel
set_option maxRecDepth 20000 in
theorem ggX7_partOfFraction_X7_isWithin : GoodIn wsX7_partOfFraction wsX7_isWithin := goodIn_r _ [5] (by decide +kernel) (by decide +kernel)
set_option maxRecDepth 20000 in
theorem gX7_partOfFraction_X7_isWithin : GoodIn wsX7_partOfFraction (va_wsS RX7 62 yX7_isWithin wsX7_isWithin) := goodIn_app (goodIn_of _ (by decide +kernel)) ggX7_partOfFraction_X7_isWithin
set_option maxRecDepth 20000 in
theorem ggX7_partOfFraction_X7_greatestDivisor : GoodIn wsX7_partOfFraction wsX7_greatestDivisor := goodIn_r _ [8] (by decide +kernel) (by decide +kernel)
set_option maxRecDepth 20000 in
theorem gX7_partOfFraction_X7_greatestDivisor : GoodIn wsX7_partOfFraction (va_wsS RX7 308 yX7_greatestDivisor wsX7_greatestDivisor) := goodIn_app (goodIn_of _ (by decide +kernel)) ggX7_partOfFraction_X7_greatestDivisor
theorem dX7_partOfFraction_0 : decode cX7_partOfFraction 0 = .ok (.iload_n 1, 1) := by decide +kernel
theorem dX7_partOfFraction_1 : decode cX7_partOfFraction 1 = .ok (.ifCond .le 12, 3) := by decide +kernel
theorem dX7_partOfFraction_4 : decode cX7_partOfFraction 4 = .ok (.iload_n 2, 1) := by decide +kernel
theorem dX7_partOfFraction_5 : decode cX7_partOfFraction 5 = .ok (.iconst 0, 1) := by decide +kernel
theorem dX7_partOfFraction_6 : decode cX7_partOfFraction 6 = .ok (.iconst 1, 1) := by decide +kernel
theorem dX7_partOfFraction_7 : decode cX7_partOfFraction 7 = .ok (.invokestatic 62, 3) := by decide +kernel
theorem dX7_partOfFraction_10 : decode cX7_partOfFraction 10 = .ok (.ifCond .ne 7, 3) := by decide +kernel
theorem dX7_partOfFraction_13 : decode cX7_partOfFraction 13 = .ok (.ldc2_w 217, 3) := by decide +kernel
theorem dX7_partOfFraction_16 : decode cX7_partOfFraction 16 = .ok (.lreturn, 1) := by decide +kernel
theorem dX7_partOfFraction_17 : decode cX7_partOfFraction 17 = .ok (.iload_n 0, 1) := by decide +kernel
theorem dX7_partOfFraction_18 : decode cX7_partOfFraction 18 = .ok (.iload_n 1, 1) := by decide +kernel
theorem dX7_partOfFraction_19 : decode cX7_partOfFraction 19 = .ok (.invokestatic 308, 3) := by decide +kernel
theorem dX7_partOfFraction_22 : decode cX7_partOfFraction 22 = .ok (.istore_n 3, 1) := by decide +kernel
theorem dX7_partOfFraction_23 : decode cX7_partOfFraction 23 = .ok (.iload_n 3, 1) := by decide +kernel
theorem dX7_partOfFraction_24 : decode cX7_partOfFraction 24 = .ok (.ifCond .gt 7, 3) := by decide +kernel
theorem dX7_partOfFraction_27 : decode cX7_partOfFraction 27 = .ok (.ldc2_w 217, 3) := by decide +kernel
theorem dX7_partOfFraction_30 : decode cX7_partOfFraction 30 = .ok (.lreturn, 1) := by decide +kernel
theorem dX7_partOfFraction_31 : decode cX7_partOfFraction 31 = .ok (.iload_n 2, 1) := by decide +kernel
theorem dX7_partOfFraction_32 : decode cX7_partOfFraction 32 = .ok (.ifCond .ne 10, 3) := by decide +kernel
theorem dX7_partOfFraction_35 : decode cX7_partOfFraction 35 = .ok (.iload_n 0, 1) := by decide +kernel
theorem dX7_partOfFraction_36 : decode cX7_partOfFraction 36 = .ok (.iload_n 3, 1) := by decide +kernel
theorem dX7_partOfFraction_37 : decode cX7_partOfFraction 37 = .ok (.idiv, 1) := by decide +kernel
theorem dX7_partOfFraction_38 : decode cX7_partOfFraction 38 = .ok (.i2l, 1) := by decide +kernel
theorem dX7_partOfFraction_39 : decode cX7_partOfFraction 39 = .ok (.goto 7, 3) := by decide +kernel
theorem dX7_partOfFraction_42 : decode cX7_partOfFraction 42 = .ok (.iload_n 1, 1) := by decide +kernel
theorem dX7_partOfFraction_43 : decode cX7_partOfFraction 43 = .ok (.iload_n 3, 1) := by decide +kernel
theorem dX7_partOfFraction_44 : decode cX7_partOfFraction 44 = .ok (.idiv, 1) := by decide +kernel
theorem dX7_partOfFraction_45 : decode cX7_partOfFraction 45 = .ok (.i2l, 1) := by decide +kernel
theorem dX7_partOfFraction_46 : decode cX7_partOfFraction 46 = .ok (.lreturn, 1) := by decide +kernel
theorem dX7_greatestDivisor_0 : decode cX7_greatestDivisor 0 = .ok (.iload_n 0, 1) := by decide +kernel
theorem dX7_greatestDivisor_1 : decode cX7_greatestDivisor 1 = .ok (.istore_n 2, 1) := by decide +kernel
theorem dX7_greatestDivisor_2 : decode cX7_greatestDivisor 2 = .ok (.iload_n 1, 1) := by decide +kernel
theorem dX7_greatestDivisor_3 : decode cX7_greatestDivisor 3 = .ok (.istore_n 3, 1) := by decide +kernel
theorem dX7_greatestDivisor_4 : decode cX7_greatestDivisor 4 = .ok (.iconst 0, 1) := by decide +kernel
theorem dX7_greatestDivisor_5 : decode cX7_greatestDivisor 5 = .ok (.istore 4, 2) := by decide +kernel
theorem dX7_greatestDivisor_7 : decode cX7_greatestDivisor 7 = .ok (.iload 4, 2) := by decide +kernel
theorem dX7_greatestDivisor_9 : decode cX7_greatestDivisor 9 = .ok (.bipush 100, 2) := by decide +kernel
theorem dX7_greatestDivisor_11 : decode cX7_greatestDivisor 11 = .ok (.if_icmp .ge 23, 3) := by decide +kernel
theorem dX7_greatestDivisor_14 : decode cX7_greatestDivisor 14 = .ok (.iload_n 3, 1) := by decide +kernel
theorem dX7_greatestDivisor_15 : decode cX7_greatestDivisor 15 = .ok (.ifCond .eq 19, 3) := by decide +kernel
theorem dX7_greatestDivisor_18 : decode cX7_greatestDivisor 18 = .ok (.iload_n 2, 1) := by decide +kernel
theorem dX7_greatestDivisor_19 : decode cX7_greatestDivisor 19 = .ok (.iload_n 3, 1) := by decide +kernel
theorem dX7_greatestDivisor_20 : decode cX7_greatestDivisor 20 = .ok (.irem, 1) := by decide +kernel
theorem dX7_greatestDivisor_21 : decode cX7_greatestDivisor 21 = .ok (.istore 5, 2) := by decide +kernel
theorem dX7_greatestDivisor_23 : decode cX7_greatestDivisor 23 = .ok (.iload_n 3, 1) := by decide +kernel
theorem dX7_greatestDivisor_24 : decode cX7_greatestDivisor 24 = .ok (.istore_n 2, 1) := by decide +kernel
theorem dX7_greatestDivisor_25 : decode cX7_greatestDivisor 25 = .ok (.iload 5, 2) := by decide +kernel
theorem dX7_greatestDivisor_27 : decode cX7_greatestDivisor 27 = .ok (.istore_n 3, 1) := by decide +kernel
theorem dX7_greatestDivisor_28 : decode cX7_greatestDivisor 28 = .ok (.iinc 4 1, 3) := by decide +kernel
theorem dX7_greatestDivisor_31 : decode cX7_greatestDivisor 31 = .ok (.goto (-24), 3) := by decide +kernel
theorem dX7_greatestDivisor_34 : decode cX7_greatestDivisor 34 = .ok (.iload_n 2, 1) := by decide +kernel
theorem dX7_greatestDivisor_35 : decode cX7_greatestDivisor 35 = .ok (.ireturn, 1) := by decide +kernel
set_option maxRecDepth 20000 in
theorem ggX7_twinsNow_J6_bitCount_0f7a4 : GoodIn wsX7_twinsNow wsJ6_bitCount_0f7a4 := goodIn_r _ [5, 6, 7, 8] (by decide +kernel) (by decide +kernel)
set_option maxRecDepth 20000 in
theorem gX7_twinsNow_J6_bitCount_0f7a4 : GoodIn wsX7_twinsNow (va_wsS RX7 223 yJ6_bitCount_0f7a4 wsJ6_bitCount_0f7a4) := goodIn_app (goodIn_of _ (by decide +kernel)) ggX7_twinsNow_J6_bitCount_0f7a4
theorem dX7_twinsNow_0 : decode cX7_twinsNow 0 = .ok (.bipush (-5), 2) := by decide +kernel
theorem dX7_twinsNow_2 : decode cX7_twinsNow 2 = .ok (.istore_n 1, 1) := by decide +kernel
theorem dX7_twinsNow_3 : decode cX7_twinsNow 3 = .ok (.sipush 255, 3) := by decide +kernel
theorem dX7_twinsNow_6 : decode cX7_twinsNow 6 = .ok (.istore_n 2, 1) := by decide +kernel
theorem dX7_twinsNow_7 : decode cX7_twinsNow 7 = .ok (.iconst 0, 1) := by decide +kernel
theorem dX7_twinsNow_8 : decode cX7_twinsNow 8 = .ok (.istore_n 3, 1) := by decide +kernel
theorem dX7_twinsNow_9 : decode cX7_twinsNow 9 = .ok (.iload_n 3, 1) := by decide +kernel
theorem dX7_twinsNow_10 : decode cX7_twinsNow 10 = .ok (.aload_n 0, 1) := by decide +kernel
theorem dX7_twinsNow_11 : decode cX7_twinsNow 11 = .ok (.getfield 12, 3) := by decide +kernel
theorem dX7_twinsNow_14 : decode cX7_twinsNow 14 = .ok (.getfield 66, 3) := by decide +kernel
theorem dX7_twinsNow_17 : decode cX7_twinsNow 17 = .ok (.if_icmp .ge 74, 3) := by decide +kernel
theorem dX7_twinsNow_20 : decode cX7_twinsNow 20 = .ok (.iload_n 3, 1) := by decide +kernel
theorem dX7_twinsNow_21 : decode cX7_twinsNow 21 = .ok (.iconst 1, 1) := by decide +kernel
theorem dX7_twinsNow_22 : decode cX7_twinsNow 22 = .ok (.iadd, 1) := by decide +kernel
theorem dX7_twinsNow_23 : decode cX7_twinsNow 23 = .ok (.istore 4, 2) := by decide +kernel
theorem dX7_twinsNow_25 : decode cX7_twinsNow 25 = .ok (.iload 4, 2) := by decide +kernel
theorem dX7_twinsNow_27 : decode cX7_twinsNow 27 = .ok (.aload_n 0, 1) := by decide +kernel
theorem dX7_twinsNow_28 : decode cX7_twinsNow 28 = .ok (.getfield 12, 3) := by decide +kernel
theorem dX7_twinsNow_31 : decode cX7_twinsNow 31 = .ok (.getfield 66, 3) := by decide +kernel
theorem dX7_twinsNow_34 : decode cX7_twinsNow 34 = .ok (.if_icmp .ge 51, 3) := by decide +kernel
theorem dX7_twinsNow_37 : decode cX7_twinsNow 37 = .ok (.aload_n 0, 1) := by decide +kernel
theorem dX7_twinsNow_38 : decode cX7_twinsNow 38 = .ok (.getfield 12, 3) := by decide +kernel
theorem dX7_twinsNow_41 : decode cX7_twinsNow 41 = .ok (.getfield 85, 3) := by decide +kernel
theorem dX7_twinsNow_44 : decode cX7_twinsNow 44 = .ok (.iload_n 3, 1) := by decide +kernel
theorem dX7_twinsNow_45 : decode cX7_twinsNow 45 = .ok (.iaload, 1) := by decide +kernel
theorem dX7_twinsNow_46 : decode cX7_twinsNow 46 = .ok (.aload_n 0, 1) := by decide +kernel
theorem dX7_twinsNow_47 : decode cX7_twinsNow 47 = .ok (.getfield 12, 3) := by decide +kernel
theorem dX7_twinsNow_50 : decode cX7_twinsNow 50 = .ok (.getfield 85, 3) := by decide +kernel
theorem dX7_twinsNow_53 : decode cX7_twinsNow 53 = .ok (.iload 4, 2) := by decide +kernel
theorem dX7_twinsNow_55 : decode cX7_twinsNow 55 = .ok (.iaload, 1) := by decide +kernel
theorem dX7_twinsNow_56 : decode cX7_twinsNow 56 = .ok (.ixor, 1) := by decide +kernel
theorem dX7_twinsNow_57 : decode cX7_twinsNow 57 = .ok (.invokestatic 223, 3) := by decide +kernel
theorem dX7_twinsNow_60 : decode cX7_twinsNow 60 = .ok (.istore 5, 2) := by decide +kernel
theorem dX7_twinsNow_62 : decode cX7_twinsNow 62 = .ok (.iload 5, 2) := by decide +kernel
theorem dX7_twinsNow_64 : decode cX7_twinsNow 64 = .ok (.iload_n 2, 1) := by decide +kernel
theorem dX7_twinsNow_65 : decode cX7_twinsNow 65 = .ok (.if_icmp .ge 14, 3) := by decide +kernel
theorem dX7_twinsNow_68 : decode cX7_twinsNow 68 = .ok (.iload 5, 2) := by decide +kernel
theorem dX7_twinsNow_70 : decode cX7_twinsNow 70 = .ok (.istore_n 2, 1) := by decide +kernel
theorem dX7_twinsNow_71 : decode cX7_twinsNow 71 = .ok (.bipush 10, 2) := by decide +kernel
theorem dX7_twinsNow_73 : decode cX7_twinsNow 73 = .ok (.iload_n 3, 1) := by decide +kernel
theorem dX7_twinsNow_74 : decode cX7_twinsNow 74 = .ok (.imul, 1) := by decide +kernel
theorem dX7_twinsNow_75 : decode cX7_twinsNow 75 = .ok (.iload 4, 2) := by decide +kernel
theorem dX7_twinsNow_77 : decode cX7_twinsNow 77 = .ok (.iadd, 1) := by decide +kernel
theorem dX7_twinsNow_78 : decode cX7_twinsNow 78 = .ok (.istore_n 1, 1) := by decide +kernel
theorem dX7_twinsNow_79 : decode cX7_twinsNow 79 = .ok (.iinc 4 1, 3) := by decide +kernel
theorem dX7_twinsNow_82 : decode cX7_twinsNow 82 = .ok (.goto (-57), 3) := by decide +kernel
theorem dX7_twinsNow_85 : decode cX7_twinsNow 85 = .ok (.iinc 3 1, 3) := by decide +kernel
theorem dX7_twinsNow_88 : decode cX7_twinsNow 88 = .ok (.goto (-79), 3) := by decide +kernel
theorem dX7_twinsNow_91 : decode cX7_twinsNow 91 = .ok (.iload_n 1, 1) := by decide +kernel
theorem dX7_twinsNow_92 : decode cX7_twinsNow 92 = .ok (.ireturn, 1) := by decide +kernel
set_option maxRecDepth 20000 in
theorem ggX7_coverNow_X2_marksOf : GoodIn wsX7_coverNow wsX2_marksOf := goodIn_r _ [5, 6, 7, 26, 27, 28, 29, 30, 31, 32, 33, 34, 35, 36] (by decide +kernel) (by decide +kernel)
set_option maxRecDepth 20000 in
theorem gX7_coverNow_X2_marksOf_n167 : GoodIn wsX7_coverNow (wsX2_marksOf) := ggX7_coverNow_X2_marksOf
set_option maxRecDepth 20000 in
theorem ggX7_coverNow_J6_bitCount_0f7a4 : GoodIn wsX7_coverNow wsJ6_bitCount_0f7a4 := goodIn_r _ [11, 12, 13, 14] (by decide +kernel) (by decide +kernel)
set_option maxRecDepth 20000 in
theorem gX7_coverNow_J6_bitCount_0f7a4 : GoodIn wsX7_coverNow (va_wsS RX7 223 yJ6_bitCount_0f7a4 wsJ6_bitCount_0f7a4) := goodIn_app (goodIn_of _ (by decide +kernel)) ggX7_coverNow_J6_bitCount_0f7a4
theorem dX7_coverNow_0 : decode cX7_coverNow 0 = .ok (.iconst 1, 1) := by decide +kernel
theorem dX7_coverNow_1 : decode cX7_coverNow 1 = .ok (.aload_n 0, 1) := by decide +kernel
theorem dX7_coverNow_2 : decode cX7_coverNow 2 = .ok (.getfield 12, 3) := by decide +kernel
theorem dX7_coverNow_5 : decode cX7_coverNow 5 = .ok (.getfield 66, 3) := by decide +kernel
theorem dX7_coverNow_8 : decode cX7_coverNow 8 = .ok (.ishl, 1) := by decide +kernel
theorem dX7_coverNow_9 : decode cX7_coverNow 9 = .ok (.iconst 1, 1) := by decide +kernel
theorem dX7_coverNow_10 : decode cX7_coverNow 10 = .ok (.isub, 1) := by decide +kernel
theorem dX7_coverNow_11 : decode cX7_coverNow 11 = .ok (.istore_n 1, 1) := by decide +kernel
theorem dX7_coverNow_12 : decode cX7_coverNow 12 = .ok (.aload_n 0, 1) := by decide +kernel
theorem dX7_coverNow_13 : decode cX7_coverNow 13 = .ok (.getfield 12, 3) := by decide +kernel
theorem dX7_coverNow_16 : decode cX7_coverNow 16 = .ok (.iload_n 1, 1) := by decide +kernel
theorem dX7_coverNow_17 : decode cX7_coverNow 17 = .ok (.invokevirtual 167, 3) := by decide +kernel
theorem dX7_coverNow_20 : decode cX7_coverNow 20 = .ok (.istore_n 2, 1) := by decide +kernel
theorem dX7_coverNow_21 : decode cX7_coverNow 21 = .ok (.iload_n 1, 1) := by decide +kernel
theorem dX7_coverNow_22 : decode cX7_coverNow 22 = .ok (.istore_n 3, 1) := by decide +kernel
theorem dX7_coverNow_23 : decode cX7_coverNow 23 = .ok (.iconst 0, 1) := by decide +kernel
theorem dX7_coverNow_24 : decode cX7_coverNow 24 = .ok (.istore 4, 2) := by decide +kernel
theorem dX7_coverNow_26 : decode cX7_coverNow 26 = .ok (.iload 4, 2) := by decide +kernel
theorem dX7_coverNow_28 : decode cX7_coverNow 28 = .ok (.iload_n 1, 1) := by decide +kernel
theorem dX7_coverNow_29 : decode cX7_coverNow 29 = .ok (.if_icmp .ge 49, 3) := by decide +kernel
theorem dX7_coverNow_32 : decode cX7_coverNow 32 = .ok (.iload 4, 2) := by decide +kernel
theorem dX7_coverNow_34 : decode cX7_coverNow 34 = .ok (.invokestatic 223, 3) := by decide +kernel
theorem dX7_coverNow_37 : decode cX7_coverNow 37 = .ok (.iload_n 3, 1) := by decide +kernel
theorem dX7_coverNow_38 : decode cX7_coverNow 38 = .ok (.invokestatic 223, 3) := by decide +kernel
theorem dX7_coverNow_41 : decode cX7_coverNow 41 = .ok (.if_icmp .ge 7, 3) := by decide +kernel
theorem dX7_coverNow_44 : decode cX7_coverNow 44 = .ok (.iconst 1, 1) := by decide +kernel
theorem dX7_coverNow_45 : decode cX7_coverNow 45 = .ok (.goto 4, 3) := by decide +kernel
theorem dX7_coverNow_48 : decode cX7_coverNow 48 = .ok (.iconst 0, 1) := by decide +kernel
theorem dX7_coverNow_49 : decode cX7_coverNow 49 = .ok (.istore 5, 2) := by decide +kernel
theorem dX7_coverNow_51 : decode cX7_coverNow 51 = .ok (.iload 5, 2) := by decide +kernel
theorem dX7_coverNow_53 : decode cX7_coverNow 53 = .ok (.ifCond .eq 19, 3) := by decide +kernel
theorem dX7_coverNow_56 : decode cX7_coverNow 56 = .ok (.aload_n 0, 1) := by decide +kernel
theorem dX7_coverNow_57 : decode cX7_coverNow 57 = .ok (.getfield 12, 3) := by decide +kernel
theorem dX7_coverNow_60 : decode cX7_coverNow 60 = .ok (.iload 4, 2) := by decide +kernel
theorem dX7_coverNow_62 : decode cX7_coverNow 62 = .ok (.invokevirtual 167, 3) := by decide +kernel
theorem dX7_coverNow_65 : decode cX7_coverNow 65 = .ok (.iload_n 2, 1) := by decide +kernel
theorem dX7_coverNow_66 : decode cX7_coverNow 66 = .ok (.if_icmp .ne 6, 3) := by decide +kernel
theorem dX7_coverNow_69 : decode cX7_coverNow 69 = .ok (.iload 4, 2) := by decide +kernel
theorem dX7_coverNow_71 : decode cX7_coverNow 71 = .ok (.istore_n 3, 1) := by decide +kernel
theorem dX7_coverNow_72 : decode cX7_coverNow 72 = .ok (.iinc 4 1, 3) := by decide +kernel
theorem dX7_coverNow_75 : decode cX7_coverNow 75 = .ok (.goto (-49), 3) := by decide +kernel
theorem dX7_coverNow_78 : decode cX7_coverNow 78 = .ok (.iload_n 3, 1) := by decide +kernel
theorem dX7_coverNow_79 : decode cX7_coverNow 79 = .ok (.ireturn, 1) := by decide +kernel
set_option maxRecDepth 20000 in
theorem ggX7_bestStart_X2_becomeAs : GoodIn wsX7_bestStart wsX2_becomeAs := goodIn_r _ [7, 8, 9, 10, 11, 12, 13, 14, 15, 16, 17, 18, 19, 20, 21, 114, 115, 116, 117, 118, 119, 120, 121, 122, 123, 124] (by decide +kernel) (by decide +kernel)
set_option maxRecDepth 20000 in
theorem gX7_bestStart_X2_becomeAs_n179 : GoodIn wsX7_bestStart (wsX2_becomeAs) := ggX7_bestStart_X2_becomeAs
set_option maxRecDepth 20000 in
theorem ggX7_bestStart_X3_longestRow : GoodIn wsX7_bestStart wsX3_longestRow := goodIn_r _ [25, 26, 27, 28, 29, 30, 31, 5, 32, 33, 21, 34, 35, 36, 23, 37, 38, 39, 40, 41, 18, 17, 9, 15, 14, 20, 16, 42, 43, 44, 45, 19, 46, 47, 48, 49, 50, 51, 52, 53, 54, 8, 55, 56, 57, 58, 59, 60, 61, 62, 63, 64, 65, 66, 67, 68, 69, 70, 71, 72, 73, 74, 75, 76, 77, 78, 79, 80, 81, 82, 83, 84, 85, 86, 87, 88, 89, 90, 91, 92, 11, 12, 13, 93, 94, 95, 96, 97, 98, 110, 111, 112, 113, 114, 115, 116, 117, 118, 119, 120, 121, 122, 123, 124, 125, 126, 127] (by decide +kernel) (by decide +kernel)
set_option maxRecDepth 20000 in
theorem gX7_bestStart_X3_longestRow_n189 : GoodIn wsX7_bestStart (wsX3_longestRow) := ggX7_bestStart_X3_longestRow
theorem dX7_bestStart_0 : decode cX7_bestStart 0 = .ok (.aload_n 0, 1) := by decide +kernel
theorem dX7_bestStart_1 : decode cX7_bestStart 1 = .ok (.getfield 18, 3) := by decide +kernel
theorem dX7_bestStart_4 : decode cX7_bestStart 4 = .ok (.aload_n 0, 1) := by decide +kernel
theorem dX7_bestStart_5 : decode cX7_bestStart 5 = .ok (.getfield 12, 3) := by decide +kernel
theorem dX7_bestStart_8 : decode cX7_bestStart 8 = .ok (.invokevirtual 179, 3) := by decide +kernel
theorem dX7_bestStart_11 : decode cX7_bestStart 11 = .ok (.aload_n 0, 1) := by decide +kernel
theorem dX7_bestStart_12 : decode cX7_bestStart 12 = .ok (.getfield 44, 3) := by decide +kernel
theorem dX7_bestStart_15 : decode cX7_bestStart 15 = .ok (.aload_n 0, 1) := by decide +kernel
theorem dX7_bestStart_16 : decode cX7_bestStart 16 = .ok (.getfield 18, 3) := by decide +kernel
theorem dX7_bestStart_19 : decode cX7_bestStart 19 = .ok (.invokevirtual 189, 3) := by decide +kernel
theorem dX7_bestStart_22 : decode cX7_bestStart 22 = .ok (.ifCond .le 15, 3) := by decide +kernel
theorem dX7_bestStart_25 : decode cX7_bestStart 25 = .ok (.aload_n 0, 1) := by decide +kernel
theorem dX7_bestStart_26 : decode cX7_bestStart 26 = .ok (.getfield 44, 3) := by decide +kernel
theorem dX7_bestStart_29 : decode cX7_bestStart 29 = .ok (.getfield 193, 3) := by decide +kernel
theorem dX7_bestStart_32 : decode cX7_bestStart 32 = .ok (.iconst 0, 1) := by decide +kernel
theorem dX7_bestStart_33 : decode cX7_bestStart 33 = .ok (.iaload, 1) := by decide +kernel
theorem dX7_bestStart_34 : decode cX7_bestStart 34 = .ok (.goto 5, 3) := by decide +kernel
theorem dX7_bestStart_37 : decode cX7_bestStart 37 = .ok (.bipush (-5), 2) := by decide +kernel
theorem dX7_bestStart_39 : decode cX7_bestStart 39 = .ok (.ireturn, 1) := by decide +kernel
set_option maxRecDepth 20000 in
theorem ggX7_bestBack_X2_becomeAs : GoodIn wsX7_bestBack wsX2_becomeAs := goodIn_r _ [7, 8, 9, 10, 11, 12, 13, 14, 15, 16, 17, 18, 19, 20, 21, 113, 114, 115, 116, 117, 118, 119, 120, 121, 122, 123] (by decide +kernel) (by decide +kernel)
set_option maxRecDepth 20000 in
theorem gX7_bestBack_X2_becomeAs_n179 : GoodIn wsX7_bestBack (wsX2_becomeAs) := ggX7_bestBack_X2_becomeAs
set_option maxRecDepth 20000 in
theorem ggX7_bestBack_X3_longestRow : GoodIn wsX7_bestBack wsX3_longestRow := goodIn_r _ [25, 26, 27, 28, 29, 30, 31, 5, 32, 33, 21, 34, 35, 36, 23, 37, 38, 39, 40, 41, 18, 17, 9, 15, 14, 20, 16, 42, 43, 44, 45, 19, 46, 47, 48, 49, 50, 51, 52, 53, 54, 8, 55, 56, 57, 58, 59, 60, 61, 62, 63, 64, 65, 66, 67, 68, 69, 70, 71, 72, 73, 74, 75, 76, 77, 78, 79, 80, 81, 82, 83, 84, 85, 86, 87, 88, 89, 90, 91, 92, 11, 12, 13, 93, 94, 95, 96, 97, 98, 124, 125, 126, 127, 113, 114, 115, 116, 117, 118, 119, 120, 121, 122, 123, 128, 129, 130] (by decide +kernel) (by decide +kernel)
set_option maxRecDepth 20000 in
theorem gX7_bestBack_X3_longestRow_n189 : GoodIn wsX7_bestBack (wsX3_longestRow) := ggX7_bestBack_X3_longestRow
set_option maxRecDepth 20000 in
theorem ggX7_bestBack_X2_isHad : GoodIn wsX7_bestBack wsX2_isHad := goodIn_r _ [45, 19, 113, 114, 115, 116, 117, 118, 119, 120, 121, 122, 123] (by decide +kernel) (by decide +kernel)
set_option maxRecDepth 20000 in
theorem gX7_bestBack_X2_isHad_n186 : GoodIn wsX7_bestBack (wsX2_isHad) := ggX7_bestBack_X2_isHad
set_option maxRecDepth 20000 in
theorem ggX7_bestBack_X2_layDown : GoodIn wsX7_bestBack wsX2_layDown := goodIn_r _ [101, 18, 17, 19, 113, 114, 115, 116, 117, 118, 119, 120, 121, 122, 123] (by decide +kernel) (by decide +kernel)
set_option maxRecDepth 20000 in
theorem gX7_bestBack_X2_layDown_n311 : GoodIn wsX7_bestBack (wsX2_layDown) := ggX7_bestBack_X2_layDown
theorem dX7_bestBack_0 : decode cX7_bestBack 0 = .ok (.aload_n 0, 1) := by decide +kernel
theorem dX7_bestBack_1 : decode cX7_bestBack 1 = .ok (.getfield 18, 3) := by decide +kernel
theorem dX7_bestBack_4 : decode cX7_bestBack 4 = .ok (.aload_n 0, 1) := by decide +kernel
theorem dX7_bestBack_5 : decode cX7_bestBack 5 = .ok (.getfield 12, 3) := by decide +kernel
theorem dX7_bestBack_8 : decode cX7_bestBack 8 = .ok (.invokevirtual 179, 3) := by decide +kernel
theorem dX7_bestBack_11 : decode cX7_bestBack 11 = .ok (.aload_n 0, 1) := by decide +kernel
theorem dX7_bestBack_12 : decode cX7_bestBack 12 = .ok (.getfield 12, 3) := by decide +kernel
theorem dX7_bestBack_15 : decode cX7_bestBack 15 = .ok (.getfield 108, 3) := by decide +kernel
theorem dX7_bestBack_18 : decode cX7_bestBack 18 = .ok (.aload_n 0, 1) := by decide +kernel
theorem dX7_bestBack_19 : decode cX7_bestBack 19 = .ok (.getfield 44, 3) := by decide +kernel
theorem dX7_bestBack_22 : decode cX7_bestBack 22 = .ok (.aload_n 0, 1) := by decide +kernel
theorem dX7_bestBack_23 : decode cX7_bestBack 23 = .ok (.getfield 18, 3) := by decide +kernel
theorem dX7_bestBack_26 : decode cX7_bestBack 26 = .ok (.invokevirtual 189, 3) := by decide +kernel
theorem dX7_bestBack_29 : decode cX7_bestBack 29 = .ok (.iadd, 1) := by decide +kernel
theorem dX7_bestBack_30 : decode cX7_bestBack 30 = .ok (.istore_n 1, 1) := by decide +kernel
theorem dX7_bestBack_31 : decode cX7_bestBack 31 = .ok (.bipush (-5), 2) := by decide +kernel
theorem dX7_bestBack_33 : decode cX7_bestBack 33 = .ok (.istore_n 2, 1) := by decide +kernel
theorem dX7_bestBack_34 : decode cX7_bestBack 34 = .ok (.iconst 0, 1) := by decide +kernel
theorem dX7_bestBack_35 : decode cX7_bestBack 35 = .ok (.istore_n 3, 1) := by decide +kernel
theorem dX7_bestBack_36 : decode cX7_bestBack 36 = .ok (.iload_n 3, 1) := by decide +kernel
theorem dX7_bestBack_37 : decode cX7_bestBack 37 = .ok (.aload_n 0, 1) := by decide +kernel
theorem dX7_bestBack_38 : decode cX7_bestBack 38 = .ok (.getfield 12, 3) := by decide +kernel
theorem dX7_bestBack_41 : decode cX7_bestBack 41 = .ok (.getfield 66, 3) := by decide +kernel
theorem dX7_bestBack_44 : decode cX7_bestBack 44 = .ok (.if_icmp .ge 71, 3) := by decide +kernel
theorem dX7_bestBack_47 : decode cX7_bestBack 47 = .ok (.aload_n 0, 1) := by decide +kernel
theorem dX7_bestBack_48 : decode cX7_bestBack 48 = .ok (.getfield 12, 3) := by decide +kernel
theorem dX7_bestBack_51 : decode cX7_bestBack 51 = .ok (.iload_n 3, 1) := by decide +kernel
theorem dX7_bestBack_52 : decode cX7_bestBack 52 = .ok (.invokevirtual 186, 3) := by decide +kernel
theorem dX7_bestBack_55 : decode cX7_bestBack 55 = .ok (.ifCond .eq 54, 3) := by decide +kernel
theorem dX7_bestBack_58 : decode cX7_bestBack 58 = .ok (.aload_n 0, 1) := by decide +kernel
theorem dX7_bestBack_59 : decode cX7_bestBack 59 = .ok (.getfield 18, 3) := by decide +kernel
theorem dX7_bestBack_62 : decode cX7_bestBack 62 = .ok (.aload_n 0, 1) := by decide +kernel
theorem dX7_bestBack_63 : decode cX7_bestBack 63 = .ok (.getfield 12, 3) := by decide +kernel
theorem dX7_bestBack_66 : decode cX7_bestBack 66 = .ok (.invokevirtual 179, 3) := by decide +kernel
theorem dX7_bestBack_69 : decode cX7_bestBack 69 = .ok (.aload_n 0, 1) := by decide +kernel
theorem dX7_bestBack_70 : decode cX7_bestBack 70 = .ok (.getfield 18, 3) := by decide +kernel
theorem dX7_bestBack_73 : decode cX7_bestBack 73 = .ok (.iload_n 3, 1) := by decide +kernel
theorem dX7_bestBack_74 : decode cX7_bestBack 74 = .ok (.invokevirtual 311, 3) := by decide +kernel
theorem dX7_bestBack_77 : decode cX7_bestBack 77 = .ok (.aload_n 0, 1) := by decide +kernel
theorem dX7_bestBack_78 : decode cX7_bestBack 78 = .ok (.getfield 18, 3) := by decide +kernel
theorem dX7_bestBack_81 : decode cX7_bestBack 81 = .ok (.getfield 108, 3) := by decide +kernel
theorem dX7_bestBack_84 : decode cX7_bestBack 84 = .ok (.aload_n 0, 1) := by decide +kernel
theorem dX7_bestBack_85 : decode cX7_bestBack 85 = .ok (.getfield 44, 3) := by decide +kernel
theorem dX7_bestBack_88 : decode cX7_bestBack 88 = .ok (.aload_n 0, 1) := by decide +kernel
theorem dX7_bestBack_89 : decode cX7_bestBack 89 = .ok (.getfield 18, 3) := by decide +kernel
theorem dX7_bestBack_92 : decode cX7_bestBack 92 = .ok (.invokevirtual 189, 3) := by decide +kernel
theorem dX7_bestBack_95 : decode cX7_bestBack 95 = .ok (.iadd, 1) := by decide +kernel
theorem dX7_bestBack_96 : decode cX7_bestBack 96 = .ok (.istore 4, 2) := by decide +kernel
theorem dX7_bestBack_98 : decode cX7_bestBack 98 = .ok (.iload 4, 2) := by decide +kernel
theorem dX7_bestBack_100 : decode cX7_bestBack 100 = .ok (.iload_n 1, 1) := by decide +kernel
theorem dX7_bestBack_101 : decode cX7_bestBack 101 = .ok (.if_icmp .le 8, 3) := by decide +kernel
theorem dX7_bestBack_104 : decode cX7_bestBack 104 = .ok (.iload 4, 2) := by decide +kernel
theorem dX7_bestBack_106 : decode cX7_bestBack 106 = .ok (.istore_n 1, 1) := by decide +kernel
theorem dX7_bestBack_107 : decode cX7_bestBack 107 = .ok (.iload_n 3, 1) := by decide +kernel
theorem dX7_bestBack_108 : decode cX7_bestBack 108 = .ok (.istore_n 2, 1) := by decide +kernel
theorem dX7_bestBack_109 : decode cX7_bestBack 109 = .ok (.iinc 3 1, 3) := by decide +kernel
theorem dX7_bestBack_112 : decode cX7_bestBack 112 = .ok (.goto (-76), 3) := by decide +kernel
theorem dX7_bestBack_115 : decode cX7_bestBack 115 = .ok (.iload_n 2, 1) := by decide +kernel
theorem dX7_bestBack_116 : decode cX7_bestBack 116 = .ok (.ireturn, 1) := by decide +kernel
theorem dX8_init_0 : decode cX8_init 0 = .ok (.aload_n 0, 1) := by decide +kernel
theorem dX8_init_1 : decode cX8_init 1 = .ok (.invokespecial 1, 3) := by decide +kernel
theorem dX8_init_4 : decode cX8_init 4 = .ok (.aload_n 0, 1) := by decide +kernel
theorem dX8_init_5 : decode cX8_init 5 = .ok (.iconst 0, 1) := by decide +kernel
theorem dX8_init_6 : decode cX8_init 6 = .ok (.putfield 7, 3) := by decide +kernel
theorem dX8_init_9 : decode cX8_init 9 = .ok (.aload_n 0, 1) := by decide +kernel
theorem dX8_init_10 : decode cX8_init 10 = .ok (.iconst 0, 1) := by decide +kernel
theorem dX8_init_11 : decode cX8_init 11 = .ok (.putfield 13, 3) := by decide +kernel
theorem dX8_init_14 : decode cX8_init 14 = .ok (.aload_n 0, 1) := by decide +kernel
theorem dX8_init_15 : decode cX8_init 15 = .ok (.iconst 0, 1) := by decide +kernel
theorem dX8_init_16 : decode cX8_init 16 = .ok (.putfield 16, 3) := by decide +kernel
theorem dX8_init_19 : decode cX8_init 19 = .ok (.aload_n 0, 1) := by decide +kernel
theorem dX8_init_20 : decode cX8_init 20 = .ok (.bipush 6, 2) := by decide +kernel
theorem dX8_init_22 : decode cX8_init 22 = .ok (.newarray .int, 2) := by decide +kernel
theorem dX8_init_24 : decode cX8_init 24 = .ok (.putfield 19, 3) := by decide +kernel
theorem dX8_init_27 : decode cX8_init 27 = .ok (.aload_n 0, 1) := by decide +kernel
theorem dX8_init_28 : decode cX8_init 28 = .ok (.bipush 6, 2) := by decide +kernel
theorem dX8_init_30 : decode cX8_init 30 = .ok (.newarray .int, 2) := by decide +kernel
theorem dX8_init_32 : decode cX8_init 32 = .ok (.putfield 23, 3) := by decide +kernel
theorem dX8_init_35 : decode cX8_init 35 = .ok (.aload_n 0, 1) := by decide +kernel
theorem dX8_init_36 : decode cX8_init 36 = .ok (.bipush 6, 2) := by decide +kernel
theorem dX8_init_38 : decode cX8_init 38 = .ok (.newarray .int, 2) := by decide +kernel
theorem dX8_init_40 : decode cX8_init 40 = .ok (.putfield 26, 3) := by decide +kernel
theorem dX8_init_43 : decode cX8_init 43 = .ok (.aload_n 0, 1) := by decide +kernel
theorem dX8_init_44 : decode cX8_init 44 = .ok (.bipush 24, 2) := by decide +kernel
theorem dX8_init_46 : decode cX8_init 46 = .ok (.newarray .int, 2) := by decide +kernel
theorem dX8_init_48 : decode cX8_init 48 = .ok (.putfield 29, 3) := by decide +kernel
theorem dX8_init_51 : decode cX8_init 51 = .ok (.aload_n 0, 1) := by decide +kernel
theorem dX8_init_52 : decode cX8_init 52 = .ok (.bipush 6, 2) := by decide +kernel
theorem dX8_init_54 : decode cX8_init 54 = .ok (.newarray .int, 2) := by decide +kernel
theorem dX8_init_56 : decode cX8_init 56 = .ok (.putfield 32, 3) := by decide +kernel
theorem dX8_init_59 : decode cX8_init 59 = .ok (.aload_n 0, 1) := by decide +kernel
theorem dX8_init_60 : decode cX8_init 60 = .ok (.iconst 0, 1) := by decide +kernel
theorem dX8_init_61 : decode cX8_init 61 = .ok (.putfield 35, 3) := by decide +kernel
theorem dX8_init_64 : decode cX8_init 64 = .ok (.aload_n 0, 1) := by decide +kernel
theorem dX8_init_65 : decode cX8_init 65 = .ok (.iconst (-1), 1) := by decide +kernel
theorem dX8_init_66 : decode cX8_init 66 = .ok (.putfield 38, 3) := by decide +kernel
theorem dX8_init_69 : decode cX8_init 69 = .ok (.aload_n 0, 1) := by decide +kernel
theorem dX8_init_70 : decode cX8_init 70 = .ok (.iconst 0, 1) := by decide +kernel
theorem dX8_init_71 : decode cX8_init 71 = .ok (.putfield 41, 3) := by decide +kernel
theorem dX8_init_74 : decode cX8_init 74 = .ok (.aload_n 0, 1) := by decide +kernel
theorem dX8_init_75 : decode cX8_init 75 = .ok (.iconst 0, 1) := by decide +kernel
theorem dX8_init_76 : decode cX8_init 76 = .ok (.putfield 44, 3) := by decide +kernel
theorem dX8_init_79 : decode cX8_init 79 = .ok (.aload_n 0, 1) := by decide +kernel
theorem dX8_init_80 : decode cX8_init 80 = .ok (.iconst 0, 1) := by decide +kernel
theorem dX8_init_81 : decode cX8_init 81 = .ok (.putfield 47, 3) := by decide +kernel
theorem dX8_init_84 : decode cX8_init 84 = .ok (.aload_n 0, 1) := by decide +kernel
theorem dX8_init_85 : decode cX8_init 85 = .ok (.bipush 100, 2) := by decide +kernel
theorem dX8_init_87 : decode cX8_init 87 = .ok (.newarray .int, 2) := by decide +kernel
theorem dX8_init_89 : decode cX8_init 89 = .ok (.putfield 50, 3) := by decide +kernel
theorem dX8_init_92 : decode cX8_init 92 = .ok (.aload_n 0, 1) := by decide +kernel
theorem dX8_init_93 : decode cX8_init 93 = .ok (.bipush 6, 2) := by decide +kernel
theorem dX8_init_95 : decode cX8_init 95 = .ok (.newarray .int, 2) := by decide +kernel
theorem dX8_init_97 : decode cX8_init 97 = .ok (.putfield 53, 3) := by decide +kernel
theorem dX8_init_100 : decode cX8_init 100 = .ok (.aload_n 0, 1) := by decide +kernel
theorem dX8_init_101 : decode cX8_init 101 = .ok (.bipush 60, 2) := by decide +kernel
theorem dX8_init_103 : decode cX8_init 103 = .ok (.newarray .int, 2) := by decide +kernel
theorem dX8_init_105 : decode cX8_init 105 = .ok (.putfield 56, 3) := by decide +kernel
theorem dX8_init_108 : decode cX8_init 108 = .ok (.aload_n 0, 1) := by decide +kernel
theorem dX8_init_109 : decode cX8_init 109 = .ok (.bipush 60, 2) := by decide +kernel
theorem dX8_init_111 : decode cX8_init 111 = .ok (.newarray .int, 2) := by decide +kernel
theorem dX8_init_113 : decode cX8_init 113 = .ok (.putfield 59, 3) := by decide +kernel
theorem dX8_init_116 : decode cX8_init 116 = .ok (.aload_n 0, 1) := by decide +kernel
theorem dX8_init_117 : decode cX8_init 117 = .ok (.bipush 60, 2) := by decide +kernel
theorem dX8_init_119 : decode cX8_init 119 = .ok (.newarray .int, 2) := by decide +kernel
theorem dX8_init_121 : decode cX8_init 121 = .ok (.putfield 62, 3) := by decide +kernel
theorem dX8_init_124 : decode cX8_init 124 = .ok (.aload_n 0, 1) := by decide +kernel
theorem dX8_init_125 : decode cX8_init 125 = .ok (.bipush 60, 2) := by decide +kernel
theorem dX8_init_127 : decode cX8_init 127 = .ok (.newarray .int, 2) := by decide +kernel
theorem dX8_init_129 : decode cX8_init 129 = .ok (.putfield 65, 3) := by decide +kernel
theorem dX8_init_132 : decode cX8_init 132 = .ok (.aload_n 0, 1) := by decide +kernel
theorem dX8_init_133 : decode cX8_init 133 = .ok (.sipush 600, 3) := by decide +kernel
theorem dX8_init_136 : decode cX8_init 136 = .ok (.newarray .int, 2) := by decide +kernel
theorem dX8_init_138 : decode cX8_init 138 = .ok (.putfield 68, 3) := by decide +kernel
theorem dX8_init_141 : decode cX8_init 141 = .ok (.aload_n 0, 1) := by decide +kernel
theorem dX8_init_142 : decode cX8_init 142 = .ok (.bipush 101, 2) := by decide +kernel
theorem dX8_init_144 : decode cX8_init 144 = .ok (.newarray .int, 2) := by decide +kernel
theorem dX8_init_146 : decode cX8_init 146 = .ok (.putfield 71, 3) := by decide +kernel
theorem dX8_init_149 : decode cX8_init 149 = .ok (.aload_n 0, 1) := by decide +kernel
theorem dX8_init_150 : decode cX8_init 150 = .ok (.iconst 0, 1) := by decide +kernel
theorem dX8_init_151 : decode cX8_init 151 = .ok (.putfield 74, 3) := by decide +kernel
theorem dX8_init_154 : decode cX8_init 154 = .ok (.aload_n 0, 1) := by decide +kernel
theorem dX8_init_155 : decode cX8_init 155 = .ok (.iconst 0, 1) := by decide +kernel
theorem dX8_init_156 : decode cX8_init 156 = .ok (.putfield 77, 3) := by decide +kernel
theorem dX8_init_159 : decode cX8_init 159 = .ok (.aload_n 0, 1) := by decide +kernel
theorem dX8_init_160 : decode cX8_init 160 = .ok (.iconst 0, 1) := by decide +kernel
theorem dX8_init_161 : decode cX8_init 161 = .ok (.putfield 80, 3) := by decide +kernel
theorem dX8_init_164 : decode cX8_init 164 = .ok (.aload_n 0, 1) := by decide +kernel
theorem dX8_init_165 : decode cX8_init 165 = .ok (.bipush 16, 2) := by decide +kernel
theorem dX8_init_167 : decode cX8_init 167 = .ok (.newarray .int, 2) := by decide +kernel
theorem dX8_init_169 : decode cX8_init 169 = .ok (.dup, 1) := by decide +kernel
theorem dX8_init_170 : decode cX8_init 170 = .ok (.iconst 0, 1) := by decide +kernel
theorem dX8_init_171 : decode cX8_init 171 = .ok (.bipush 108, 2) := by decide +kernel
theorem dX8_init_173 : decode cX8_init 173 = .ok (.iastore, 1) := by decide +kernel
theorem dX8_init_174 : decode cX8_init 174 = .ok (.dup, 1) := by decide +kernel
theorem dX8_init_175 : decode cX8_init 175 = .ok (.iconst 1, 1) := by decide +kernel
theorem dX8_init_176 : decode cX8_init 176 = .ok (.bipush 105, 2) := by decide +kernel
theorem dX8_init_178 : decode cX8_init 178 = .ok (.iastore, 1) := by decide +kernel
theorem dX8_init_179 : decode cX8_init 179 = .ok (.dup, 1) := by decide +kernel
theorem dX8_init_180 : decode cX8_init 180 = .ok (.iconst 2, 1) := by decide +kernel
theorem dX8_init_181 : decode cX8_init 181 = .ok (.bipush 107, 2) := by decide +kernel
theorem dX8_init_183 : decode cX8_init 183 = .ok (.iastore, 1) := by decide +kernel
theorem dX8_init_184 : decode cX8_init 184 = .ok (.dup, 1) := by decide +kernel
theorem dX8_init_185 : decode cX8_init 185 = .ok (.iconst 3, 1) := by decide +kernel
theorem dX8_init_186 : decode cX8_init 186 = .ok (.bipush 101, 2) := by decide +kernel
theorem dX8_init_188 : decode cX8_init 188 = .ok (.iastore, 1) := by decide +kernel
theorem dX8_init_189 : decode cX8_init 189 = .ok (.dup, 1) := by decide +kernel
theorem dX8_init_190 : decode cX8_init 190 = .ok (.iconst 4, 1) := by decide +kernel
theorem dX8_init_191 : decode cX8_init 191 = .ok (.bipush 109, 2) := by decide +kernel
theorem dX8_init_193 : decode cX8_init 193 = .ok (.iastore, 1) := by decide +kernel
theorem dX8_init_194 : decode cX8_init 194 = .ok (.dup, 1) := by decide +kernel
theorem dX8_init_195 : decode cX8_init 195 = .ok (.iconst 5, 1) := by decide +kernel
theorem dX8_init_196 : decode cX8_init 196 = .ok (.bipush 105, 2) := by decide +kernel
theorem dX8_init_198 : decode cX8_init 198 = .ok (.iastore, 1) := by decide +kernel
theorem dX8_init_199 : decode cX8_init 199 = .ok (.dup, 1) := by decide +kernel
theorem dX8_init_200 : decode cX8_init 200 = .ok (.bipush 6, 2) := by decide +kernel
theorem dX8_init_202 : decode cX8_init 202 = .ok (.bipush 110, 2) := by decide +kernel
theorem dX8_init_204 : decode cX8_init 204 = .ok (.iastore, 1) := by decide +kernel
theorem dX8_init_205 : decode cX8_init 205 = .ok (.dup, 1) := by decide +kernel
theorem dX8_init_206 : decode cX8_init 206 = .ok (.bipush 7, 2) := by decide +kernel
theorem dX8_init_208 : decode cX8_init 208 = .ok (.bipush 100, 2) := by decide +kernel
theorem dX8_init_210 : decode cX8_init 210 = .ok (.iastore, 1) := by decide +kernel
theorem dX8_init_211 : decode cX8_init 211 = .ok (.dup, 1) := by decide +kernel
theorem dX8_init_212 : decode cX8_init 212 = .ok (.bipush 8, 2) := by decide +kernel
theorem dX8_init_214 : decode cX8_init 214 = .ok (.bipush 110, 2) := by decide +kernel
theorem dX8_init_216 : decode cX8_init 216 = .ok (.iastore, 1) := by decide +kernel
theorem dX8_init_217 : decode cX8_init 217 = .ok (.dup, 1) := by decide +kernel
theorem dX8_init_218 : decode cX8_init 218 = .ok (.bipush 9, 2) := by decide +kernel
theorem dX8_init_220 : decode cX8_init 220 = .ok (.bipush 101, 2) := by decide +kernel
theorem dX8_init_222 : decode cX8_init 222 = .ok (.iastore, 1) := by decide +kernel
theorem dX8_init_223 : decode cX8_init 223 = .ok (.dup, 1) := by decide +kernel
theorem dX8_init_224 : decode cX8_init 224 = .ok (.bipush 10, 2) := by decide +kernel
theorem dX8_init_226 : decode cX8_init 226 = .ok (.bipush 101, 2) := by decide +kernel
theorem dX8_init_228 : decode cX8_init 228 = .ok (.iastore, 1) := by decide +kernel
theorem dX8_init_229 : decode cX8_init 229 = .ok (.dup, 1) := by decide +kernel
theorem dX8_init_230 : decode cX8_init 230 = .ok (.bipush 11, 2) := by decide +kernel
theorem dX8_init_232 : decode cX8_init 232 = .ok (.bipush 100, 2) := by decide +kernel
theorem dX8_init_234 : decode cX8_init 234 = .ok (.iastore, 1) := by decide +kernel
theorem dX8_init_235 : decode cX8_init 235 = .ok (.dup, 1) := by decide +kernel
theorem dX8_init_236 : decode cX8_init 236 = .ok (.bipush 12, 2) := by decide +kernel
theorem dX8_init_238 : decode cX8_init 238 = .ok (.bipush 104, 2) := by decide +kernel
theorem dX8_init_240 : decode cX8_init 240 = .ok (.iastore, 1) := by decide +kernel
theorem dX8_init_241 : decode cX8_init 241 = .ok (.dup, 1) := by decide +kernel
theorem dX8_init_242 : decode cX8_init 242 = .ok (.bipush 13, 2) := by decide +kernel
theorem dX8_init_244 : decode cX8_init 244 = .ok (.bipush 111, 2) := by decide +kernel
theorem dX8_init_246 : decode cX8_init 246 = .ok (.iastore, 1) := by decide +kernel
theorem dX8_init_247 : decode cX8_init 247 = .ok (.dup, 1) := by decide +kernel
theorem dX8_init_248 : decode cX8_init 248 = .ok (.bipush 14, 2) := by decide +kernel
theorem dX8_init_250 : decode cX8_init 250 = .ok (.bipush 108, 2) := by decide +kernel
theorem dX8_init_252 : decode cX8_init 252 = .ok (.iastore, 1) := by decide +kernel
theorem dX8_init_253 : decode cX8_init 253 = .ok (.dup, 1) := by decide +kernel
theorem dX8_init_254 : decode cX8_init 254 = .ok (.bipush 15, 2) := by decide +kernel
theorem dX8_init_256 : decode cX8_init 256 = .ok (.bipush 100, 2) := by decide +kernel
theorem dX8_init_258 : decode cX8_init 258 = .ok (.iastore, 1) := by decide +kernel
theorem dX8_init_259 : decode cX8_init 259 = .ok (.putfield 83, 3) := by decide +kernel
theorem dX8_init_262 : decode cX8_init 262 = .ok (.aload_n 0, 1) := by decide +kernel
theorem dX8_init_263 : decode cX8_init 263 = .ok (.bipush 100, 2) := by decide +kernel
theorem dX8_init_265 : decode cX8_init 265 = .ok (.newarray .boolean, 2) := by decide +kernel
theorem dX8_init_267 : decode cX8_init 267 = .ok (.putfield 86, 3) := by decide +kernel
theorem dX8_init_270 : decode cX8_init 270 = .ok (.aload_n 0, 1) := by decide +kernel
theorem dX8_init_271 : decode cX8_init 271 = .ok (.iconst 0, 1) := by decide +kernel
theorem dX8_init_272 : decode cX8_init 272 = .ok (.putfield 90, 3) := by decide +kernel
theorem dX8_init_275 : decode cX8_init 275 = .ok (.aload_n 0, 1) := by decide +kernel
theorem dX8_init_276 : decode cX8_init 276 = .ok (.iconst 0, 1) := by decide +kernel
theorem dX8_init_277 : decode cX8_init 277 = .ok (.putfield 93, 3) := by decide +kernel
theorem dX8_init_280 : decode cX8_init 280 = .ok (.aload_n 0, 1) := by decide +kernel
theorem dX8_init_281 : decode cX8_init 281 = .ok (.bipush 6, 2) := by decide +kernel
theorem dX8_init_283 : decode cX8_init 283 = .ok (.newarray .int, 2) := by decide +kernel
theorem dX8_init_285 : decode cX8_init 285 = .ok (.putfield 96, 3) := by decide +kernel
theorem dX8_init_288 : decode cX8_init 288 = .ok (.aload_n 0, 1) := by decide +kernel
theorem dX8_init_289 : decode cX8_init 289 = .ok (.bipush 8, 2) := by decide +kernel
theorem dX8_init_291 : decode cX8_init 291 = .ok (.newarray .int, 2) := by decide +kernel
theorem dX8_init_293 : decode cX8_init 293 = .ok (.putfield 99, 3) := by decide +kernel
theorem dX8_init_296 : decode cX8_init 296 = .ok (.aload_n 0, 1) := by decide +kernel
theorem dX8_init_297 : decode cX8_init 297 = .ok (.bipush 6, 2) := by decide +kernel
theorem dX8_init_299 : decode cX8_init 299 = .ok (.newarray .int, 2) := by decide +kernel
theorem dX8_init_301 : decode cX8_init 301 = .ok (.putfield 102, 3) := by decide +kernel
theorem dX8_init_304 : decode cX8_init 304 = .ok (.aload_n 0, 1) := by decide +kernel
theorem dX8_init_305 : decode cX8_init 305 = .ok (.iconst 0, 1) := by decide +kernel
theorem dX8_init_306 : decode cX8_init 306 = .ok (.putfield 105, 3) := by decide +kernel
theorem dX8_init_309 : decode cX8_init 309 = .ok (.aload_n 0, 1) := by decide +kernel
theorem dX8_init_310 : decode cX8_init 310 = .ok (.iconst 5, 1) := by decide +kernel
theorem dX8_init_311 : decode cX8_init 311 = .ok (.newarray .int, 2) := by decide +kernel
theorem dX8_init_313 : decode cX8_init 313 = .ok (.putfield 108, 3) := by decide +kernel
theorem dX8_init_316 : decode cX8_init 316 = .ok (.aload_n 0, 1) := by decide +kernel
theorem dX8_init_317 : decode cX8_init 317 = .ok (.iconst 5, 1) := by decide +kernel
theorem dX8_init_318 : decode cX8_init 318 = .ok (.newarray .int, 2) := by decide +kernel
theorem dX8_init_320 : decode cX8_init 320 = .ok (.putfield 111, 3) := by decide +kernel
theorem dX8_init_323 : decode cX8_init 323 = .ok (.aload_n 0, 1) := by decide +kernel
theorem dX8_init_324 : decode cX8_init 324 = .ok (.iconst 5, 1) := by decide +kernel
theorem dX8_init_325 : decode cX8_init 325 = .ok (.newarray .boolean, 2) := by decide +kernel
theorem dX8_init_327 : decode cX8_init 327 = .ok (.putfield 114, 3) := by decide +kernel
theorem dX8_init_330 : decode cX8_init 330 = .ok (.aload_n 0, 1) := by decide +kernel
theorem dX8_init_331 : decode cX8_init 331 = .ok (.iconst 0, 1) := by decide +kernel
theorem dX8_init_332 : decode cX8_init 332 = .ok (.putfield 117, 3) := by decide +kernel
theorem dX8_init_335 : decode cX8_init 335 = .ok (.aload_n 0, 1) := by decide +kernel
theorem dX8_init_336 : decode cX8_init 336 = .ok (.iconst 0, 1) := by decide +kernel
theorem dX8_init_337 : decode cX8_init 337 = .ok (.putfield 120, 3) := by decide +kernel
theorem dX8_init_340 : decode cX8_init 340 = .ok (.aload_n 0, 1) := by decide +kernel
theorem dX8_init_341 : decode cX8_init 341 = .ok (.bipush 10, 2) := by decide +kernel
theorem dX8_init_343 : decode cX8_init 343 = .ok (.newarray .int, 2) := by decide +kernel
theorem dX8_init_345 : decode cX8_init 345 = .ok (.putfield 123, 3) := by decide +kernel
theorem dX8_init_348 : decode cX8_init 348 = .ok (.aload_n 0, 1) := by decide +kernel
theorem dX8_init_349 : decode cX8_init 349 = .ok (.bipush 10, 2) := by decide +kernel
theorem dX8_init_351 : decode cX8_init 351 = .ok (.newarray .int, 2) := by decide +kernel
theorem dX8_init_353 : decode cX8_init 353 = .ok (.putfield 126, 3) := by decide +kernel
theorem dX8_init_356 : decode cX8_init 356 = .ok (.aload_n 0, 1) := by decide +kernel
theorem dX8_init_357 : decode cX8_init 357 = .ok (.bipush 8, 2) := by decide +kernel
theorem dX8_init_359 : decode cX8_init 359 = .ok (.newarray .int, 2) := by decide +kernel
theorem dX8_init_361 : decode cX8_init 361 = .ok (.putfield 129, 3) := by decide +kernel
theorem dX8_init_364 : decode cX8_init 364 = .ok (.aload_n 0, 1) := by decide +kernel
theorem dX8_init_365 : decode cX8_init 365 = .ok (.bipush 8, 2) := by decide +kernel
theorem dX8_init_367 : decode cX8_init 367 = .ok (.newarray .int, 2) := by decide +kernel
theorem dX8_init_369 : decode cX8_init 369 = .ok (.putfield 132, 3) := by decide +kernel
theorem dX8_init_372 : decode cX8_init 372 = .ok (.aload_n 0, 1) := by decide +kernel
theorem dX8_init_373 : decode cX8_init 373 = .ok (.iconst 0, 1) := by decide +kernel
theorem dX8_init_374 : decode cX8_init 374 = .ok (.putfield 135, 3) := by decide +kernel
theorem dX8_init_377 : decode cX8_init 377 = .ok (.aload_n 0, 1) := by decide +kernel
theorem dX8_init_378 : decode cX8_init 378 = .ok (.iconst (-1), 1) := by decide +kernel
theorem dX8_init_379 : decode cX8_init 379 = .ok (.putfield 139, 3) := by decide +kernel
theorem dX8_init_382 : decode cX8_init 382 = .ok (.aload_n 0, 1) := by decide +kernel
theorem dX8_init_383 : decode cX8_init 383 = .ok (.iconst 0, 1) := by decide +kernel
theorem dX8_init_384 : decode cX8_init 384 = .ok (.putfield 142, 3) := by decide +kernel
theorem dX8_init_387 : decode cX8_init 387 = .ok (.aload_n 0, 1) := by decide +kernel
theorem dX8_init_388 : decode cX8_init 388 = .ok (.iconst 0, 1) := by decide +kernel
theorem dX8_init_389 : decode cX8_init 389 = .ok (.putfield 145, 3) := by decide +kernel
theorem dX8_init_392 : decode cX8_init 392 = .ok (.aload_n 0, 1) := by decide +kernel
theorem dX8_init_393 : decode cX8_init 393 = .ok (.iconst 0, 1) := by decide +kernel
theorem dX8_init_394 : decode cX8_init 394 = .ok (.putfield 148, 3) := by decide +kernel
theorem dX8_init_397 : decode cX8_init 397 = .ok (.aload_n 0, 1) := by decide +kernel
theorem dX8_init_398 : decode cX8_init 398 = .ok (.iconst 0, 1) := by decide +kernel
theorem dX8_init_399 : decode cX8_init 399 = .ok (.putfield 151, 3) := by decide +kernel
theorem dX8_init_402 : decode cX8_init 402 = .ok (.aload_n 0, 1) := by decide +kernel
theorem dX8_init_403 : decode cX8_init 403 = .ok (.iconst 0, 1) := by decide +kernel
theorem dX8_init_404 : decode cX8_init 404 = .ok (.putfield 154, 3) := by decide +kernel
theorem dX8_init_407 : decode cX8_init 407 = .ok (.aload_n 0, 1) := by decide +kernel
theorem dX8_init_408 : decode cX8_init 408 = .ok (.iconst 0, 1) := by decide +kernel
theorem dX8_init_409 : decode cX8_init 409 = .ok (.putfield 157, 3) := by decide +kernel
theorem dX8_init_412 : decode cX8_init 412 = .ok (.aload_n 0, 1) := by decide +kernel
theorem dX8_init_413 : decode cX8_init 413 = .ok (.bipush 6, 2) := by decide +kernel
theorem dX8_init_415 : decode cX8_init 415 = .ok (.newarray .int, 2) := by decide +kernel
theorem dX8_init_417 : decode cX8_init 417 = .ok (.putfield 160, 3) := by decide +kernel
theorem dX8_init_420 : decode cX8_init 420 = .ok (.aload_n 0, 1) := by decide +kernel
theorem dX8_init_421 : decode cX8_init 421 = .ok (.bipush 6, 2) := by decide +kernel
theorem dX8_init_423 : decode cX8_init 423 = .ok (.newarray .int, 2) := by decide +kernel
theorem dX8_init_425 : decode cX8_init 425 = .ok (.putfield 163, 3) := by decide +kernel
theorem dX8_init_428 : decode cX8_init 428 = .ok (.aload_n 0, 1) := by decide +kernel
theorem dX8_init_429 : decode cX8_init 429 = .ok (.bipush 6, 2) := by decide +kernel
theorem dX8_init_431 : decode cX8_init 431 = .ok (.newarray .int, 2) := by decide +kernel
theorem dX8_init_433 : decode cX8_init 433 = .ok (.putfield 166, 3) := by decide +kernel
theorem dX8_init_436 : decode cX8_init 436 = .ok (.aload_n 0, 1) := by decide +kernel
theorem dX8_init_437 : decode cX8_init 437 = .ok (.bipush 24, 2) := by decide +kernel
theorem dX8_init_439 : decode cX8_init 439 = .ok (.newarray .int, 2) := by decide +kernel
theorem dX8_init_441 : decode cX8_init 441 = .ok (.putfield 169, 3) := by decide +kernel
theorem dX8_init_444 : decode cX8_init 444 = .ok (.aload_n 0, 1) := by decide +kernel
theorem dX8_init_445 : decode cX8_init 445 = .ok (.bipush 6, 2) := by decide +kernel
theorem dX8_init_447 : decode cX8_init 447 = .ok (.newarray .int, 2) := by decide +kernel
theorem dX8_init_449 : decode cX8_init 449 = .ok (.putfield 172, 3) := by decide +kernel
theorem dX8_init_452 : decode cX8_init 452 = .ok (.aload_n 0, 1) := by decide +kernel
theorem dX8_init_453 : decode cX8_init 453 = .ok (.iconst 5, 1) := by decide +kernel
theorem dX8_init_454 : decode cX8_init 454 = .ok (.newarray .int, 2) := by decide +kernel
theorem dX8_init_456 : decode cX8_init 456 = .ok (.putfield 175, 3) := by decide +kernel
theorem dX8_init_459 : decode cX8_init 459 = .ok (.aload_n 0, 1) := by decide +kernel
theorem dX8_init_460 : decode cX8_init 460 = .ok (.iconst 5, 1) := by decide +kernel
theorem dX8_init_461 : decode cX8_init 461 = .ok (.newarray .int, 2) := by decide +kernel
theorem dX8_init_463 : decode cX8_init 463 = .ok (.putfield 178, 3) := by decide +kernel
theorem dX8_init_466 : decode cX8_init 466 = .ok (.aload_n 0, 1) := by decide +kernel
theorem dX8_init_467 : decode cX8_init 467 = .ok (.bipush 10, 2) := by decide +kernel
theorem dX8_init_469 : decode cX8_init 469 = .ok (.newarray .int, 2) := by decide +kernel
theorem dX8_init_471 : decode cX8_init 471 = .ok (.putfield 181, 3) := by decide +kernel
theorem dX8_init_474 : decode cX8_init 474 = .ok (.aload_n 0, 1) := by decide +kernel
theorem dX8_init_475 : decode cX8_init 475 = .ok (.bipush 10, 2) := by decide +kernel
theorem dX8_init_477 : decode cX8_init 477 = .ok (.newarray .int, 2) := by decide +kernel
theorem dX8_init_479 : decode cX8_init 479 = .ok (.putfield 184, 3) := by decide +kernel
theorem dX8_init_482 : decode cX8_init 482 = .ok (.aload_n 0, 1) := by decide +kernel
theorem dX8_init_483 : decode cX8_init 483 = .ok (.bipush 8, 2) := by decide +kernel
theorem dX8_init_485 : decode cX8_init 485 = .ok (.newarray .int, 2) := by decide +kernel
theorem dX8_init_487 : decode cX8_init 487 = .ok (.putfield 187, 3) := by decide +kernel
theorem dX8_init_490 : decode cX8_init 490 = .ok (.aload_n 0, 1) := by decide +kernel
theorem dX8_init_491 : decode cX8_init 491 = .ok (.bipush 8, 2) := by decide +kernel
theorem dX8_init_493 : decode cX8_init 493 = .ok (.newarray .int, 2) := by decide +kernel
theorem dX8_init_495 : decode cX8_init 495 = .ok (.putfield 190, 3) := by decide +kernel
theorem dX8_init_498 : decode cX8_init 498 = .ok (.aload_n 0, 1) := by decide +kernel
theorem dX8_init_499 : decode cX8_init 499 = .ok (.iconst 5, 1) := by decide +kernel
theorem dX8_init_500 : decode cX8_init 500 = .ok (.newarray .boolean, 2) := by decide +kernel
theorem dX8_init_502 : decode cX8_init 502 = .ok (.putfield 193, 3) := by decide +kernel
theorem dX8_init_505 : decode cX8_init 505 = .ok (.aload_n 0, 1) := by decide +kernel
theorem dX8_init_506 : decode cX8_init 506 = .ok (.iconst 0, 1) := by decide +kernel
theorem dX8_init_507 : decode cX8_init 507 = .ok (.putfield 196, 3) := by decide +kernel
theorem dX8_init_510 : decode cX8_init 510 = .ok (.aload_n 0, 1) := by decide +kernel
theorem dX8_init_511 : decode cX8_init 511 = .ok (.bipush 20, 2) := by decide +kernel
theorem dX8_init_513 : decode cX8_init 513 = .ok (.newarray .int, 2) := by decide +kernel
theorem dX8_init_515 : decode cX8_init 515 = .ok (.putfield 199, 3) := by decide +kernel
theorem dX8_init_518 : decode cX8_init 518 = .ok (.aload_n 0, 1) := by decide +kernel
theorem dX8_init_519 : decode cX8_init 519 = .ok (.bipush 6, 2) := by decide +kernel
theorem dX8_init_521 : decode cX8_init 521 = .ok (.newarray .int, 2) := by decide +kernel
theorem dX8_init_523 : decode cX8_init 523 = .ok (.dup, 1) := by decide +kernel
theorem dX8_init_524 : decode cX8_init 524 = .ok (.iconst 0, 1) := by decide +kernel
theorem dX8_init_525 : decode cX8_init 525 = .ok (.iconst (-1), 1) := by decide +kernel
theorem dX8_init_526 : decode cX8_init 526 = .ok (.iastore, 1) := by decide +kernel
theorem dX8_init_527 : decode cX8_init 527 = .ok (.dup, 1) := by decide +kernel
theorem dX8_init_528 : decode cX8_init 528 = .ok (.iconst 1, 1) := by decide +kernel
theorem dX8_init_529 : decode cX8_init 529 = .ok (.iconst (-1), 1) := by decide +kernel
theorem dX8_init_530 : decode cX8_init 530 = .ok (.iastore, 1) := by decide +kernel
theorem dX8_init_531 : decode cX8_init 531 = .ok (.dup, 1) := by decide +kernel
theorem dX8_init_532 : decode cX8_init 532 = .ok (.iconst 2, 1) := by decide +kernel
theorem dX8_init_533 : decode cX8_init 533 = .ok (.iconst (-1), 1) := by decide +kernel
theorem dX8_init_534 : decode cX8_init 534 = .ok (.iastore, 1) := by decide +kernel
theorem dX8_init_535 : decode cX8_init 535 = .ok (.dup, 1) := by decide +kernel
theorem dX8_init_536 : decode cX8_init 536 = .ok (.iconst 3, 1) := by decide +kernel
theorem dX8_init_537 : decode cX8_init 537 = .ok (.iconst (-1), 1) := by decide +kernel
theorem dX8_init_538 : decode cX8_init 538 = .ok (.iastore, 1) := by decide +kernel
theorem dX8_init_539 : decode cX8_init 539 = .ok (.dup, 1) := by decide +kernel
theorem dX8_init_540 : decode cX8_init 540 = .ok (.iconst 4, 1) := by decide +kernel
theorem dX8_init_541 : decode cX8_init 541 = .ok (.iconst (-1), 1) := by decide +kernel
theorem dX8_init_542 : decode cX8_init 542 = .ok (.iastore, 1) := by decide +kernel
theorem dX8_init_543 : decode cX8_init 543 = .ok (.dup, 1) := by decide +kernel
theorem dX8_init_544 : decode cX8_init 544 = .ok (.iconst 5, 1) := by decide +kernel
theorem dX8_init_545 : decode cX8_init 545 = .ok (.iconst (-1), 1) := by decide +kernel
theorem dX8_init_546 : decode cX8_init 546 = .ok (.iastore, 1) := by decide +kernel
theorem dX8_init_547 : decode cX8_init 547 = .ok (.putfield 202, 3) := by decide +kernel
theorem dX8_init_550 : decode cX8_init 550 = .ok (.aload_n 0, 1) := by decide +kernel
theorem dX8_init_551 : decode cX8_init 551 = .ok (.bipush 6, 2) := by decide +kernel
theorem dX8_init_553 : decode cX8_init 553 = .ok (.newarray .int, 2) := by decide +kernel
theorem dX8_init_555 : decode cX8_init 555 = .ok (.putfield 205, 3) := by decide +kernel
theorem dX8_init_558 : decode cX8_init 558 = .ok (.aload_n 0, 1) := by decide +kernel
theorem dX8_init_559 : decode cX8_init 559 = .ok (.sipush 360, 3) := by decide +kernel
theorem dX8_init_562 : decode cX8_init 562 = .ok (.newarray .long, 2) := by decide +kernel
theorem dX8_init_564 : decode cX8_init 564 = .ok (.putfield 208, 3) := by decide +kernel
theorem dX8_init_567 : decode cX8_init 567 = .ok (.aload_n 0, 1) := by decide +kernel
theorem dX8_init_568 : decode cX8_init 568 = .ok (.bipush 60, 2) := by decide +kernel
theorem dX8_init_570 : decode cX8_init 570 = .ok (.newarray .long, 2) := by decide +kernel
theorem dX8_init_572 : decode cX8_init 572 = .ok (.putfield 212, 3) := by decide +kernel
theorem dX8_init_575 : decode cX8_init 575 = .ok (.return_, 1) := by decide +kernel
theorem dX8_in_0 : decode cX8_in 0 = .ok (.iload_n 1, 1) := by decide +kernel
theorem dX8_in_1 : decode cX8_in 1 = .ok (.iload_n 2, 1) := by decide +kernel
theorem dX8_in_2 : decode cX8_in 2 = .ok (.if_icmp .lt 12, 3) := by decide +kernel
theorem dX8_in_5 : decode cX8_in 5 = .ok (.iload_n 1, 1) := by decide +kernel
theorem dX8_in_6 : decode cX8_in 6 = .ok (.iload_n 3, 1) := by decide +kernel
theorem dX8_in_7 : decode cX8_in 7 = .ok (.if_icmp .gt 7, 3) := by decide +kernel
theorem dX8_in_10 : decode cX8_in 10 = .ok (.iconst 1, 1) := by decide +kernel
theorem dX8_in_11 : decode cX8_in 11 = .ok (.goto 4, 3) := by decide +kernel
theorem dX8_in_14 : decode cX8_in 14 = .ok (.iconst 0, 1) := by decide +kernel
theorem dX8_in_15 : decode cX8_in 15 = .ok (.ireturn, 1) := by decide +kernel
theorem dX8_has_0 : decode cX8_has 0 = .ok (.iload_n 1, 1) := by decide +kernel
theorem dX8_has_1 : decode cX8_has 1 = .ok (.iload_n 2, 1) := by decide +kernel
theorem dX8_has_2 : decode cX8_has 2 = .ok (.ishr, 1) := by decide +kernel
theorem dX8_has_3 : decode cX8_has 3 = .ok (.iconst 1, 1) := by decide +kernel
theorem dX8_has_4 : decode cX8_has 4 = .ok (.iand, 1) := by decide +kernel
theorem dX8_has_5 : decode cX8_has 5 = .ok (.iconst 1, 1) := by decide +kernel
theorem dX8_has_6 : decode cX8_has 6 = .ok (.if_icmp .ne 7, 3) := by decide +kernel
theorem dX8_has_9 : decode cX8_has 9 = .ok (.iconst 1, 1) := by decide +kernel
theorem dX8_has_10 : decode cX8_has 10 = .ok (.goto 4, 3) := by decide +kernel
theorem dX8_has_13 : decode cX8_has 13 = .ok (.iconst 0, 1) := by decide +kernel
theorem dX8_has_14 : decode cX8_has 14 = .ok (.ireturn, 1) := by decide +kernel
set_option maxRecDepth 20000 in
theorem ggX8_bits_X8_has : GoodIn wsX8_bits wsX8_has := goodIn_r _ [5] (by decide +kernel) (by decide +kernel)
set_option maxRecDepth 20000 in
theorem gX8_bits_X8_has : GoodIn wsX8_bits (wsV RX8 215 RX8 yX8_has wsX8_has) := goodIn_app (goodIn_of _ (by decide +kernel)) ggX8_bits_X8_has
theorem dX8_bits_0 : decode cX8_bits 0 = .ok (.iconst 0, 1) := by decide +kernel
theorem dX8_bits_1 : decode cX8_bits 1 = .ok (.istore_n 2, 1) := by decide +kernel
theorem dX8_bits_2 : decode cX8_bits 2 = .ok (.iconst 0, 1) := by decide +kernel
theorem dX8_bits_3 : decode cX8_bits 3 = .ok (.istore_n 3, 1) := by decide +kernel
theorem dX8_bits_4 : decode cX8_bits 4 = .ok (.iload_n 3, 1) := by decide +kernel
theorem dX8_bits_5 : decode cX8_bits 5 = .ok (.bipush 8, 2) := by decide +kernel
theorem dX8_bits_7 : decode cX8_bits 7 = .ok (.if_icmp .ge 26, 3) := by decide +kernel
theorem dX8_bits_10 : decode cX8_bits 10 = .ok (.iload_n 2, 1) := by decide +kernel
theorem dX8_bits_11 : decode cX8_bits 11 = .ok (.aload_n 0, 1) := by decide +kernel
theorem dX8_bits_12 : decode cX8_bits 12 = .ok (.iload_n 1, 1) := by decide +kernel
theorem dX8_bits_13 : decode cX8_bits 13 = .ok (.iload_n 3, 1) := by decide +kernel
theorem dX8_bits_14 : decode cX8_bits 14 = .ok (.invokevirtual 215, 3) := by decide +kernel
theorem dX8_bits_17 : decode cX8_bits 17 = .ok (.ifCond .eq 7, 3) := by decide +kernel
theorem dX8_bits_20 : decode cX8_bits 20 = .ok (.iconst 1, 1) := by decide +kernel
theorem dX8_bits_21 : decode cX8_bits 21 = .ok (.goto 4, 3) := by decide +kernel
theorem dX8_bits_24 : decode cX8_bits 24 = .ok (.iconst 0, 1) := by decide +kernel
theorem dX8_bits_25 : decode cX8_bits 25 = .ok (.iadd, 1) := by decide +kernel
theorem dX8_bits_26 : decode cX8_bits 26 = .ok (.istore_n 2, 1) := by decide +kernel
theorem dX8_bits_27 : decode cX8_bits 27 = .ok (.iinc 3 1, 3) := by decide +kernel
theorem dX8_bits_30 : decode cX8_bits 30 = .ok (.goto (-26), 3) := by decide +kernel
theorem dX8_bits_33 : decode cX8_bits 33 = .ok (.iload_n 2, 1) := by decide +kernel
theorem dX8_bits_34 : decode cX8_bits 34 = .ok (.ireturn, 1) := by decide +kernel
set_option maxRecDepth 20000 in
theorem ggX8_isThing_X8_in : GoodIn wsX8_isThing wsX8_in := goodIn_r _ [6] (by decide +kernel) (by decide +kernel)
set_option maxRecDepth 20000 in
theorem gX8_isThing_X8_in : GoodIn wsX8_isThing (wsV RX8 219 RX8 yX8_in wsX8_in) := goodIn_app (goodIn_of _ (by decide +kernel)) ggX8_isThing_X8_in
theorem dX8_isThing_0 : decode cX8_isThing 0 = .ok (.aload_n 0, 1) := by decide +kernel
theorem dX8_isThing_1 : decode cX8_isThing 1 = .ok (.iload_n 1, 1) := by decide +kernel
theorem dX8_isThing_2 : decode cX8_isThing 2 = .ok (.iconst 0, 1) := by decide +kernel
theorem dX8_isThing_3 : decode cX8_isThing 3 = .ok (.aload_n 0, 1) := by decide +kernel
theorem dX8_isThing_4 : decode cX8_isThing 4 = .ok (.getfield 7, 3) := by decide +kernel
theorem dX8_isThing_7 : decode cX8_isThing 7 = .ok (.iconst 1, 1) := by decide +kernel
theorem dX8_isThing_8 : decode cX8_isThing 8 = .ok (.isub, 1) := by decide +kernel
theorem dX8_isThing_9 : decode cX8_isThing 9 = .ok (.invokevirtual 219, 3) := by decide +kernel
theorem dX8_isThing_12 : decode cX8_isThing 12 = .ok (.ireturn, 1) := by decide +kernel
set_option maxRecDepth 20000 in
theorem ggX8_isMarks_X8_in : GoodIn wsX8_isMarks wsX8_in := goodIn_r _ [5] (by decide +kernel) (by decide +kernel)
set_option maxRecDepth 20000 in
theorem gX8_isMarks_X8_in : GoodIn wsX8_isMarks (wsV RX8 219 RX8 yX8_in wsX8_in) := goodIn_app (goodIn_of _ (by decide +kernel)) ggX8_isMarks_X8_in
theorem dX8_isMarks_0 : decode cX8_isMarks 0 = .ok (.aload_n 0, 1) := by decide +kernel
theorem dX8_isMarks_1 : decode cX8_isMarks 1 = .ok (.iload_n 1, 1) := by decide +kernel
theorem dX8_isMarks_2 : decode cX8_isMarks 2 = .ok (.iconst 0, 1) := by decide +kernel
theorem dX8_isMarks_3 : decode cX8_isMarks 3 = .ok (.sipush 255, 3) := by decide +kernel
theorem dX8_isMarks_6 : decode cX8_isMarks 6 = .ok (.invokevirtual 219, 3) := by decide +kernel
theorem dX8_isMarks_9 : decode cX8_isMarks 9 = .ok (.ireturn, 1) := by decide +kernel
set_option maxRecDepth 20000 in
theorem ggX8_isDays_X8_in : GoodIn wsX8_isDays wsX8_in := goodIn_r _ [5] (by decide +kernel) (by decide +kernel)
set_option maxRecDepth 20000 in
theorem gX8_isDays_X8_in : GoodIn wsX8_isDays (wsV RX8 219 RX8 yX8_in wsX8_in) := goodIn_app (goodIn_of _ (by decide +kernel)) ggX8_isDays_X8_in
theorem dX8_isDays_0 : decode cX8_isDays 0 = .ok (.aload_n 0, 1) := by decide +kernel
theorem dX8_isDays_1 : decode cX8_isDays 1 = .ok (.iload_n 1, 1) := by decide +kernel
theorem dX8_isDays_2 : decode cX8_isDays 2 = .ok (.iconst 0, 1) := by decide +kernel
theorem dX8_isDays_3 : decode cX8_isDays 3 = .ok (.bipush 60, 2) := by decide +kernel
theorem dX8_isDays_5 : decode cX8_isDays 5 = .ok (.invokevirtual 219, 3) := by decide +kernel
theorem dX8_isDays_8 : decode cX8_isDays 8 = .ok (.ireturn, 1) := by decide +kernel
set_option maxRecDepth 20000 in
theorem ggX8_isMany_X8_in : GoodIn wsX8_isMany wsX8_in := goodIn_r _ [5] (by decide +kernel) (by decide +kernel)
set_option maxRecDepth 20000 in
theorem gX8_isMany_X8_in : GoodIn wsX8_isMany (wsV RX8 219 RX8 yX8_in wsX8_in) := goodIn_app (goodIn_of _ (by decide +kernel)) ggX8_isMany_X8_in
theorem dX8_isMany_0 : decode cX8_isMany 0 = .ok (.aload_n 0, 1) := by decide +kernel
theorem dX8_isMany_1 : decode cX8_isMany 1 = .ok (.iload_n 1, 1) := by decide +kernel
theorem dX8_isMany_2 : decode cX8_isMany 2 = .ok (.iconst 0, 1) := by decide +kernel
theorem dX8_isMany_3 : decode cX8_isMany 3 = .ok (.bipush 6, 2) := by decide +kernel
theorem dX8_isMany_5 : decode cX8_isMany 5 = .ok (.invokevirtual 219, 3) := by decide +kernel
theorem dX8_isMany_8 : decode cX8_isMany 8 = .ok (.ireturn, 1) := by decide +kernel
set_option maxRecDepth 20000 in
theorem ggX8_thing_X8_in : GoodIn wsX8_thing wsX8_in := goodIn_r _ [10] (by decide +kernel) (by decide +kernel)
set_option maxRecDepth 20000 in
theorem gX8_thing_X8_in : GoodIn wsX8_thing (wsV RX8 219 RX8 yX8_in wsX8_in) := goodIn_app (goodIn_of _ (by decide +kernel)) ggX8_thing_X8_in
set_option maxRecDepth 20000 in
theorem ggX8_thing_X8_isMarks : GoodIn wsX8_thing wsX8_isMarks := goodIn_r _ [14, 6, 7, 8, 9, 10] (by decide +kernel) (by decide +kernel)
set_option maxRecDepth 20000 in
theorem gX8_thing_X8_isMarks : GoodIn wsX8_thing (wsV RX8 223 RX8 yX8_isMarks wsX8_isMarks) := goodIn_app (goodIn_of _ (by decide +kernel)) ggX8_thing_X8_isMarks
theorem dX8_thing_0 : decode cX8_thing 0 = .ok (.aload_n 0, 1) := by decide +kernel
theorem dX8_thing_1 : decode cX8_thing 1 = .ok (.iload_n 1, 1) := by decide +kernel
theorem dX8_thing_2 : decode cX8_thing 2 = .ok (.iconst 0, 1) := by decide +kernel
theorem dX8_thing_3 : decode cX8_thing 3 = .ok (.bipush 6, 2) := by decide +kernel
theorem dX8_thing_5 : decode cX8_thing 5 = .ok (.invokevirtual 219, 3) := by decide +kernel
theorem dX8_thing_8 : decode cX8_thing 8 = .ok (.ifCond .ne 5, 3) := by decide +kernel
theorem dX8_thing_11 : decode cX8_thing 11 = .ok (.iconst (-1), 1) := by decide +kernel
theorem dX8_thing_12 : decode cX8_thing 12 = .ok (.ireturn, 1) := by decide +kernel
theorem dX8_thing_13 : decode cX8_thing 13 = .ok (.aload_n 0, 1) := by decide +kernel
theorem dX8_thing_14 : decode cX8_thing 14 = .ok (.iload_n 2, 1) := by decide +kernel
theorem dX8_thing_15 : decode cX8_thing 15 = .ok (.iconst 0, 1) := by decide +kernel
theorem dX8_thing_16 : decode cX8_thing 16 = .ok (.bipush 9, 2) := by decide +kernel
theorem dX8_thing_18 : decode cX8_thing 18 = .ok (.invokevirtual 219, 3) := by decide +kernel
theorem dX8_thing_21 : decode cX8_thing 21 = .ok (.ifCond .eq 11, 3) := by decide +kernel
theorem dX8_thing_24 : decode cX8_thing 24 = .ok (.aload_n 0, 1) := by decide +kernel
theorem dX8_thing_25 : decode cX8_thing 25 = .ok (.iload_n 3, 1) := by decide +kernel
theorem dX8_thing_26 : decode cX8_thing 26 = .ok (.invokevirtual 223, 3) := by decide +kernel
theorem dX8_thing_29 : decode cX8_thing 29 = .ok (.ifCond .ne 6, 3) := by decide +kernel
theorem dX8_thing_32 : decode cX8_thing 32 = .ok (.bipush (-2), 2) := by decide +kernel
theorem dX8_thing_34 : decode cX8_thing 34 = .ok (.ireturn, 1) := by decide +kernel
theorem dX8_thing_35 : decode cX8_thing 35 = .ok (.aload_n 0, 1) := by decide +kernel
theorem dX8_thing_36 : decode cX8_thing 36 = .ok (.getfield 7, 3) := by decide +kernel
theorem dX8_thing_39 : decode cX8_thing 39 = .ok (.bipush 6, 2) := by decide +kernel
theorem dX8_thing_41 : decode cX8_thing 41 = .ok (.if_icmp .ne 6, 3) := by decide +kernel
theorem dX8_thing_44 : decode cX8_thing 44 = .ok (.bipush (-4), 2) := by decide +kernel
theorem dX8_thing_46 : decode cX8_thing 46 = .ok (.ireturn, 1) := by decide +kernel
theorem dX8_thing_47 : decode cX8_thing 47 = .ok (.aload_n 0, 1) := by decide +kernel
theorem dX8_thing_48 : decode cX8_thing 48 = .ok (.getfield 19, 3) := by decide +kernel
theorem dX8_thing_51 : decode cX8_thing 51 = .ok (.aload_n 0, 1) := by decide +kernel
theorem dX8_thing_52 : decode cX8_thing 52 = .ok (.getfield 7, 3) := by decide +kernel
theorem dX8_thing_55 : decode cX8_thing 55 = .ok (.iload_n 1, 1) := by decide +kernel
theorem dX8_thing_56 : decode cX8_thing 56 = .ok (.iastore, 1) := by decide +kernel
theorem dX8_thing_57 : decode cX8_thing 57 = .ok (.aload_n 0, 1) := by decide +kernel
theorem dX8_thing_58 : decode cX8_thing 58 = .ok (.getfield 23, 3) := by decide +kernel
theorem dX8_thing_61 : decode cX8_thing 61 = .ok (.aload_n 0, 1) := by decide +kernel
theorem dX8_thing_62 : decode cX8_thing 62 = .ok (.getfield 7, 3) := by decide +kernel
theorem dX8_thing_65 : decode cX8_thing 65 = .ok (.iload_n 2, 1) := by decide +kernel
theorem dX8_thing_66 : decode cX8_thing 66 = .ok (.iastore, 1) := by decide +kernel
theorem dX8_thing_67 : decode cX8_thing 67 = .ok (.aload_n 0, 1) := by decide +kernel
theorem dX8_thing_68 : decode cX8_thing 68 = .ok (.getfield 26, 3) := by decide +kernel
theorem dX8_thing_71 : decode cX8_thing 71 = .ok (.aload_n 0, 1) := by decide +kernel
theorem dX8_thing_72 : decode cX8_thing 72 = .ok (.getfield 7, 3) := by decide +kernel
theorem dX8_thing_75 : decode cX8_thing 75 = .ok (.iload_n 3, 1) := by decide +kernel
theorem dX8_thing_76 : decode cX8_thing 76 = .ok (.iastore, 1) := by decide +kernel
theorem dX8_thing_77 : decode cX8_thing 77 = .ok (.iconst 0, 1) := by decide +kernel
theorem dX8_thing_78 : decode cX8_thing 78 = .ok (.istore 4, 2) := by decide +kernel
theorem dX8_thing_80 : decode cX8_thing 80 = .ok (.iload 4, 2) := by decide +kernel
theorem dX8_thing_82 : decode cX8_thing 82 = .ok (.iconst 4, 1) := by decide +kernel
theorem dX8_thing_83 : decode cX8_thing 83 = .ok (.if_icmp .ge 24, 3) := by decide +kernel
theorem dX8_thing_86 : decode cX8_thing 86 = .ok (.aload_n 0, 1) := by decide +kernel
theorem dX8_thing_87 : decode cX8_thing 87 = .ok (.getfield 29, 3) := by decide +kernel
theorem dX8_thing_90 : decode cX8_thing 90 = .ok (.iconst 4, 1) := by decide +kernel
theorem dX8_thing_91 : decode cX8_thing 91 = .ok (.aload_n 0, 1) := by decide +kernel
theorem dX8_thing_92 : decode cX8_thing 92 = .ok (.getfield 7, 3) := by decide +kernel
theorem dX8_thing_95 : decode cX8_thing 95 = .ok (.imul, 1) := by decide +kernel
theorem dX8_thing_96 : decode cX8_thing 96 = .ok (.iload 4, 2) := by decide +kernel
theorem dX8_thing_98 : decode cX8_thing 98 = .ok (.iadd, 1) := by decide +kernel
theorem dX8_thing_99 : decode cX8_thing 99 = .ok (.iconst 0, 1) := by decide +kernel
theorem dX8_thing_100 : decode cX8_thing 100 = .ok (.iastore, 1) := by decide +kernel
theorem dX8_thing_101 : decode cX8_thing 101 = .ok (.iinc 4 1, 3) := by decide +kernel
theorem dX8_thing_104 : decode cX8_thing 104 = .ok (.goto (-24), 3) := by decide +kernel
theorem dX8_thing_107 : decode cX8_thing 107 = .ok (.aload_n 0, 1) := by decide +kernel
theorem dX8_thing_108 : decode cX8_thing 108 = .ok (.dup, 1) := by decide +kernel
theorem dX8_thing_109 : decode cX8_thing 109 = .ok (.getfield 7, 3) := by decide +kernel
theorem dX8_thing_112 : decode cX8_thing 112 = .ok (.iconst 1, 1) := by decide +kernel
theorem dX8_thing_113 : decode cX8_thing 113 = .ok (.iadd, 1) := by decide +kernel
theorem dX8_thing_114 : decode cX8_thing 114 = .ok (.putfield 7, 3) := by decide +kernel
theorem dX8_thing_117 : decode cX8_thing 117 = .ok (.aload_n 0, 1) := by decide +kernel
theorem dX8_thing_118 : decode cX8_thing 118 = .ok (.getfield 7, 3) := by decide +kernel
theorem dX8_thing_121 : decode cX8_thing 121 = .ok (.iconst 1, 1) := by decide +kernel
theorem dX8_thing_122 : decode cX8_thing 122 = .ok (.isub, 1) := by decide +kernel
theorem dX8_thing_123 : decode cX8_thing 123 = .ok (.ireturn, 1) := by decide +kernel
set_option maxRecDepth 20000 in
theorem ggX8_mark_X8_isThing : GoodIn wsX8_mark wsX8_isThing := goodIn_r _ [6, 7, 8, 9, 10, 5, 11, 16, 17, 18, 19, 20, 21, 22, 23, 24, 25, 26, 27, 28, 29, 30, 31, 32, 33, 34, 35, 36, 37, 38, 39, 40, 41, 42, 43, 44, 45, 46, 47, 48, 49, 50, 51, 52, 53, 54, 55, 56, 57, 58, 59, 60, 61, 62, 63, 64, 65, 66, 67, 68, 69, 70, 71, 72, 73, 74, 75, 76, 77, 78, 79, 80, 81, 82] (by decide +kernel) (by decide +kernel)
set_option maxRecDepth 20000 in
theorem gX8_mark_X8_isThing : GoodIn wsX8_mark (wsV RX8 227 RX8 yX8_isThing wsX8_isThing) := goodIn_app (goodIn_of _ (by decide +kernel)) ggX8_mark_X8_isThing
set_option maxRecDepth 20000 in
theorem ggX8_mark_X8_isMarks : GoodIn wsX8_mark wsX8_isMarks := goodIn_r _ [15, 8, 9, 10, 5, 11] (by decide +kernel) (by decide +kernel)
set_option maxRecDepth 20000 in
theorem gX8_mark_X8_isMarks : GoodIn wsX8_mark (wsV RX8 223 RX8 yX8_isMarks wsX8_isMarks) := goodIn_app (goodIn_of _ (by decide +kernel)) ggX8_mark_X8_isMarks
theorem dX8_mark_0 : decode cX8_mark 0 = .ok (.aload_n 0, 1) := by decide +kernel
theorem dX8_mark_1 : decode cX8_mark 1 = .ok (.iload_n 1, 1) := by decide +kernel
theorem dX8_mark_2 : decode cX8_mark 2 = .ok (.invokevirtual 227, 3) := by decide +kernel
theorem dX8_mark_5 : decode cX8_mark 5 = .ok (.ifCond .ne 5, 3) := by decide +kernel
theorem dX8_mark_8 : decode cX8_mark 8 = .ok (.iconst (-1), 1) := by decide +kernel
theorem dX8_mark_9 : decode cX8_mark 9 = .ok (.ireturn, 1) := by decide +kernel
theorem dX8_mark_10 : decode cX8_mark 10 = .ok (.aload_n 0, 1) := by decide +kernel
theorem dX8_mark_11 : decode cX8_mark 11 = .ok (.iload_n 2, 1) := by decide +kernel
theorem dX8_mark_12 : decode cX8_mark 12 = .ok (.invokevirtual 223, 3) := by decide +kernel
theorem dX8_mark_15 : decode cX8_mark 15 = .ok (.ifCond .ne 6, 3) := by decide +kernel
theorem dX8_mark_18 : decode cX8_mark 18 = .ok (.bipush (-2), 2) := by decide +kernel
theorem dX8_mark_20 : decode cX8_mark 20 = .ok (.ireturn, 1) := by decide +kernel
theorem dX8_mark_21 : decode cX8_mark 21 = .ok (.aload_n 0, 1) := by decide +kernel
theorem dX8_mark_22 : decode cX8_mark 22 = .ok (.getfield 26, 3) := by decide +kernel
theorem dX8_mark_25 : decode cX8_mark 25 = .ok (.iload_n 1, 1) := by decide +kernel
theorem dX8_mark_26 : decode cX8_mark 26 = .ok (.iaload, 1) := by decide +kernel
theorem dX8_mark_27 : decode cX8_mark 27 = .ok (.istore_n 3, 1) := by decide +kernel
theorem dX8_mark_28 : decode cX8_mark 28 = .ok (.aload_n 0, 1) := by decide +kernel
theorem dX8_mark_29 : decode cX8_mark 29 = .ok (.getfield 26, 3) := by decide +kernel
theorem dX8_mark_32 : decode cX8_mark 32 = .ok (.iload_n 1, 1) := by decide +kernel
theorem dX8_mark_33 : decode cX8_mark 33 = .ok (.iload_n 2, 1) := by decide +kernel
theorem dX8_mark_34 : decode cX8_mark 34 = .ok (.iastore, 1) := by decide +kernel
theorem dX8_mark_35 : decode cX8_mark 35 = .ok (.iload_n 3, 1) := by decide +kernel
theorem dX8_mark_36 : decode cX8_mark 36 = .ok (.ireturn, 1) := by decide +kernel
set_option maxRecDepth 20000 in
theorem ggX8_row_X8_isThing : GoodIn wsX8_row wsX8_isThing := goodIn_r _ [7, 8, 9, 10, 11, 6, 12, 13, 14, 15, 16, 17, 18, 19, 20, 21, 22, 23, 24, 25, 26, 27, 28, 29, 30, 31, 32, 33, 34, 35, 36, 37, 38, 39, 40, 41, 42, 43, 44, 45, 46, 47, 48, 49, 50, 51, 52, 53, 54, 55, 56, 57, 58, 59, 60, 61, 62, 63, 64, 65, 66, 67, 68, 69, 70, 71, 72, 73, 74, 75, 76, 77, 78, 79] (by decide +kernel) (by decide +kernel)
set_option maxRecDepth 20000 in
theorem gX8_row_X8_isThing : GoodIn wsX8_row (wsV RX8 227 RX8 yX8_isThing wsX8_isThing) := goodIn_app (goodIn_of _ (by decide +kernel)) ggX8_row_X8_isThing
set_option maxRecDepth 20000 in
theorem ggX8_row_X8_in : GoodIn wsX8_row wsX8_in := goodIn_r _ [12] (by decide +kernel) (by decide +kernel)
set_option maxRecDepth 20000 in
theorem gX8_row_X8_in : GoodIn wsX8_row (wsV RX8 219 RX8 yX8_in wsX8_in) := goodIn_app (goodIn_of _ (by decide +kernel)) ggX8_row_X8_in
theorem dX8_row_0 : decode cX8_row 0 = .ok (.aload_n 0, 1) := by decide +kernel
theorem dX8_row_1 : decode cX8_row 1 = .ok (.iload_n 1, 1) := by decide +kernel
theorem dX8_row_2 : decode cX8_row 2 = .ok (.invokevirtual 227, 3) := by decide +kernel
theorem dX8_row_5 : decode cX8_row 5 = .ok (.ifCond .eq 13, 3) := by decide +kernel
theorem dX8_row_8 : decode cX8_row 8 = .ok (.aload_n 0, 1) := by decide +kernel
theorem dX8_row_9 : decode cX8_row 9 = .ok (.iload_n 2, 1) := by decide +kernel
theorem dX8_row_10 : decode cX8_row 10 = .ok (.iconst 0, 1) := by decide +kernel
theorem dX8_row_11 : decode cX8_row 11 = .ok (.iconst 3, 1) := by decide +kernel
theorem dX8_row_12 : decode cX8_row 12 = .ok (.invokevirtual 219, 3) := by decide +kernel
theorem dX8_row_15 : decode cX8_row 15 = .ok (.ifCond .ne 5, 3) := by decide +kernel
theorem dX8_row_18 : decode cX8_row 18 = .ok (.iconst (-1), 1) := by decide +kernel
theorem dX8_row_19 : decode cX8_row 19 = .ok (.ireturn, 1) := by decide +kernel
theorem dX8_row_20 : decode cX8_row 20 = .ok (.aload_n 0, 1) := by decide +kernel
theorem dX8_row_21 : decode cX8_row 21 = .ok (.iload_n 3, 1) := by decide +kernel
theorem dX8_row_22 : decode cX8_row 22 = .ok (.iconst 0, 1) := by decide +kernel
theorem dX8_row_23 : decode cX8_row 23 = .ok (.bipush 9, 2) := by decide +kernel
theorem dX8_row_25 : decode cX8_row 25 = .ok (.invokevirtual 219, 3) := by decide +kernel
theorem dX8_row_28 : decode cX8_row 28 = .ok (.ifCond .ne 6, 3) := by decide +kernel
theorem dX8_row_31 : decode cX8_row 31 = .ok (.bipush (-2), 2) := by decide +kernel
theorem dX8_row_33 : decode cX8_row 33 = .ok (.ireturn, 1) := by decide +kernel
theorem dX8_row_34 : decode cX8_row 34 = .ok (.aload_n 0, 1) := by decide +kernel
theorem dX8_row_35 : decode cX8_row 35 = .ok (.getfield 19, 3) := by decide +kernel
theorem dX8_row_38 : decode cX8_row 38 = .ok (.iload_n 1, 1) := by decide +kernel
theorem dX8_row_39 : decode cX8_row 39 = .ok (.iaload, 1) := by decide +kernel
theorem dX8_row_40 : decode cX8_row 40 = .ok (.bipush 6, 2) := by decide +kernel
theorem dX8_row_42 : decode cX8_row 42 = .ok (.if_icmp .eq 6, 3) := by decide +kernel
theorem dX8_row_45 : decode cX8_row 45 = .ok (.bipush (-3), 2) := by decide +kernel
theorem dX8_row_47 : decode cX8_row 47 = .ok (.ireturn, 1) := by decide +kernel
theorem dX8_row_48 : decode cX8_row 48 = .ok (.aload_n 0, 1) := by decide +kernel
theorem dX8_row_49 : decode cX8_row 49 = .ok (.getfield 29, 3) := by decide +kernel
theorem dX8_row_52 : decode cX8_row 52 = .ok (.iconst 4, 1) := by decide +kernel
theorem dX8_row_53 : decode cX8_row 53 = .ok (.iload_n 1, 1) := by decide +kernel
theorem dX8_row_54 : decode cX8_row 54 = .ok (.imul, 1) := by decide +kernel
theorem dX8_row_55 : decode cX8_row 55 = .ok (.iload_n 2, 1) := by decide +kernel
theorem dX8_row_56 : decode cX8_row 56 = .ok (.iadd, 1) := by decide +kernel
theorem dX8_row_57 : decode cX8_row 57 = .ok (.iaload, 1) := by decide +kernel
theorem dX8_row_58 : decode cX8_row 58 = .ok (.istore 4, 2) := by decide +kernel
theorem dX8_row_60 : decode cX8_row 60 = .ok (.aload_n 0, 1) := by decide +kernel
theorem dX8_row_61 : decode cX8_row 61 = .ok (.getfield 29, 3) := by decide +kernel
theorem dX8_row_64 : decode cX8_row 64 = .ok (.iconst 4, 1) := by decide +kernel
theorem dX8_row_65 : decode cX8_row 65 = .ok (.iload_n 1, 1) := by decide +kernel
theorem dX8_row_66 : decode cX8_row 66 = .ok (.imul, 1) := by decide +kernel
theorem dX8_row_67 : decode cX8_row 67 = .ok (.iload_n 2, 1) := by decide +kernel
theorem dX8_row_68 : decode cX8_row 68 = .ok (.iadd, 1) := by decide +kernel
theorem dX8_row_69 : decode cX8_row 69 = .ok (.iload_n 3, 1) := by decide +kernel
theorem dX8_row_70 : decode cX8_row 70 = .ok (.iastore, 1) := by decide +kernel
theorem dX8_row_71 : decode cX8_row 71 = .ok (.iload 4, 2) := by decide +kernel
theorem dX8_row_73 : decode cX8_row 73 = .ok (.ireturn, 1) := by decide +kernel
theorem dX8_placeOf_0 : decode cX8_placeOf 0 = .ok (.iconst 0, 1) := by decide +kernel
theorem dX8_placeOf_1 : decode cX8_placeOf 1 = .ok (.istore_n 2, 1) := by decide +kernel
theorem dX8_placeOf_2 : decode cX8_placeOf 2 = .ok (.iload_n 2, 1) := by decide +kernel
theorem dX8_placeOf_3 : decode cX8_placeOf 3 = .ok (.aload_n 0, 1) := by decide +kernel
theorem dX8_placeOf_4 : decode cX8_placeOf 4 = .ok (.getfield 13, 3) := by decide +kernel
theorem dX8_placeOf_7 : decode cX8_placeOf 7 = .ok (.if_icmp .ge 21, 3) := by decide +kernel
theorem dX8_placeOf_10 : decode cX8_placeOf 10 = .ok (.aload_n 0, 1) := by decide +kernel
theorem dX8_placeOf_11 : decode cX8_placeOf 11 = .ok (.getfield 32, 3) := by decide +kernel
theorem dX8_placeOf_14 : decode cX8_placeOf 14 = .ok (.iload_n 2, 1) := by decide +kernel
theorem dX8_placeOf_15 : decode cX8_placeOf 15 = .ok (.iaload, 1) := by decide +kernel
theorem dX8_placeOf_16 : decode cX8_placeOf 16 = .ok (.iload_n 1, 1) := by decide +kernel
theorem dX8_placeOf_17 : decode cX8_placeOf 17 = .ok (.if_icmp .ne 5, 3) := by decide +kernel
theorem dX8_placeOf_20 : decode cX8_placeOf 20 = .ok (.iload_n 2, 1) := by decide +kernel
theorem dX8_placeOf_21 : decode cX8_placeOf 21 = .ok (.ireturn, 1) := by decide +kernel
theorem dX8_placeOf_22 : decode cX8_placeOf 22 = .ok (.iinc 2 1, 3) := by decide +kernel
theorem dX8_placeOf_25 : decode cX8_placeOf 25 = .ok (.goto (-23), 3) := by decide +kernel
theorem dX8_placeOf_28 : decode cX8_placeOf 28 = .ok (.bipush (-5), 2) := by decide +kernel
theorem dX8_placeOf_30 : decode cX8_placeOf 30 = .ok (.ireturn, 1) := by decide +kernel
set_option maxRecDepth 20000 in
theorem ggX8_isHad_X8_placeOf : GoodIn wsX8_isHad wsX8_placeOf := goodIn_r _ [5, 6, 7, 8, 9, 10, 11, 12, 13, 14, 15, 16, 17, 18, 19, 20, 21, 22, 23, 24, 25, 26, 27, 28, 29, 30, 31, 32, 33, 34, 35, 36, 37, 38, 39, 40, 41, 42, 43, 44, 45, 46, 47, 48, 49, 50, 51, 52, 53, 54, 55, 56, 57, 58, 59, 60, 61, 62, 63, 64, 65, 66, 67, 68, 69, 70, 71, 72, 73, 74] (by decide +kernel) (by decide +kernel)
set_option maxRecDepth 20000 in
theorem gX8_isHad_X8_placeOf : GoodIn wsX8_isHad (wsV RX8 230 RX8 yX8_placeOf wsX8_placeOf) := goodIn_app (goodIn_of _ (by decide +kernel)) ggX8_isHad_X8_placeOf
theorem dX8_isHad_0 : decode cX8_isHad 0 = .ok (.aload_n 0, 1) := by decide +kernel
theorem dX8_isHad_1 : decode cX8_isHad 1 = .ok (.iload_n 1, 1) := by decide +kernel
theorem dX8_isHad_2 : decode cX8_isHad 2 = .ok (.invokevirtual 230, 3) := by decide +kernel
theorem dX8_isHad_5 : decode cX8_isHad 5 = .ok (.ifCond .lt 7, 3) := by decide +kernel
theorem dX8_isHad_8 : decode cX8_isHad 8 = .ok (.iconst 1, 1) := by decide +kernel
theorem dX8_isHad_9 : decode cX8_isHad 9 = .ok (.goto 4, 3) := by decide +kernel
theorem dX8_isHad_12 : decode cX8_isHad 12 = .ok (.iconst 0, 1) := by decide +kernel
theorem dX8_isHad_13 : decode cX8_isHad 13 = .ok (.ireturn, 1) := by decide +kernel
theorem dX8_hadSet_0 : decode cX8_hadSet 0 = .ok (.iconst 0, 1) := by decide +kernel
theorem dX8_hadSet_1 : decode cX8_hadSet 1 = .ok (.istore_n 1, 1) := by decide +kernel
theorem dX8_hadSet_2 : decode cX8_hadSet 2 = .ok (.iconst 0, 1) := by decide +kernel
theorem dX8_hadSet_3 : decode cX8_hadSet 3 = .ok (.istore_n 2, 1) := by decide +kernel
theorem dX8_hadSet_4 : decode cX8_hadSet 4 = .ok (.iload_n 2, 1) := by decide +kernel
theorem dX8_hadSet_5 : decode cX8_hadSet 5 = .ok (.aload_n 0, 1) := by decide +kernel
theorem dX8_hadSet_6 : decode cX8_hadSet 6 = .ok (.getfield 13, 3) := by decide +kernel
theorem dX8_hadSet_9 : decode cX8_hadSet 9 = .ok (.if_icmp .ge 20, 3) := by decide +kernel
theorem dX8_hadSet_12 : decode cX8_hadSet 12 = .ok (.iload_n 1, 1) := by decide +kernel
theorem dX8_hadSet_13 : decode cX8_hadSet 13 = .ok (.iconst 1, 1) := by decide +kernel
theorem dX8_hadSet_14 : decode cX8_hadSet 14 = .ok (.aload_n 0, 1) := by decide +kernel
theorem dX8_hadSet_15 : decode cX8_hadSet 15 = .ok (.getfield 32, 3) := by decide +kernel
theorem dX8_hadSet_18 : decode cX8_hadSet 18 = .ok (.iload_n 2, 1) := by decide +kernel
theorem dX8_hadSet_19 : decode cX8_hadSet 19 = .ok (.iaload, 1) := by decide +kernel
theorem dX8_hadSet_20 : decode cX8_hadSet 20 = .ok (.ishl, 1) := by decide +kernel
theorem dX8_hadSet_21 : decode cX8_hadSet 21 = .ok (.ior, 1) := by decide +kernel
theorem dX8_hadSet_22 : decode cX8_hadSet 22 = .ok (.istore_n 1, 1) := by decide +kernel
theorem dX8_hadSet_23 : decode cX8_hadSet 23 = .ok (.iinc 2 1, 3) := by decide +kernel
theorem dX8_hadSet_26 : decode cX8_hadSet 26 = .ok (.goto (-22), 3) := by decide +kernel
theorem dX8_hadSet_29 : decode cX8_hadSet 29 = .ok (.iload_n 1, 1) := by decide +kernel
theorem dX8_hadSet_30 : decode cX8_hadSet 30 = .ok (.ireturn, 1) := by decide +kernel
theorem dX8_hadMarks_0 : decode cX8_hadMarks 0 = .ok (.iconst 0, 1) := by decide +kernel
theorem dX8_hadMarks_1 : decode cX8_hadMarks 1 = .ok (.istore_n 1, 1) := by decide +kernel
theorem dX8_hadMarks_2 : decode cX8_hadMarks 2 = .ok (.iconst 0, 1) := by decide +kernel
theorem dX8_hadMarks_3 : decode cX8_hadMarks 3 = .ok (.istore_n 2, 1) := by decide +kernel
theorem dX8_hadMarks_4 : decode cX8_hadMarks 4 = .ok (.iload_n 2, 1) := by decide +kernel
theorem dX8_hadMarks_5 : decode cX8_hadMarks 5 = .ok (.aload_n 0, 1) := by decide +kernel
theorem dX8_hadMarks_6 : decode cX8_hadMarks 6 = .ok (.getfield 13, 3) := by decide +kernel
theorem dX8_hadMarks_9 : decode cX8_hadMarks 9 = .ok (.if_icmp .ge 23, 3) := by decide +kernel
theorem dX8_hadMarks_12 : decode cX8_hadMarks 12 = .ok (.iload_n 1, 1) := by decide +kernel
theorem dX8_hadMarks_13 : decode cX8_hadMarks 13 = .ok (.aload_n 0, 1) := by decide +kernel
theorem dX8_hadMarks_14 : decode cX8_hadMarks 14 = .ok (.getfield 26, 3) := by decide +kernel
theorem dX8_hadMarks_17 : decode cX8_hadMarks 17 = .ok (.aload_n 0, 1) := by decide +kernel
theorem dX8_hadMarks_18 : decode cX8_hadMarks 18 = .ok (.getfield 32, 3) := by decide +kernel
theorem dX8_hadMarks_21 : decode cX8_hadMarks 21 = .ok (.iload_n 2, 1) := by decide +kernel
theorem dX8_hadMarks_22 : decode cX8_hadMarks 22 = .ok (.iaload, 1) := by decide +kernel
theorem dX8_hadMarks_23 : decode cX8_hadMarks 23 = .ok (.iaload, 1) := by decide +kernel
theorem dX8_hadMarks_24 : decode cX8_hadMarks 24 = .ok (.ior, 1) := by decide +kernel
theorem dX8_hadMarks_25 : decode cX8_hadMarks 25 = .ok (.istore_n 1, 1) := by decide +kernel
theorem dX8_hadMarks_26 : decode cX8_hadMarks 26 = .ok (.iinc 2 1, 3) := by decide +kernel
theorem dX8_hadMarks_29 : decode cX8_hadMarks 29 = .ok (.goto (-25), 3) := by decide +kernel
theorem dX8_hadMarks_32 : decode cX8_hadMarks 32 = .ok (.iload_n 1, 1) := by decide +kernel
theorem dX8_hadMarks_33 : decode cX8_hadMarks 33 = .ok (.ireturn, 1) := by decide +kernel
set_option maxRecDepth 20000 in
theorem ggX8_feed_X8_in : GoodIn wsX8_feed wsX8_in := goodIn_r _ [7] (by decide +kernel) (by decide +kernel)
set_option maxRecDepth 20000 in
theorem gX8_feed_X8_in : GoodIn wsX8_feed (wsV RX8 219 RX8 yX8_in wsX8_in) := goodIn_app (goodIn_of _ (by decide +kernel)) ggX8_feed_X8_in
theorem dX8_feed_0 : decode cX8_feed 0 = .ok (.aload_n 0, 1) := by decide +kernel
theorem dX8_feed_1 : decode cX8_feed 1 = .ok (.iload_n 1, 1) := by decide +kernel
theorem dX8_feed_2 : decode cX8_feed 2 = .ok (.iconst 0, 1) := by decide +kernel
theorem dX8_feed_3 : decode cX8_feed 3 = .ok (.bipush 127, 2) := by decide +kernel
theorem dX8_feed_5 : decode cX8_feed 5 = .ok (.invokevirtual 219, 3) := by decide +kernel
theorem dX8_feed_8 : decode cX8_feed 8 = .ok (.ifCond .ne 6, 3) := by decide +kernel
theorem dX8_feed_11 : decode cX8_feed 11 = .ok (.bipush (-2), 2) := by decide +kernel
theorem dX8_feed_13 : decode cX8_feed 13 = .ok (.ireturn, 1) := by decide +kernel
theorem dX8_feed_14 : decode cX8_feed 14 = .ok (.aload_n 0, 1) := by decide +kernel
theorem dX8_feed_15 : decode cX8_feed 15 = .ok (.getfield 41, 3) := by decide +kernel
theorem dX8_feed_18 : decode cX8_feed 18 = .ok (.bipush 100, 2) := by decide +kernel
theorem dX8_feed_20 : decode cX8_feed 20 = .ok (.if_icmp .ne 6, 3) := by decide +kernel
theorem dX8_feed_23 : decode cX8_feed 23 = .ok (.bipush (-4), 2) := by decide +kernel
theorem dX8_feed_25 : decode cX8_feed 25 = .ok (.ireturn, 1) := by decide +kernel
theorem dX8_feed_26 : decode cX8_feed 26 = .ok (.aload_n 0, 1) := by decide +kernel
theorem dX8_feed_27 : decode cX8_feed 27 = .ok (.getfield 50, 3) := by decide +kernel
theorem dX8_feed_30 : decode cX8_feed 30 = .ok (.aload_n 0, 1) := by decide +kernel
theorem dX8_feed_31 : decode cX8_feed 31 = .ok (.getfield 41, 3) := by decide +kernel
theorem dX8_feed_34 : decode cX8_feed 34 = .ok (.iload_n 1, 1) := by decide +kernel
theorem dX8_feed_35 : decode cX8_feed 35 = .ok (.iastore, 1) := by decide +kernel
theorem dX8_feed_36 : decode cX8_feed 36 = .ok (.aload_n 0, 1) := by decide +kernel
theorem dX8_feed_37 : decode cX8_feed 37 = .ok (.dup, 1) := by decide +kernel
theorem dX8_feed_38 : decode cX8_feed 38 = .ok (.getfield 41, 3) := by decide +kernel
theorem dX8_feed_41 : decode cX8_feed 41 = .ok (.iconst 1, 1) := by decide +kernel
theorem dX8_feed_42 : decode cX8_feed 42 = .ok (.iadd, 1) := by decide +kernel
theorem dX8_feed_43 : decode cX8_feed 43 = .ok (.putfield 41, 3) := by decide +kernel
theorem dX8_feed_46 : decode cX8_feed 46 = .ok (.aload_n 0, 1) := by decide +kernel
theorem dX8_feed_47 : decode cX8_feed 47 = .ok (.getfield 41, 3) := by decide +kernel
theorem dX8_feed_50 : decode cX8_feed 50 = .ok (.ireturn, 1) := by decide +kernel
theorem dX8_next_0 : decode cX8_next 0 = .ok (.aload_n 0, 1) := by decide +kernel
theorem dX8_next_1 : decode cX8_next 1 = .ok (.getfield 44, 3) := by decide +kernel
theorem dX8_next_4 : decode cX8_next 4 = .ok (.aload_n 0, 1) := by decide +kernel
theorem dX8_next_5 : decode cX8_next 5 = .ok (.getfield 41, 3) := by decide +kernel
theorem dX8_next_8 : decode cX8_next 8 = .ok (.if_icmp .ge 15, 3) := by decide +kernel
theorem dX8_next_11 : decode cX8_next 11 = .ok (.aload_n 0, 1) := by decide +kernel
theorem dX8_next_12 : decode cX8_next 12 = .ok (.getfield 50, 3) := by decide +kernel
theorem dX8_next_15 : decode cX8_next 15 = .ok (.aload_n 0, 1) := by decide +kernel
theorem dX8_next_16 : decode cX8_next 16 = .ok (.getfield 44, 3) := by decide +kernel
theorem dX8_next_19 : decode cX8_next 19 = .ok (.iaload, 1) := by decide +kernel
theorem dX8_next_20 : decode cX8_next 20 = .ok (.goto 4, 3) := by decide +kernel
theorem dX8_next_23 : decode cX8_next 23 = .ok (.iconst (-1), 1) := by decide +kernel
theorem dX8_next_24 : decode cX8_next 24 = .ok (.ireturn, 1) := by decide +kernel
set_option maxRecDepth 20000 in
theorem ggX8_takes_X8_next : GoodIn wsX8_takes wsX8_next := goodIn_r _ [6, 1, 7, 8, 9, 10, 11, 12, 13, 14, 15, 16, 17, 18, 19, 20, 21, 22, 23, 24, 25, 26, 27, 28, 29, 30, 31, 32, 33, 34, 35, 36, 37, 38, 39, 40, 41, 42, 43, 44, 45, 46, 47, 48, 49, 50, 51, 52, 53, 54, 55, 56, 57, 58, 59, 60, 61, 62, 63, 64, 65, 66, 67, 68, 69, 70, 71, 72, 73, 74, 75] (by decide +kernel) (by decide +kernel)
set_option maxRecDepth 20000 in
theorem gX8_takes_X8_next : GoodIn wsX8_takes (wsV RX8 234 RX8 yX8_next wsX8_next) := goodIn_app (goodIn_of _ (by decide +kernel)) ggX8_takes_X8_next
theorem dX8_takes_0 : decode cX8_takes 0 = .ok (.aload_n 0, 1) := by decide +kernel
theorem dX8_takes_1 : decode cX8_takes 1 = .ok (.invokevirtual 234, 3) := by decide +kernel
theorem dX8_takes_4 : decode cX8_takes 4 = .ok (.iload_n 1, 1) := by decide +kernel
theorem dX8_takes_5 : decode cX8_takes 5 = .ok (.if_icmp .eq 5, 3) := by decide +kernel
theorem dX8_takes_8 : decode cX8_takes 8 = .ok (.iconst 0, 1) := by decide +kernel
theorem dX8_takes_9 : decode cX8_takes 9 = .ok (.ireturn, 1) := by decide +kernel
theorem dX8_takes_10 : decode cX8_takes 10 = .ok (.aload_n 0, 1) := by decide +kernel
theorem dX8_takes_11 : decode cX8_takes 11 = .ok (.dup, 1) := by decide +kernel
theorem dX8_takes_12 : decode cX8_takes 12 = .ok (.getfield 44, 3) := by decide +kernel
theorem dX8_takes_15 : decode cX8_takes 15 = .ok (.iconst 1, 1) := by decide +kernel
theorem dX8_takes_16 : decode cX8_takes 16 = .ok (.iadd, 1) := by decide +kernel
theorem dX8_takes_17 : decode cX8_takes 17 = .ok (.putfield 44, 3) := by decide +kernel
theorem dX8_takes_20 : decode cX8_takes 20 = .ok (.iconst 1, 1) := by decide +kernel
theorem dX8_takes_21 : decode cX8_takes 21 = .ok (.ireturn, 1) := by decide +kernel
set_option maxRecDepth 20000 in
theorem ggX8_takesWord_X8_takes : GoodIn wsX8_takesWord wsX8_takes := goodIn_r _ [6, 7, 8, 9, 10, 5, 11, 12, 13, 14, 15, 16, 17, 18, 19, 20, 21, 22, 23, 24, 25, 26, 27, 28, 29, 30, 31, 32, 33, 34, 35, 36, 37, 38, 39, 40, 41, 42, 43, 44, 45, 46, 47, 48, 49, 50, 51, 52, 53, 54, 55, 56, 57, 58, 59, 60, 61, 62, 63, 64, 65, 66, 67, 68, 69, 70, 71, 72, 73, 74, 75, 76, 77, 78, 79, 80] (by decide +kernel) (by decide +kernel)
set_option maxRecDepth 20000 in
theorem gX8_takesWord_X8_takes : GoodIn wsX8_takesWord (wsV RX8 238 RX8 yX8_takes wsX8_takes) := goodIn_app (goodIn_of _ (by decide +kernel)) ggX8_takesWord_X8_takes
theorem dX8_takesWord_0 : decode cX8_takesWord 0 = .ok (.iconst 0, 1) := by decide +kernel
theorem dX8_takesWord_1 : decode cX8_takesWord 1 = .ok (.istore_n 3, 1) := by decide +kernel
theorem dX8_takesWord_2 : decode cX8_takesWord 2 = .ok (.iload_n 3, 1) := by decide +kernel
theorem dX8_takesWord_3 : decode cX8_takesWord 3 = .ok (.iload_n 2, 1) := by decide +kernel
theorem dX8_takesWord_4 : decode cX8_takesWord 4 = .ok (.if_icmp .ge 26, 3) := by decide +kernel
theorem dX8_takesWord_7 : decode cX8_takesWord 7 = .ok (.aload_n 0, 1) := by decide +kernel
theorem dX8_takesWord_8 : decode cX8_takesWord 8 = .ok (.aload_n 0, 1) := by decide +kernel
theorem dX8_takesWord_9 : decode cX8_takesWord 9 = .ok (.getfield 83, 3) := by decide +kernel
theorem dX8_takesWord_12 : decode cX8_takesWord 12 = .ok (.iload_n 1, 1) := by decide +kernel
theorem dX8_takesWord_13 : decode cX8_takesWord 13 = .ok (.iload_n 3, 1) := by decide +kernel
theorem dX8_takesWord_14 : decode cX8_takesWord 14 = .ok (.iadd, 1) := by decide +kernel
theorem dX8_takesWord_15 : decode cX8_takesWord 15 = .ok (.iaload, 1) := by decide +kernel
theorem dX8_takesWord_16 : decode cX8_takesWord 16 = .ok (.invokevirtual 238, 3) := by decide +kernel
theorem dX8_takesWord_19 : decode cX8_takesWord 19 = .ok (.ifCond .ne 5, 3) := by decide +kernel
theorem dX8_takesWord_22 : decode cX8_takesWord 22 = .ok (.iconst 0, 1) := by decide +kernel
theorem dX8_takesWord_23 : decode cX8_takesWord 23 = .ok (.ireturn, 1) := by decide +kernel
theorem dX8_takesWord_24 : decode cX8_takesWord 24 = .ok (.iinc 3 1, 3) := by decide +kernel
theorem dX8_takesWord_27 : decode cX8_takesWord 27 = .ok (.goto (-25), 3) := by decide +kernel
theorem dX8_takesWord_30 : decode cX8_takesWord 30 = .ok (.aload_n 0, 1) := by decide +kernel
theorem dX8_takesWord_31 : decode cX8_takesWord 31 = .ok (.bipush 32, 2) := by decide +kernel
theorem dX8_takesWord_33 : decode cX8_takesWord 33 = .ok (.invokevirtual 238, 3) := by decide +kernel
theorem dX8_takesWord_36 : decode cX8_takesWord 36 = .ok (.ireturn, 1) := by decide +kernel
set_option maxRecDepth 20000 in
theorem ggX8_isDigit_X8_next : GoodIn wsX8_isDigit wsX8_next := goodIn_r _ [5, 6, 7, 8, 13, 14, 15, 16, 17, 18, 19, 20, 21, 22, 23, 24, 25, 26, 27, 28, 29, 30, 31, 32, 33, 34, 35, 36, 37, 38, 39, 40, 41, 42, 43, 44, 45, 46, 47, 48, 49, 50, 51, 52, 53, 54, 55, 56, 57, 58, 59, 60, 61, 62, 63, 64, 65, 66, 67, 68, 69, 70, 71, 72, 73, 74, 75, 76, 77, 78, 79] (by decide +kernel) (by decide +kernel)
set_option maxRecDepth 20000 in
theorem gX8_isDigit_X8_next : GoodIn wsX8_isDigit (wsV RX8 234 RX8 yX8_next wsX8_next) := goodIn_app (goodIn_of _ (by decide +kernel)) ggX8_isDigit_X8_next
set_option maxRecDepth 20000 in
theorem ggX8_isDigit_X8_in : GoodIn wsX8_isDigit wsX8_in := goodIn_r _ [12] (by decide +kernel) (by decide +kernel)
set_option maxRecDepth 20000 in
theorem gX8_isDigit_X8_in : GoodIn wsX8_isDigit (wsV RX8 219 RX8 yX8_in wsX8_in) := goodIn_app (goodIn_of _ (by decide +kernel)) ggX8_isDigit_X8_in
theorem dX8_isDigit_0 : decode cX8_isDigit 0 = .ok (.aload_n 0, 1) := by decide +kernel
theorem dX8_isDigit_1 : decode cX8_isDigit 1 = .ok (.aload_n 0, 1) := by decide +kernel
theorem dX8_isDigit_2 : decode cX8_isDigit 2 = .ok (.invokevirtual 234, 3) := by decide +kernel
theorem dX8_isDigit_5 : decode cX8_isDigit 5 = .ok (.bipush 48, 2) := by decide +kernel
theorem dX8_isDigit_7 : decode cX8_isDigit 7 = .ok (.bipush 57, 2) := by decide +kernel
theorem dX8_isDigit_9 : decode cX8_isDigit 9 = .ok (.invokevirtual 219, 3) := by decide +kernel
theorem dX8_isDigit_12 : decode cX8_isDigit 12 = .ok (.ireturn, 1) := by decide +kernel
set_option maxRecDepth 20000 in
theorem ggX8_takesNumber_X8_isDigit : GoodIn wsX8_takesNumber wsX8_isDigit := goodIn_r _ [7, 8, 9, 10, 6, 11, 2, 12, 13, 14, 15, 16, 17, 18, 19, 20, 21, 22, 23, 24, 25, 26, 27, 28, 29, 30, 31, 32, 33, 34, 35, 36, 37, 38, 39, 40, 41, 42, 43, 44, 45, 46, 47, 48, 49, 50, 51, 52, 53, 54, 55, 56, 57, 58, 59, 60, 61, 62, 63, 64, 65, 66, 67, 68, 69, 70, 71, 72, 73, 74, 75, 76, 77, 78, 79, 80, 81, 82, 83, 84] (by decide +kernel) (by decide +kernel)
set_option maxRecDepth 20000 in
theorem gX8_takesNumber_X8_isDigit : GoodIn wsX8_takesNumber (wsV RX8 241 RX8 yX8_isDigit wsX8_isDigit) := goodIn_app (goodIn_of _ (by decide +kernel)) ggX8_takesNumber_X8_isDigit
set_option maxRecDepth 20000 in
theorem ggX8_takesNumber_X8_next : GoodIn wsX8_takesNumber wsX8_next := goodIn_r _ [11, 2, 12, 13, 18, 19, 20, 21, 22, 23, 24, 25, 26, 27, 28, 29, 30, 31, 32, 33, 34, 35, 36, 37, 38, 39, 40, 41, 42, 43, 44, 45, 46, 47, 48, 49, 50, 51, 52, 53, 54, 55, 56, 57, 58, 59, 60, 61, 62, 63, 64, 65, 66, 67, 68, 69, 70, 71, 72, 73, 74, 75, 76, 77, 78, 79, 80, 81, 82, 83, 84] (by decide +kernel) (by decide +kernel)
set_option maxRecDepth 20000 in
theorem gX8_takesNumber_X8_next : GoodIn wsX8_takesNumber (wsV RX8 234 RX8 yX8_next wsX8_next) := goodIn_app (goodIn_of _ (by decide +kernel)) ggX8_takesNumber_X8_next
theorem dX8_takesNumber_0 : decode cX8_takesNumber 0 = .ok (.aload_n 0, 1) := by decide +kernel
theorem dX8_takesNumber_1 : decode cX8_takesNumber 1 = .ok (.invokevirtual 241, 3) := by decide +kernel
theorem dX8_takesNumber_4 : decode cX8_takesNumber 4 = .ok (.ifCond .ne 5, 3) := by decide +kernel
theorem dX8_takesNumber_7 : decode cX8_takesNumber 7 = .ok (.iconst 0, 1) := by decide +kernel
theorem dX8_takesNumber_8 : decode cX8_takesNumber 8 = .ok (.ireturn, 1) := by decide +kernel
theorem dX8_takesNumber_9 : decode cX8_takesNumber 9 = .ok (.aload_n 0, 1) := by decide +kernel
theorem dX8_takesNumber_10 : decode cX8_takesNumber 10 = .ok (.iconst 0, 1) := by decide +kernel
theorem dX8_takesNumber_11 : decode cX8_takesNumber 11 = .ok (.putfield 47, 3) := by decide +kernel
theorem dX8_takesNumber_14 : decode cX8_takesNumber 14 = .ok (.iconst 0, 1) := by decide +kernel
theorem dX8_takesNumber_15 : decode cX8_takesNumber 15 = .ok (.istore_n 1, 1) := by decide +kernel
theorem dX8_takesNumber_16 : decode cX8_takesNumber 16 = .ok (.iload_n 1, 1) := by decide +kernel
theorem dX8_takesNumber_17 : decode cX8_takesNumber 17 = .ok (.iconst 2, 1) := by decide +kernel
theorem dX8_takesNumber_18 : decode cX8_takesNumber 18 = .ok (.if_icmp .ge 45, 3) := by decide +kernel
theorem dX8_takesNumber_21 : decode cX8_takesNumber 21 = .ok (.aload_n 0, 1) := by decide +kernel
theorem dX8_takesNumber_22 : decode cX8_takesNumber 22 = .ok (.invokevirtual 241, 3) := by decide +kernel
theorem dX8_takesNumber_25 : decode cX8_takesNumber 25 = .ok (.ifCond .eq 38, 3) := by decide +kernel
theorem dX8_takesNumber_28 : decode cX8_takesNumber 28 = .ok (.aload_n 0, 1) := by decide +kernel
theorem dX8_takesNumber_29 : decode cX8_takesNumber 29 = .ok (.bipush 10, 2) := by decide +kernel
theorem dX8_takesNumber_31 : decode cX8_takesNumber 31 = .ok (.aload_n 0, 1) := by decide +kernel
theorem dX8_takesNumber_32 : decode cX8_takesNumber 32 = .ok (.getfield 47, 3) := by decide +kernel
theorem dX8_takesNumber_35 : decode cX8_takesNumber 35 = .ok (.imul, 1) := by decide +kernel
theorem dX8_takesNumber_36 : decode cX8_takesNumber 36 = .ok (.aload_n 0, 1) := by decide +kernel
theorem dX8_takesNumber_37 : decode cX8_takesNumber 37 = .ok (.invokevirtual 234, 3) := by decide +kernel
theorem dX8_takesNumber_40 : decode cX8_takesNumber 40 = .ok (.iadd, 1) := by decide +kernel
theorem dX8_takesNumber_41 : decode cX8_takesNumber 41 = .ok (.bipush 48, 2) := by decide +kernel
theorem dX8_takesNumber_43 : decode cX8_takesNumber 43 = .ok (.isub, 1) := by decide +kernel
theorem dX8_takesNumber_44 : decode cX8_takesNumber 44 = .ok (.putfield 47, 3) := by decide +kernel
theorem dX8_takesNumber_47 : decode cX8_takesNumber 47 = .ok (.aload_n 0, 1) := by decide +kernel
theorem dX8_takesNumber_48 : decode cX8_takesNumber 48 = .ok (.dup, 1) := by decide +kernel
theorem dX8_takesNumber_49 : decode cX8_takesNumber 49 = .ok (.getfield 44, 3) := by decide +kernel
theorem dX8_takesNumber_52 : decode cX8_takesNumber 52 = .ok (.iconst 1, 1) := by decide +kernel
theorem dX8_takesNumber_53 : decode cX8_takesNumber 53 = .ok (.iadd, 1) := by decide +kernel
theorem dX8_takesNumber_54 : decode cX8_takesNumber 54 = .ok (.putfield 44, 3) := by decide +kernel
theorem dX8_takesNumber_57 : decode cX8_takesNumber 57 = .ok (.iinc 1 1, 3) := by decide +kernel
theorem dX8_takesNumber_60 : decode cX8_takesNumber 60 = .ok (.goto (-44), 3) := by decide +kernel
theorem dX8_takesNumber_63 : decode cX8_takesNumber 63 = .ok (.iconst 1, 1) := by decide +kernel
theorem dX8_takesNumber_64 : decode cX8_takesNumber 64 = .ok (.ireturn, 1) := by decide +kernel
theorem dX8_emits_0 : decode cX8_emits 0 = .ok (.aload_n 0, 1) := by decide +kernel
theorem dX8_emits_1 : decode cX8_emits 1 = .ok (.getfield 68, 3) := by decide +kernel
theorem dX8_emits_4 : decode cX8_emits 4 = .ok (.aload_n 0, 1) := by decide +kernel
theorem dX8_emits_5 : decode cX8_emits 5 = .ok (.getfield 74, 3) := by decide +kernel
theorem dX8_emits_8 : decode cX8_emits 8 = .ok (.iload_n 1, 1) := by decide +kernel
theorem dX8_emits_9 : decode cX8_emits 9 = .ok (.iastore, 1) := by decide +kernel
theorem dX8_emits_10 : decode cX8_emits 10 = .ok (.aload_n 0, 1) := by decide +kernel
theorem dX8_emits_11 : decode cX8_emits 11 = .ok (.dup, 1) := by decide +kernel
theorem dX8_emits_12 : decode cX8_emits 12 = .ok (.getfield 74, 3) := by decide +kernel
theorem dX8_emits_15 : decode cX8_emits 15 = .ok (.iconst 1, 1) := by decide +kernel
theorem dX8_emits_16 : decode cX8_emits 16 = .ok (.iadd, 1) := by decide +kernel
theorem dX8_emits_17 : decode cX8_emits 17 = .ok (.putfield 74, 3) := by decide +kernel
theorem dX8_emits_20 : decode cX8_emits 20 = .ok (.return_, 1) := by decide +kernel
set_option maxRecDepth 20000 in
theorem ggX8_whole_X8_emits : GoodIn wsX8_whole wsX8_emits := goodIn_r _ [8, 9, 10, 11, 12, 13, 14, 15, 16, 17, 18, 19, 20, 21, 22, 23, 24, 25, 26, 27, 28, 29, 30, 31, 32, 33, 34, 35, 36, 37, 38, 39, 40, 41, 42, 43, 44, 45, 46, 47, 48, 49, 50, 51, 52, 53, 54, 55, 56, 57, 58, 59, 60, 61, 62, 63, 64, 65, 66, 67, 68, 69, 70, 71, 72, 73, 74, 75, 76, 77] (by decide +kernel) (by decide +kernel)
set_option maxRecDepth 20000 in
theorem gX8_whole_X8_emits : GoodIn wsX8_whole (wsV RX8 245 RX8 yX8_emits wsX8_emits) := goodIn_app (goodIn_of _ (by decide +kernel)) ggX8_whole_X8_emits
theorem dX8_whole_0 : decode cX8_whole 0 = .ok (.aload_n 0, 1) := by decide +kernel
theorem dX8_whole_1 : decode cX8_whole 1 = .ok (.getfield 77, 3) := by decide +kernel
theorem dX8_whole_4 : decode cX8_whole 4 = .ok (.ifCond .le 48, 3) := by decide +kernel
theorem dX8_whole_7 : decode cX8_whole 7 = .ok (.aload_n 0, 1) := by decide +kernel
theorem dX8_whole_8 : decode cX8_whole 8 = .ok (.getfield 71, 3) := by decide +kernel
theorem dX8_whole_11 : decode cX8_whole 11 = .ok (.aload_n 0, 1) := by decide +kernel
theorem dX8_whole_12 : decode cX8_whole 12 = .ok (.getfield 77, 3) := by decide +kernel
theorem dX8_whole_15 : decode cX8_whole 15 = .ok (.iconst 1, 1) := by decide +kernel
theorem dX8_whole_16 : decode cX8_whole 16 = .ok (.isub, 1) := by decide +kernel
theorem dX8_whole_17 : decode cX8_whole 17 = .ok (.iaload, 1) := by decide +kernel
theorem dX8_whole_18 : decode cX8_whole 18 = .ok (.bipush 33, 2) := by decide +kernel
theorem dX8_whole_20 : decode cX8_whole 20 = .ok (.if_icmp .ne 32, 3) := by decide +kernel
theorem dX8_whole_23 : decode cX8_whole 23 = .ok (.aload_n 0, 1) := by decide +kernel
theorem dX8_whole_24 : decode cX8_whole 24 = .ok (.bipush (-33), 2) := by decide +kernel
theorem dX8_whole_26 : decode cX8_whole 26 = .ok (.invokevirtual 245, 3) := by decide +kernel
theorem dX8_whole_29 : decode cX8_whole 29 = .ok (.aload_n 0, 1) := by decide +kernel
theorem dX8_whole_30 : decode cX8_whole 30 = .ok (.dup, 1) := by decide +kernel
theorem dX8_whole_31 : decode cX8_whole 31 = .ok (.getfield 77, 3) := by decide +kernel
theorem dX8_whole_34 : decode cX8_whole 34 = .ok (.iconst 1, 1) := by decide +kernel
theorem dX8_whole_35 : decode cX8_whole 35 = .ok (.isub, 1) := by decide +kernel
theorem dX8_whole_36 : decode cX8_whole 36 = .ok (.putfield 77, 3) := by decide +kernel
theorem dX8_whole_39 : decode cX8_whole 39 = .ok (.aload_n 0, 1) := by decide +kernel
theorem dX8_whole_40 : decode cX8_whole 40 = .ok (.dup, 1) := by decide +kernel
theorem dX8_whole_41 : decode cX8_whole 41 = .ok (.getfield 80, 3) := by decide +kernel
theorem dX8_whole_44 : decode cX8_whole 44 = .ok (.iconst 1, 1) := by decide +kernel
theorem dX8_whole_45 : decode cX8_whole 45 = .ok (.isub, 1) := by decide +kernel
theorem dX8_whole_46 : decode cX8_whole 46 = .ok (.putfield 80, 3) := by decide +kernel
theorem dX8_whole_49 : decode cX8_whole 49 = .ok (.goto (-49), 3) := by decide +kernel
theorem dX8_whole_52 : decode cX8_whole 52 = .ok (.return_, 1) := by decide +kernel
set_option maxRecDepth 20000 in
theorem ggX8_settle_X8_emits : GoodIn wsX8_settle wsX8_emits := goodIn_r _ [7, 8, 9, 10, 11, 12, 13, 14, 15, 16, 17, 18, 19, 20, 21, 22, 23, 24, 25, 26, 27, 28, 29, 30, 31, 32, 33, 34, 35, 36, 37, 38, 39, 40, 41, 42, 43, 44, 45, 46, 47, 48, 49, 50, 51, 52, 53, 54, 55, 56, 57, 58, 59, 60, 61, 62, 63, 64, 65, 66, 67, 68, 69, 70, 71, 72, 73, 74, 75, 76] (by decide +kernel) (by decide +kernel)
set_option maxRecDepth 20000 in
theorem gX8_settle_X8_emits : GoodIn wsX8_settle (wsV RX8 245 RX8 yX8_emits wsX8_emits) := goodIn_app (goodIn_of _ (by decide +kernel)) ggX8_settle_X8_emits
theorem dX8_settle_0 : decode cX8_settle 0 = .ok (.aload_n 0, 1) := by decide +kernel
theorem dX8_settle_1 : decode cX8_settle 1 = .ok (.getfield 77, 3) := by decide +kernel
theorem dX8_settle_4 : decode cX8_settle 4 = .ok (.ifCond .le 68, 3) := by decide +kernel
theorem dX8_settle_7 : decode cX8_settle 7 = .ok (.aload_n 0, 1) := by decide +kernel
theorem dX8_settle_8 : decode cX8_settle 8 = .ok (.getfield 71, 3) := by decide +kernel
theorem dX8_settle_11 : decode cX8_settle 11 = .ok (.aload_n 0, 1) := by decide +kernel
theorem dX8_settle_12 : decode cX8_settle 12 = .ok (.getfield 77, 3) := by decide +kernel
theorem dX8_settle_15 : decode cX8_settle 15 = .ok (.iconst 1, 1) := by decide +kernel
theorem dX8_settle_16 : decode cX8_settle 16 = .ok (.isub, 1) := by decide +kernel
theorem dX8_settle_17 : decode cX8_settle 17 = .ok (.iaload, 1) := by decide +kernel
theorem dX8_settle_18 : decode cX8_settle 18 = .ok (.bipush 38, 2) := by decide +kernel
theorem dX8_settle_20 : decode cX8_settle 20 = .ok (.if_icmp .eq 25, 3) := by decide +kernel
theorem dX8_settle_23 : decode cX8_settle 23 = .ok (.aload_n 0, 1) := by decide +kernel
theorem dX8_settle_24 : decode cX8_settle 24 = .ok (.getfield 71, 3) := by decide +kernel
theorem dX8_settle_27 : decode cX8_settle 27 = .ok (.aload_n 0, 1) := by decide +kernel
theorem dX8_settle_28 : decode cX8_settle 28 = .ok (.getfield 77, 3) := by decide +kernel
theorem dX8_settle_31 : decode cX8_settle 31 = .ok (.iconst 1, 1) := by decide +kernel
theorem dX8_settle_32 : decode cX8_settle 32 = .ok (.isub, 1) := by decide +kernel
theorem dX8_settle_33 : decode cX8_settle 33 = .ok (.iaload, 1) := by decide +kernel
theorem dX8_settle_34 : decode cX8_settle 34 = .ok (.bipush 124, 2) := by decide +kernel
theorem dX8_settle_36 : decode cX8_settle 36 = .ok (.if_icmp .ne 36, 3) := by decide +kernel
theorem dX8_settle_39 : decode cX8_settle 39 = .ok (.iload_n 1, 1) := by decide +kernel
theorem dX8_settle_40 : decode cX8_settle 40 = .ok (.bipush 38, 2) := by decide +kernel
theorem dX8_settle_42 : decode cX8_settle 42 = .ok (.if_icmp .eq 30, 3) := by decide +kernel
theorem dX8_settle_45 : decode cX8_settle 45 = .ok (.aload_n 0, 1) := by decide +kernel
theorem dX8_settle_46 : decode cX8_settle 46 = .ok (.dup, 1) := by decide +kernel
theorem dX8_settle_47 : decode cX8_settle 47 = .ok (.getfield 77, 3) := by decide +kernel
theorem dX8_settle_50 : decode cX8_settle 50 = .ok (.iconst 1, 1) := by decide +kernel
theorem dX8_settle_51 : decode cX8_settle 51 = .ok (.isub, 1) := by decide +kernel
theorem dX8_settle_52 : decode cX8_settle 52 = .ok (.putfield 77, 3) := by decide +kernel
theorem dX8_settle_55 : decode cX8_settle 55 = .ok (.aload_n 0, 1) := by decide +kernel
theorem dX8_settle_56 : decode cX8_settle 56 = .ok (.aload_n 0, 1) := by decide +kernel
theorem dX8_settle_57 : decode cX8_settle 57 = .ok (.getfield 71, 3) := by decide +kernel
theorem dX8_settle_60 : decode cX8_settle 60 = .ok (.aload_n 0, 1) := by decide +kernel
theorem dX8_settle_61 : decode cX8_settle 61 = .ok (.getfield 77, 3) := by decide +kernel
theorem dX8_settle_64 : decode cX8_settle 64 = .ok (.iaload, 1) := by decide +kernel
theorem dX8_settle_65 : decode cX8_settle 65 = .ok (.ineg, 1) := by decide +kernel
theorem dX8_settle_66 : decode cX8_settle 66 = .ok (.invokevirtual 245, 3) := by decide +kernel
theorem dX8_settle_69 : decode cX8_settle 69 = .ok (.goto (-69), 3) := by decide +kernel
theorem dX8_settle_72 : decode cX8_settle 72 = .ok (.return_, 1) := by decide +kernel
theorem dX8_place_0 : decode cX8_place 0 = .ok (.iload_n 1, 1) := by decide +kernel
theorem dX8_place_1 : decode cX8_place 1 = .ok (.tableswitch 107 100 119 #[105, 107, 107, 107, 107, 107, 107, 97, 107, 101, 107, 107, 107, 107, 107, 107, 95, 107, 99, 103], 95) := by decide +kernel
theorem dX8_place_96 : decode cX8_place 96 = .ok (.iconst 0, 1) := by decide +kernel
theorem dX8_place_97 : decode cX8_place 97 = .ok (.ireturn, 1) := by decide +kernel
theorem dX8_place_98 : decode cX8_place 98 = .ok (.iconst 1, 1) := by decide +kernel
theorem dX8_place_99 : decode cX8_place 99 = .ok (.ireturn, 1) := by decide +kernel
theorem dX8_place_100 : decode cX8_place 100 = .ok (.iconst 2, 1) := by decide +kernel
theorem dX8_place_101 : decode cX8_place 101 = .ok (.ireturn, 1) := by decide +kernel
theorem dX8_place_102 : decode cX8_place 102 = .ok (.iconst 3, 1) := by decide +kernel
theorem dX8_place_103 : decode cX8_place 103 = .ok (.ireturn, 1) := by decide +kernel
theorem dX8_place_104 : decode cX8_place 104 = .ok (.iconst 4, 1) := by decide +kernel
theorem dX8_place_105 : decode cX8_place 105 = .ok (.ireturn, 1) := by decide +kernel
theorem dX8_place_106 : decode cX8_place 106 = .ok (.iconst 5, 1) := by decide +kernel
theorem dX8_place_107 : decode cX8_place 107 = .ok (.ireturn, 1) := by decide +kernel
theorem dX8_place_108 : decode cX8_place 108 = .ok (.iconst (-1), 1) := by decide +kernel
theorem dX8_place_109 : decode cX8_place 109 = .ok (.ireturn, 1) := by decide +kernel
set_option maxRecDepth 20000 in
theorem ggX8_takesTest_X8_next : GoodIn wsX8_takesTest wsX8_next := goodIn_r _ [7, 1, 8, 9, 39, 40, 41, 42, 43, 44, 45, 46, 47, 48, 49, 50, 51, 52, 53, 54, 55, 56, 57, 58, 59, 60, 61, 62, 63, 64, 65, 66, 67, 68, 69, 70, 71, 72, 73, 74, 75, 76, 77, 78, 79, 80, 81, 82, 83, 84, 85, 86, 87, 88, 89, 90, 91, 92, 93, 94, 95, 96, 97, 98, 99, 100, 101, 102, 103, 104, 105] (by decide +kernel) (by decide +kernel)
set_option maxRecDepth 20000 in
theorem gX8_takesTest_X8_next : GoodIn wsX8_takesTest (wsV RX8 234 RX8 yX8_next wsX8_next) := goodIn_app (goodIn_of _ (by decide +kernel)) ggX8_takesTest_X8_next
set_option maxRecDepth 20000 in
theorem ggX8_takesTest_X8_place : GoodIn wsX8_takesTest wsX8_place := goodIn_r _ [13] (by decide +kernel) (by decide +kernel)
set_option maxRecDepth 20000 in
theorem gX8_takesTest_X8_place : GoodIn wsX8_takesTest (wsV RX8 249 RX8 yX8_place wsX8_place) := goodIn_app (goodIn_of _ (by decide +kernel)) ggX8_takesTest_X8_place
set_option maxRecDepth 20000 in
theorem ggX8_takesTest_X8_in : GoodIn wsX8_takesTest wsX8_in := goodIn_r _ [17] (by decide +kernel) (by decide +kernel)
set_option maxRecDepth 20000 in
theorem gX8_takesTest_X8_in : GoodIn wsX8_takesTest (wsV RX8 219 RX8 yX8_in wsX8_in) := goodIn_app (goodIn_of _ (by decide +kernel)) ggX8_takesTest_X8_in
set_option maxRecDepth 20000 in
theorem ggX8_takesTest_X8_takesNumber : GoodIn wsX8_takesTest wsX8_takesNumber := goodIn_r _ [21, 2, 1, 22, 23, 24, 6, 25, 3, 4, 5, 7, 8, 9, 14, 15, 16, 17, 39, 40, 41, 42, 43, 44, 45, 46, 47, 48, 49, 50, 51, 52, 53, 54, 55, 56, 57, 58, 59, 60, 61, 62, 63, 64, 65, 66, 67, 68, 69, 70, 71, 72, 73, 74, 75, 76, 77, 78, 79, 80, 81, 82, 83, 84, 85, 86, 87, 88, 89, 90, 91, 92, 93, 94, 95, 96, 97, 98, 99, 100, 101, 102, 103, 104, 105] (by decide +kernel) (by decide +kernel)
set_option maxRecDepth 20000 in
theorem gX8_takesTest_X8_takesNumber : GoodIn wsX8_takesTest (wsV RX8 252 RX8 yX8_takesNumber wsX8_takesNumber) := goodIn_app (goodIn_of _ (by decide +kernel)) ggX8_takesTest_X8_takesNumber
set_option maxRecDepth 20000 in
theorem ggX8_takesTest_X8_emits : GoodIn wsX8_takesTest wsX8_emits := goodIn_r _ [29, 30, 31, 39, 40, 41, 42, 43, 44, 45, 46, 47, 48, 49, 50, 51, 52, 53, 54, 55, 56, 57, 58, 59, 60, 61, 62, 63, 64, 65, 66, 67, 68, 69, 70, 71, 72, 73, 74, 75, 76, 77, 78, 79, 80, 81, 82, 83, 84, 85, 86, 87, 88, 89, 90, 91, 92, 93, 94, 95, 96, 97, 98, 99, 100, 101, 102, 103, 104, 105] (by decide +kernel) (by decide +kernel)
set_option maxRecDepth 20000 in
theorem gX8_takesTest_X8_emits : GoodIn wsX8_takesTest (wsV RX8 245 RX8 yX8_emits wsX8_emits) := goodIn_app (goodIn_of _ (by decide +kernel)) ggX8_takesTest_X8_emits
set_option maxRecDepth 20000 in
theorem ggX8_takesTest_X8_whole : GoodIn wsX8_takesTest wsX8_whole := goodIn_r _ [35, 36, 37, 38, 26, 27, 28, 6, 29, 30, 31, 39, 40, 41, 42, 43, 44, 45, 46, 47, 48, 49, 50, 51, 52, 53, 54, 55, 56, 57, 58, 59, 60, 61, 62, 63, 64, 65, 66, 67, 68, 69, 70, 71, 72, 73, 74, 75, 76, 77, 78, 79, 80, 81, 82, 83, 84, 85, 86, 87, 88, 89, 90, 91, 92, 93, 94, 95, 96, 97, 98, 99, 100, 101, 102, 103, 104, 105] (by decide +kernel) (by decide +kernel)
set_option maxRecDepth 20000 in
theorem gX8_takesTest_X8_whole : GoodIn wsX8_takesTest (wsV RX8 255 RX8 yX8_whole wsX8_whole) := goodIn_app (goodIn_of _ (by decide +kernel)) ggX8_takesTest_X8_whole
theorem dX8_takesTest_0 : decode cX8_takesTest 0 = .ok (.aload_n 0, 1) := by decide +kernel
theorem dX8_takesTest_1 : decode cX8_takesTest 1 = .ok (.aload_n 0, 1) := by decide +kernel
theorem dX8_takesTest_2 : decode cX8_takesTest 2 = .ok (.invokevirtual 234, 3) := by decide +kernel
theorem dX8_takesTest_5 : decode cX8_takesTest 5 = .ok (.invokevirtual 249, 3) := by decide +kernel
theorem dX8_takesTest_8 : decode cX8_takesTest 8 = .ok (.istore_n 1, 1) := by decide +kernel
theorem dX8_takesTest_9 : decode cX8_takesTest 9 = .ok (.iload_n 1, 1) := by decide +kernel
theorem dX8_takesTest_10 : decode cX8_takesTest 10 = .ok (.ifCond .ge 5, 3) := by decide +kernel
theorem dX8_takesTest_13 : decode cX8_takesTest 13 = .ok (.iconst 0, 1) := by decide +kernel
theorem dX8_takesTest_14 : decode cX8_takesTest 14 = .ok (.ireturn, 1) := by decide +kernel
theorem dX8_takesTest_15 : decode cX8_takesTest 15 = .ok (.aload_n 0, 1) := by decide +kernel
theorem dX8_takesTest_16 : decode cX8_takesTest 16 = .ok (.dup, 1) := by decide +kernel
theorem dX8_takesTest_17 : decode cX8_takesTest 17 = .ok (.getfield 44, 3) := by decide +kernel
theorem dX8_takesTest_20 : decode cX8_takesTest 20 = .ok (.iconst 1, 1) := by decide +kernel
theorem dX8_takesTest_21 : decode cX8_takesTest 21 = .ok (.iadd, 1) := by decide +kernel
theorem dX8_takesTest_22 : decode cX8_takesTest 22 = .ok (.putfield 44, 3) := by decide +kernel
theorem dX8_takesTest_25 : decode cX8_takesTest 25 = .ok (.aload_n 0, 1) := by decide +kernel
theorem dX8_takesTest_26 : decode cX8_takesTest 26 = .ok (.invokevirtual 234, 3) := by decide +kernel
theorem dX8_takesTest_29 : decode cX8_takesTest 29 = .ok (.istore_n 2, 1) := by decide +kernel
theorem dX8_takesTest_30 : decode cX8_takesTest 30 = .ok (.aload_n 0, 1) := by decide +kernel
theorem dX8_takesTest_31 : decode cX8_takesTest 31 = .ok (.iload_n 2, 1) := by decide +kernel
theorem dX8_takesTest_32 : decode cX8_takesTest 32 = .ok (.bipush 60, 2) := by decide +kernel
theorem dX8_takesTest_34 : decode cX8_takesTest 34 = .ok (.bipush 62, 2) := by decide +kernel
theorem dX8_takesTest_36 : decode cX8_takesTest 36 = .ok (.invokevirtual 219, 3) := by decide +kernel
theorem dX8_takesTest_39 : decode cX8_takesTest 39 = .ok (.ifCond .ne 5, 3) := by decide +kernel
theorem dX8_takesTest_42 : decode cX8_takesTest 42 = .ok (.iconst 0, 1) := by decide +kernel
theorem dX8_takesTest_43 : decode cX8_takesTest 43 = .ok (.ireturn, 1) := by decide +kernel
theorem dX8_takesTest_44 : decode cX8_takesTest 44 = .ok (.aload_n 0, 1) := by decide +kernel
theorem dX8_takesTest_45 : decode cX8_takesTest 45 = .ok (.dup, 1) := by decide +kernel
theorem dX8_takesTest_46 : decode cX8_takesTest 46 = .ok (.getfield 44, 3) := by decide +kernel
theorem dX8_takesTest_49 : decode cX8_takesTest 49 = .ok (.iconst 1, 1) := by decide +kernel
theorem dX8_takesTest_50 : decode cX8_takesTest 50 = .ok (.iadd, 1) := by decide +kernel
theorem dX8_takesTest_51 : decode cX8_takesTest 51 = .ok (.putfield 44, 3) := by decide +kernel
theorem dX8_takesTest_54 : decode cX8_takesTest 54 = .ok (.aload_n 0, 1) := by decide +kernel
theorem dX8_takesTest_55 : decode cX8_takesTest 55 = .ok (.invokevirtual 252, 3) := by decide +kernel
theorem dX8_takesTest_58 : decode cX8_takesTest 58 = .ok (.ifCond .ne 5, 3) := by decide +kernel
theorem dX8_takesTest_61 : decode cX8_takesTest 61 = .ok (.iconst 0, 1) := by decide +kernel
theorem dX8_takesTest_62 : decode cX8_takesTest 62 = .ok (.ireturn, 1) := by decide +kernel
theorem dX8_takesTest_63 : decode cX8_takesTest 63 = .ok (.aload_n 0, 1) := by decide +kernel
theorem dX8_takesTest_64 : decode cX8_takesTest 64 = .ok (.sipush 1000, 3) := by decide +kernel
theorem dX8_takesTest_67 : decode cX8_takesTest 67 = .ok (.iload_n 1, 1) := by decide +kernel
theorem dX8_takesTest_68 : decode cX8_takesTest 68 = .ok (.imul, 1) := by decide +kernel
theorem dX8_takesTest_69 : decode cX8_takesTest 69 = .ok (.bipush 100, 2) := by decide +kernel
theorem dX8_takesTest_71 : decode cX8_takesTest 71 = .ok (.iload_n 2, 1) := by decide +kernel
theorem dX8_takesTest_72 : decode cX8_takesTest 72 = .ok (.bipush 60, 2) := by decide +kernel
theorem dX8_takesTest_74 : decode cX8_takesTest 74 = .ok (.isub, 1) := by decide +kernel
theorem dX8_takesTest_75 : decode cX8_takesTest 75 = .ok (.imul, 1) := by decide +kernel
theorem dX8_takesTest_76 : decode cX8_takesTest 76 = .ok (.iadd, 1) := by decide +kernel
theorem dX8_takesTest_77 : decode cX8_takesTest 77 = .ok (.aload_n 0, 1) := by decide +kernel
theorem dX8_takesTest_78 : decode cX8_takesTest 78 = .ok (.getfield 47, 3) := by decide +kernel
theorem dX8_takesTest_81 : decode cX8_takesTest 81 = .ok (.iadd, 1) := by decide +kernel
theorem dX8_takesTest_82 : decode cX8_takesTest 82 = .ok (.invokevirtual 245, 3) := by decide +kernel
theorem dX8_takesTest_85 : decode cX8_takesTest 85 = .ok (.aload_n 0, 1) := by decide +kernel
theorem dX8_takesTest_86 : decode cX8_takesTest 86 = .ok (.invokevirtual 255, 3) := by decide +kernel
theorem dX8_takesTest_89 : decode cX8_takesTest 89 = .ok (.iconst 1, 1) := by decide +kernel
theorem dX8_takesTest_90 : decode cX8_takesTest 90 = .ok (.ireturn, 1) := by decide +kernel
set_option maxRecDepth 20000 in
theorem ggX8_takesE_X8_next : GoodIn wsX8_takesE wsX8_next := goodIn_r _ [12, 6, 13, 14, 49, 50, 51, 52, 53, 54, 55, 56, 57, 58, 59, 60, 61, 62, 63, 64, 65, 66, 67, 68, 69, 70, 71, 72, 73, 74, 75, 76, 77, 78, 79, 80, 81, 82, 83, 84, 85, 86, 87, 88, 89, 90, 91, 92, 93, 94, 95, 96, 97, 98, 99, 100, 101, 102, 103, 104, 105, 106, 107, 108, 109, 110, 111, 112, 113, 114, 115] (by decide +kernel) (by decide +kernel)
set_option maxRecDepth 20000 in
theorem gX8_takesE_X8_next : GoodIn wsX8_takesE (wsV RX8 234 RX8 yX8_next wsX8_next) := goodIn_app (goodIn_of _ (by decide +kernel)) ggX8_takesE_X8_next
set_option maxRecDepth 20000 in
theorem ggX8_takesE_X8_takesTest : GoodIn wsX8_takesE wsX8_takesTest := goodIn_r _ [18, 6, 19, 8, 9, 10, 11, 12, 13, 14, 20, 21, 22, 23, 24, 25, 26, 27, 28, 29, 30, 31, 32, 33, 34, 35, 36, 37, 38, 39, 40, 4, 41, 42, 43, 44, 1, 5, 2, 49, 50, 51, 52, 53, 54, 55, 56, 57, 58, 59, 60, 61, 62, 63, 64, 65, 66, 67, 68, 69, 70, 71, 72, 73, 74, 75, 76, 77, 78, 79, 80, 81, 82, 83, 84, 85, 86, 87, 88, 89, 90, 91, 92, 93, 94, 95, 96, 97, 98, 99, 100, 101, 102, 103, 104, 105, 106, 107, 108, 109, 110, 111, 112, 113, 114, 115] (by decide +kernel) (by decide +kernel)
set_option maxRecDepth 20000 in
theorem gX8_takesE_X8_takesTest : GoodIn wsX8_takesE (wsV RX8 258 RX8 yX8_takesTest wsX8_takesTest) := goodIn_app (goodIn_of _ (by decide +kernel)) ggX8_takesE_X8_takesTest
set_option maxRecDepth 20000 in
theorem ggX8_takesE_X8_settle : GoodIn wsX8_takesE wsX8_settle := goodIn_r _ [48, 1, 5, 36, 37, 38, 11, 39, 40, 4, 49, 50, 51, 52, 53, 54, 55, 56, 57, 58, 59, 60, 61, 62, 63, 64, 65, 66, 67, 68, 69, 70, 71, 72, 73, 74, 75, 76, 77, 78, 79, 80, 81, 82, 83, 84, 85, 86, 87, 88, 89, 90, 91, 92, 93, 94, 95, 96, 97, 98, 99, 100, 101, 102, 103, 104, 105, 106, 107, 108, 109, 110, 111, 112, 113, 114, 115] (by decide +kernel) (by decide +kernel)
set_option maxRecDepth 20000 in
theorem gX8_takesE_X8_settle : GoodIn wsX8_takesE (wsV RX8 261 RX8 yX8_settle wsX8_settle) := goodIn_app (goodIn_of _ (by decide +kernel)) ggX8_takesE_X8_settle
set_option maxRecDepth 20000 in
theorem ggX8_takesE_X8_whole : GoodIn wsX8_takesE wsX8_whole := goodIn_r _ [44, 1, 5, 2, 36, 37, 38, 11, 39, 40, 4, 49, 50, 51, 52, 53, 54, 55, 56, 57, 58, 59, 60, 61, 62, 63, 64, 65, 66, 67, 68, 69, 70, 71, 72, 73, 74, 75, 76, 77, 78, 79, 80, 81, 82, 83, 84, 85, 86, 87, 88, 89, 90, 91, 92, 93, 94, 95, 96, 97, 98, 99, 100, 101, 102, 103, 104, 105, 106, 107, 108, 109, 110, 111, 112, 113, 114, 115] (by decide +kernel) (by decide +kernel)
set_option maxRecDepth 20000 in
theorem gX8_takesE_X8_whole : GoodIn wsX8_takesE (wsV RX8 255 RX8 yX8_whole wsX8_whole) := goodIn_app (goodIn_of _ (by decide +kernel)) ggX8_takesE_X8_whole
theorem dX8_takesE_0 : decode cX8_takesE 0 = .ok (.aload_n 0, 1) := by decide +kernel
theorem dX8_takesE_1 : decode cX8_takesE 1 = .ok (.iconst 0, 1) := by decide +kernel
theorem dX8_takesE_2 : decode cX8_takesE 2 = .ok (.putfield 77, 3) := by decide +kernel
theorem dX8_takesE_5 : decode cX8_takesE 5 = .ok (.aload_n 0, 1) := by decide +kernel
theorem dX8_takesE_6 : decode cX8_takesE 6 = .ok (.iconst 0, 1) := by decide +kernel
theorem dX8_takesE_7 : decode cX8_takesE 7 = .ok (.putfield 80, 3) := by decide +kernel
theorem dX8_takesE_10 : decode cX8_takesE 10 = .ok (.aload_n 0, 1) := by decide +kernel
theorem dX8_takesE_11 : decode cX8_takesE 11 = .ok (.getfield 62, 3) := by decide +kernel
theorem dX8_takesE_14 : decode cX8_takesE 14 = .ok (.iload_n 1, 1) := by decide +kernel
theorem dX8_takesE_15 : decode cX8_takesE 15 = .ok (.aload_n 0, 1) := by decide +kernel
theorem dX8_takesE_16 : decode cX8_takesE 16 = .ok (.getfield 74, 3) := by decide +kernel
theorem dX8_takesE_19 : decode cX8_takesE 19 = .ok (.iastore, 1) := by decide +kernel
theorem dX8_takesE_20 : decode cX8_takesE 20 = .ok (.iconst 1, 1) := by decide +kernel
theorem dX8_takesE_21 : decode cX8_takesE 21 = .ok (.istore_n 2, 1) := by decide +kernel
theorem dX8_takesE_22 : decode cX8_takesE 22 = .ok (.aload_n 0, 1) := by decide +kernel
theorem dX8_takesE_23 : decode cX8_takesE 23 = .ok (.invokevirtual 234, 3) := by decide +kernel
theorem dX8_takesE_26 : decode cX8_takesE 26 = .ok (.istore_n 3, 1) := by decide +kernel
theorem dX8_takesE_27 : decode cX8_takesE 27 = .ok (.iload_n 2, 1) := by decide +kernel
theorem dX8_takesE_28 : decode cX8_takesE 28 = .ok (.ifCond .eq 82, 3) := by decide +kernel
theorem dX8_takesE_31 : decode cX8_takesE 31 = .ok (.iload_n 3, 1) := by decide +kernel
theorem dX8_takesE_32 : decode cX8_takesE 32 = .ok (.bipush 33, 2) := by decide +kernel
theorem dX8_takesE_34 : decode cX8_takesE 34 = .ok (.if_icmp .eq 9, 3) := by decide +kernel
theorem dX8_takesE_37 : decode cX8_takesE 37 = .ok (.iload_n 3, 1) := by decide +kernel
theorem dX8_takesE_38 : decode cX8_takesE 38 = .ok (.bipush 40, 2) := by decide +kernel
theorem dX8_takesE_40 : decode cX8_takesE 40 = .ok (.if_icmp .ne 56, 3) := by decide +kernel
theorem dX8_takesE_43 : decode cX8_takesE 43 = .ok (.aload_n 0, 1) := by decide +kernel
theorem dX8_takesE_44 : decode cX8_takesE 44 = .ok (.getfield 80, 3) := by decide +kernel
theorem dX8_takesE_47 : decode cX8_takesE 47 = .ok (.iconst 4, 1) := by decide +kernel
theorem dX8_takesE_48 : decode cX8_takesE 48 = .ok (.if_icmp .ne 5, 3) := by decide +kernel
theorem dX8_takesE_51 : decode cX8_takesE 51 = .ok (.iconst 0, 1) := by decide +kernel
theorem dX8_takesE_52 : decode cX8_takesE 52 = .ok (.ireturn, 1) := by decide +kernel
theorem dX8_takesE_53 : decode cX8_takesE 53 = .ok (.aload_n 0, 1) := by decide +kernel
theorem dX8_takesE_54 : decode cX8_takesE 54 = .ok (.dup, 1) := by decide +kernel
theorem dX8_takesE_55 : decode cX8_takesE 55 = .ok (.getfield 80, 3) := by decide +kernel
theorem dX8_takesE_58 : decode cX8_takesE 58 = .ok (.iconst 1, 1) := by decide +kernel
theorem dX8_takesE_59 : decode cX8_takesE 59 = .ok (.iadd, 1) := by decide +kernel
theorem dX8_takesE_60 : decode cX8_takesE 60 = .ok (.putfield 80, 3) := by decide +kernel
theorem dX8_takesE_63 : decode cX8_takesE 63 = .ok (.aload_n 0, 1) := by decide +kernel
theorem dX8_takesE_64 : decode cX8_takesE 64 = .ok (.getfield 71, 3) := by decide +kernel
theorem dX8_takesE_67 : decode cX8_takesE 67 = .ok (.aload_n 0, 1) := by decide +kernel
theorem dX8_takesE_68 : decode cX8_takesE 68 = .ok (.getfield 77, 3) := by decide +kernel
theorem dX8_takesE_71 : decode cX8_takesE 71 = .ok (.iload_n 3, 1) := by decide +kernel
theorem dX8_takesE_72 : decode cX8_takesE 72 = .ok (.iastore, 1) := by decide +kernel
theorem dX8_takesE_73 : decode cX8_takesE 73 = .ok (.aload_n 0, 1) := by decide +kernel
theorem dX8_takesE_74 : decode cX8_takesE 74 = .ok (.dup, 1) := by decide +kernel
theorem dX8_takesE_75 : decode cX8_takesE 75 = .ok (.getfield 77, 3) := by decide +kernel
theorem dX8_takesE_78 : decode cX8_takesE 78 = .ok (.iconst 1, 1) := by decide +kernel
theorem dX8_takesE_79 : decode cX8_takesE 79 = .ok (.iadd, 1) := by decide +kernel
theorem dX8_takesE_80 : decode cX8_takesE 80 = .ok (.putfield 77, 3) := by decide +kernel
theorem dX8_takesE_83 : decode cX8_takesE 83 = .ok (.aload_n 0, 1) := by decide +kernel
theorem dX8_takesE_84 : decode cX8_takesE 84 = .ok (.dup, 1) := by decide +kernel
theorem dX8_takesE_85 : decode cX8_takesE 85 = .ok (.getfield 44, 3) := by decide +kernel
theorem dX8_takesE_88 : decode cX8_takesE 88 = .ok (.iconst 1, 1) := by decide +kernel
theorem dX8_takesE_89 : decode cX8_takesE 89 = .ok (.iadd, 1) := by decide +kernel
theorem dX8_takesE_90 : decode cX8_takesE 90 = .ok (.putfield 44, 3) := by decide +kernel
theorem dX8_takesE_93 : decode cX8_takesE 93 = .ok (.goto (-71), 3) := by decide +kernel
theorem dX8_takesE_96 : decode cX8_takesE 96 = .ok (.aload_n 0, 1) := by decide +kernel
theorem dX8_takesE_97 : decode cX8_takesE 97 = .ok (.invokevirtual 258, 3) := by decide +kernel
theorem dX8_takesE_100 : decode cX8_takesE 100 = .ok (.ifCond .eq 8, 3) := by decide +kernel
theorem dX8_takesE_103 : decode cX8_takesE 103 = .ok (.iconst 0, 1) := by decide +kernel
theorem dX8_takesE_104 : decode cX8_takesE 104 = .ok (.istore_n 2, 1) := by decide +kernel
theorem dX8_takesE_105 : decode cX8_takesE 105 = .ok (.goto (-83), 3) := by decide +kernel
theorem dX8_takesE_108 : decode cX8_takesE 108 = .ok (.iconst 0, 1) := by decide +kernel
theorem dX8_takesE_109 : decode cX8_takesE 109 = .ok (.ireturn, 1) := by decide +kernel
theorem dX8_takesE_110 : decode cX8_takesE 110 = .ok (.iload_n 3, 1) := by decide +kernel
theorem dX8_takesE_111 : decode cX8_takesE 111 = .ok (.bipush 38, 2) := by decide +kernel
theorem dX8_takesE_113 : decode cX8_takesE 113 = .ok (.if_icmp .eq 9, 3) := by decide +kernel
theorem dX8_takesE_116 : decode cX8_takesE 116 = .ok (.iload_n 3, 1) := by decide +kernel
theorem dX8_takesE_117 : decode cX8_takesE 117 = .ok (.bipush 124, 2) := by decide +kernel
theorem dX8_takesE_119 : decode cX8_takesE 119 = .ok (.if_icmp .ne 43, 3) := by decide +kernel
theorem dX8_takesE_122 : decode cX8_takesE 122 = .ok (.aload_n 0, 1) := by decide +kernel
theorem dX8_takesE_123 : decode cX8_takesE 123 = .ok (.iload_n 3, 1) := by decide +kernel
theorem dX8_takesE_124 : decode cX8_takesE 124 = .ok (.invokevirtual 261, 3) := by decide +kernel
theorem dX8_takesE_127 : decode cX8_takesE 127 = .ok (.aload_n 0, 1) := by decide +kernel
theorem dX8_takesE_128 : decode cX8_takesE 128 = .ok (.getfield 71, 3) := by decide +kernel
theorem dX8_takesE_131 : decode cX8_takesE 131 = .ok (.aload_n 0, 1) := by decide +kernel
theorem dX8_takesE_132 : decode cX8_takesE 132 = .ok (.getfield 77, 3) := by decide +kernel
theorem dX8_takesE_135 : decode cX8_takesE 135 = .ok (.iload_n 3, 1) := by decide +kernel
theorem dX8_takesE_136 : decode cX8_takesE 136 = .ok (.iastore, 1) := by decide +kernel
theorem dX8_takesE_137 : decode cX8_takesE 137 = .ok (.aload_n 0, 1) := by decide +kernel
theorem dX8_takesE_138 : decode cX8_takesE 138 = .ok (.dup, 1) := by decide +kernel
theorem dX8_takesE_139 : decode cX8_takesE 139 = .ok (.getfield 77, 3) := by decide +kernel
theorem dX8_takesE_142 : decode cX8_takesE 142 = .ok (.iconst 1, 1) := by decide +kernel
theorem dX8_takesE_143 : decode cX8_takesE 143 = .ok (.iadd, 1) := by decide +kernel
theorem dX8_takesE_144 : decode cX8_takesE 144 = .ok (.putfield 77, 3) := by decide +kernel
theorem dX8_takesE_147 : decode cX8_takesE 147 = .ok (.iconst 1, 1) := by decide +kernel
theorem dX8_takesE_148 : decode cX8_takesE 148 = .ok (.istore_n 2, 1) := by decide +kernel
theorem dX8_takesE_149 : decode cX8_takesE 149 = .ok (.aload_n 0, 1) := by decide +kernel
theorem dX8_takesE_150 : decode cX8_takesE 150 = .ok (.dup, 1) := by decide +kernel
theorem dX8_takesE_151 : decode cX8_takesE 151 = .ok (.getfield 44, 3) := by decide +kernel
theorem dX8_takesE_154 : decode cX8_takesE 154 = .ok (.iconst 1, 1) := by decide +kernel
theorem dX8_takesE_155 : decode cX8_takesE 155 = .ok (.iadd, 1) := by decide +kernel
theorem dX8_takesE_156 : decode cX8_takesE 156 = .ok (.putfield 44, 3) := by decide +kernel
theorem dX8_takesE_159 : decode cX8_takesE 159 = .ok (.goto (-137), 3) := by decide +kernel
theorem dX8_takesE_162 : decode cX8_takesE 162 = .ok (.aload_n 0, 1) := by decide +kernel
theorem dX8_takesE_163 : decode cX8_takesE 163 = .ok (.bipush 124, 2) := by decide +kernel
theorem dX8_takesE_165 : decode cX8_takesE 165 = .ok (.invokevirtual 261, 3) := by decide +kernel
theorem dX8_takesE_168 : decode cX8_takesE 168 = .ok (.aload_n 0, 1) := by decide +kernel
theorem dX8_takesE_169 : decode cX8_takesE 169 = .ok (.getfield 65, 3) := by decide +kernel
theorem dX8_takesE_172 : decode cX8_takesE 172 = .ok (.iload_n 1, 1) := by decide +kernel
theorem dX8_takesE_173 : decode cX8_takesE 173 = .ok (.aload_n 0, 1) := by decide +kernel
theorem dX8_takesE_174 : decode cX8_takesE 174 = .ok (.getfield 74, 3) := by decide +kernel
theorem dX8_takesE_177 : decode cX8_takesE 177 = .ok (.iastore, 1) := by decide +kernel
theorem dX8_takesE_178 : decode cX8_takesE 178 = .ok (.aload_n 0, 1) := by decide +kernel
theorem dX8_takesE_179 : decode cX8_takesE 179 = .ok (.getfield 77, 3) := by decide +kernel
theorem dX8_takesE_182 : decode cX8_takesE 182 = .ok (.ifCond .ne 5, 3) := by decide +kernel
theorem dX8_takesE_185 : decode cX8_takesE 185 = .ok (.iconst 1, 1) := by decide +kernel
theorem dX8_takesE_186 : decode cX8_takesE 186 = .ok (.ireturn, 1) := by decide +kernel
theorem dX8_takesE_187 : decode cX8_takesE 187 = .ok (.iload_n 3, 1) := by decide +kernel
theorem dX8_takesE_188 : decode cX8_takesE 188 = .ok (.bipush 41, 2) := by decide +kernel
theorem dX8_takesE_190 : decode cX8_takesE 190 = .ok (.if_icmp .eq 5, 3) := by decide +kernel
theorem dX8_takesE_193 : decode cX8_takesE 193 = .ok (.iconst 0, 1) := by decide +kernel
theorem dX8_takesE_194 : decode cX8_takesE 194 = .ok (.ireturn, 1) := by decide +kernel
theorem dX8_takesE_195 : decode cX8_takesE 195 = .ok (.aload_n 0, 1) := by decide +kernel
theorem dX8_takesE_196 : decode cX8_takesE 196 = .ok (.dup, 1) := by decide +kernel
theorem dX8_takesE_197 : decode cX8_takesE 197 = .ok (.getfield 77, 3) := by decide +kernel
theorem dX8_takesE_200 : decode cX8_takesE 200 = .ok (.iconst 1, 1) := by decide +kernel
theorem dX8_takesE_201 : decode cX8_takesE 201 = .ok (.isub, 1) := by decide +kernel
theorem dX8_takesE_202 : decode cX8_takesE 202 = .ok (.putfield 77, 3) := by decide +kernel
theorem dX8_takesE_205 : decode cX8_takesE 205 = .ok (.aload_n 0, 1) := by decide +kernel
theorem dX8_takesE_206 : decode cX8_takesE 206 = .ok (.dup, 1) := by decide +kernel
theorem dX8_takesE_207 : decode cX8_takesE 207 = .ok (.getfield 80, 3) := by decide +kernel
theorem dX8_takesE_210 : decode cX8_takesE 210 = .ok (.iconst 1, 1) := by decide +kernel
theorem dX8_takesE_211 : decode cX8_takesE 211 = .ok (.isub, 1) := by decide +kernel
theorem dX8_takesE_212 : decode cX8_takesE 212 = .ok (.putfield 80, 3) := by decide +kernel
theorem dX8_takesE_215 : decode cX8_takesE 215 = .ok (.aload_n 0, 1) := by decide +kernel
theorem dX8_takesE_216 : decode cX8_takesE 216 = .ok (.dup, 1) := by decide +kernel
theorem dX8_takesE_217 : decode cX8_takesE 217 = .ok (.getfield 44, 3) := by decide +kernel
theorem dX8_takesE_220 : decode cX8_takesE 220 = .ok (.iconst 1, 1) := by decide +kernel
theorem dX8_takesE_221 : decode cX8_takesE 221 = .ok (.iadd, 1) := by decide +kernel
theorem dX8_takesE_222 : decode cX8_takesE 222 = .ok (.putfield 44, 3) := by decide +kernel
theorem dX8_takesE_225 : decode cX8_takesE 225 = .ok (.aload_n 0, 1) := by decide +kernel
theorem dX8_takesE_226 : decode cX8_takesE 226 = .ok (.invokevirtual 255, 3) := by decide +kernel
theorem dX8_takesE_229 : decode cX8_takesE 229 = .ok (.goto (-207), 3) := by decide +kernel
set_option maxRecDepth 20000 in
theorem ggX8_takesHead_X8_next : GoodIn wsX8_takesHead wsX8_next := goodIn_r _ [6, 7, 8, 9, 19, 20, 21, 22, 23, 24, 25, 26, 27, 28, 29, 30, 31, 32, 33, 34, 35, 36, 37, 38, 39, 40, 41, 42, 43, 44, 45, 46, 47, 48, 49, 50, 51, 52, 53, 54, 55, 56, 57, 58, 59, 60, 61, 62, 63, 64, 65, 66, 67, 68, 69, 70, 71, 72, 73, 74, 75, 76, 77, 78, 79, 80, 81, 82, 83, 84, 85] (by decide +kernel) (by decide +kernel)
set_option maxRecDepth 20000 in
theorem gX8_takesHead_X8_next : GoodIn wsX8_takesHead (wsV RX8 234 RX8 yX8_next wsX8_next) := goodIn_app (goodIn_of _ (by decide +kernel)) ggX8_takesHead_X8_next
set_option maxRecDepth 20000 in
theorem ggX8_takesHead_X8_takesWord : GoodIn wsX8_takesHead wsX8_takesWord := goodIn_r _ [13, 14, 15, 16, 17, 5, 18, 7, 2, 3, 4, 6, 8, 9, 19, 20, 21, 22, 23, 24, 25, 26, 27, 28, 29, 30, 31, 32, 33, 34, 35, 36, 37, 38, 39, 40, 41, 42, 43, 44, 45, 46, 47, 48, 49, 50, 51, 52, 53, 54, 55, 56, 57, 58, 59, 60, 61, 62, 63, 64, 65, 66, 67, 68, 69, 70, 71, 72, 73, 74, 75, 76, 77, 78, 79, 80, 81, 82, 83, 84, 85] (by decide +kernel) (by decide +kernel)
set_option maxRecDepth 20000 in
theorem gX8_takesHead_X8_takesWord : GoodIn wsX8_takesHead (wsV RX8 264 RX8 yX8_takesWord wsX8_takesWord) := goodIn_app (goodIn_of _ (by decide +kernel)) ggX8_takesHead_X8_takesWord
theorem dX8_takesHead_0 : decode cX8_takesHead 0 = .ok (.aload_n 0, 1) := by decide +kernel
theorem dX8_takesHead_1 : decode cX8_takesHead 1 = .ok (.invokevirtual 234, 3) := by decide +kernel
theorem dX8_takesHead_4 : decode cX8_takesHead 4 = .ok (.tableswitch 71 108 110 #[28, 42, 56], 28) := by decide +kernel
theorem dX8_takesHead_32 : decode cX8_takesHead 32 = .ok (.aload_n 0, 1) := by decide +kernel
theorem dX8_takesHead_33 : decode cX8_takesHead 33 = .ok (.getfield 56, 3) := by decide +kernel
theorem dX8_takesHead_36 : decode cX8_takesHead 36 = .ok (.iload_n 1, 1) := by decide +kernel
theorem dX8_takesHead_37 : decode cX8_takesHead 37 = .ok (.iconst 0, 1) := by decide +kernel
theorem dX8_takesHead_38 : decode cX8_takesHead 38 = .ok (.iastore, 1) := by decide +kernel
theorem dX8_takesHead_39 : decode cX8_takesHead 39 = .ok (.aload_n 0, 1) := by decide +kernel
theorem dX8_takesHead_40 : decode cX8_takesHead 40 = .ok (.iconst 0, 1) := by decide +kernel
theorem dX8_takesHead_41 : decode cX8_takesHead 41 = .ok (.iconst 4, 1) := by decide +kernel
theorem dX8_takesHead_42 : decode cX8_takesHead 42 = .ok (.invokevirtual 264, 3) := by decide +kernel
theorem dX8_takesHead_45 : decode cX8_takesHead 45 = .ok (.ireturn, 1) := by decide +kernel
theorem dX8_takesHead_46 : decode cX8_takesHead 46 = .ok (.aload_n 0, 1) := by decide +kernel
theorem dX8_takesHead_47 : decode cX8_takesHead 47 = .ok (.getfield 56, 3) := by decide +kernel
theorem dX8_takesHead_50 : decode cX8_takesHead 50 = .ok (.iload_n 1, 1) := by decide +kernel
theorem dX8_takesHead_51 : decode cX8_takesHead 51 = .ok (.iconst 1, 1) := by decide +kernel
theorem dX8_takesHead_52 : decode cX8_takesHead 52 = .ok (.iastore, 1) := by decide +kernel
theorem dX8_takesHead_53 : decode cX8_takesHead 53 = .ok (.aload_n 0, 1) := by decide +kernel
theorem dX8_takesHead_54 : decode cX8_takesHead 54 = .ok (.iconst 4, 1) := by decide +kernel
theorem dX8_takesHead_55 : decode cX8_takesHead 55 = .ok (.iconst 4, 1) := by decide +kernel
theorem dX8_takesHead_56 : decode cX8_takesHead 56 = .ok (.invokevirtual 264, 3) := by decide +kernel
theorem dX8_takesHead_59 : decode cX8_takesHead 59 = .ok (.ireturn, 1) := by decide +kernel
theorem dX8_takesHead_60 : decode cX8_takesHead 60 = .ok (.aload_n 0, 1) := by decide +kernel
theorem dX8_takesHead_61 : decode cX8_takesHead 61 = .ok (.getfield 56, 3) := by decide +kernel
theorem dX8_takesHead_64 : decode cX8_takesHead 64 = .ok (.iload_n 1, 1) := by decide +kernel
theorem dX8_takesHead_65 : decode cX8_takesHead 65 = .ok (.iconst 2, 1) := by decide +kernel
theorem dX8_takesHead_66 : decode cX8_takesHead 66 = .ok (.iastore, 1) := by decide +kernel
theorem dX8_takesHead_67 : decode cX8_takesHead 67 = .ok (.aload_n 0, 1) := by decide +kernel
theorem dX8_takesHead_68 : decode cX8_takesHead 68 = .ok (.bipush 8, 2) := by decide +kernel
theorem dX8_takesHead_70 : decode cX8_takesHead 70 = .ok (.iconst 4, 1) := by decide +kernel
theorem dX8_takesHead_71 : decode cX8_takesHead 71 = .ok (.invokevirtual 264, 3) := by decide +kernel
theorem dX8_takesHead_74 : decode cX8_takesHead 74 = .ok (.ireturn, 1) := by decide +kernel
theorem dX8_takesHead_75 : decode cX8_takesHead 75 = .ok (.aload_n 0, 1) := by decide +kernel
theorem dX8_takesHead_76 : decode cX8_takesHead 76 = .ok (.getfield 56, 3) := by decide +kernel
theorem dX8_takesHead_79 : decode cX8_takesHead 79 = .ok (.iload_n 1, 1) := by decide +kernel
theorem dX8_takesHead_80 : decode cX8_takesHead 80 = .ok (.iconst 3, 1) := by decide +kernel
theorem dX8_takesHead_81 : decode cX8_takesHead 81 = .ok (.iastore, 1) := by decide +kernel
theorem dX8_takesHead_82 : decode cX8_takesHead 82 = .ok (.aload_n 0, 1) := by decide +kernel
theorem dX8_takesHead_83 : decode cX8_takesHead 83 = .ok (.bipush 12, 2) := by decide +kernel
theorem dX8_takesHead_85 : decode cX8_takesHead 85 = .ok (.iconst 4, 1) := by decide +kernel
theorem dX8_takesHead_86 : decode cX8_takesHead 86 = .ok (.invokevirtual 264, 3) := by decide +kernel
theorem dX8_takesHead_89 : decode cX8_takesHead 89 = .ok (.ireturn, 1) := by decide +kernel
set_option maxRecDepth 20000 in
theorem ggX8_takesClause_X8_takesHead : GoodIn wsX8_takesClause wsX8_takesHead := goodIn_r _ [8, 3, 9, 10, 11, 7, 12, 13, 14, 15, 16, 17, 18, 19, 20, 21, 22, 23, 24, 68, 69, 70, 71, 72, 73, 74, 75, 76, 77, 78, 79, 80, 81, 82, 83, 84, 85, 86, 87, 88, 89, 90, 91, 92, 93, 94, 95, 96, 97, 98, 99, 100, 101, 102, 103, 104, 105, 106, 107, 108, 109, 110, 111, 112, 113, 114, 115, 116, 117, 118, 119, 120, 121, 122, 123, 124, 125, 126, 127, 128, 129, 130, 131, 132, 133, 134] (by decide +kernel) (by decide +kernel)
set_option maxRecDepth 20000 in
theorem gX8_takesClause_X8_takesHead : GoodIn wsX8_takesClause (wsV RX8 267 RX8 yX8_takesHead wsX8_takesHead) := goodIn_app (goodIn_of _ (by decide +kernel)) ggX8_takesClause_X8_takesHead
set_option maxRecDepth 20000 in
theorem ggX8_takesClause_X8_takesNumber : GoodIn wsX8_takesClause wsX8_takesNumber := goodIn_r _ [28, 2, 13, 29, 30, 31, 7, 32, 9, 10, 11, 12, 14, 15, 33, 34, 35, 36, 68, 69, 70, 71, 72, 73, 74, 75, 76, 77, 78, 79, 80, 81, 82, 83, 84, 85, 86, 87, 88, 89, 90, 91, 92, 93, 94, 95, 96, 97, 98, 99, 100, 101, 102, 103, 104, 105, 106, 107, 108, 109, 110, 111, 112, 113, 114, 115, 116, 117, 118, 119, 120, 121, 122, 123, 124, 125, 126, 127, 128, 129, 130, 131, 132, 133, 134] (by decide +kernel) (by decide +kernel)
set_option maxRecDepth 20000 in
theorem gX8_takesClause_X8_takesNumber : GoodIn wsX8_takesClause (wsV RX8 252 RX8 yX8_takesNumber wsX8_takesNumber) := goodIn_app (goodIn_of _ (by decide +kernel)) ggX8_takesClause_X8_takesNumber
set_option maxRecDepth 20000 in
theorem ggX8_takesClause_X8_takes : GoodIn wsX8_takesClause wsX8_takes := goodIn_r _ [24, 13, 9, 10, 11, 7, 12, 14, 15, 68, 69, 70, 71, 72, 73, 74, 75, 76, 77, 78, 79, 80, 81, 82, 83, 84, 85, 86, 87, 88, 89, 90, 91, 92, 93, 94, 95, 96, 97, 98, 99, 100, 101, 102, 103, 104, 105, 106, 107, 108, 109, 110, 111, 112, 113, 114, 115, 116, 117, 118, 119, 120, 121, 122, 123, 124, 125, 126, 127, 128, 129, 130, 131, 132, 133, 134] (by decide +kernel) (by decide +kernel)
set_option maxRecDepth 20000 in
theorem gX8_takesClause_X8_takes : GoodIn wsX8_takesClause (wsV RX8 238 RX8 yX8_takes wsX8_takes) := goodIn_app (goodIn_of _ (by decide +kernel)) ggX8_takesClause_X8_takes
set_option maxRecDepth 20000 in
theorem ggX8_takesClause_X8_takesE : GoodIn wsX8_takesClause wsX8_takesE := goodIn_r _ [40, 41, 42, 43, 44, 45, 13, 46, 9, 10, 11, 7, 12, 14, 15, 47, 48, 49, 50, 2, 51, 52, 53, 54, 33, 34, 35, 36, 25, 26, 27, 28, 29, 30, 31, 32, 55, 56, 57, 58, 59, 60, 61, 62, 63, 64, 65, 66, 67, 68, 69, 70, 71, 72, 73, 74, 75, 76, 77, 78, 79, 80, 81, 82, 83, 84, 85, 86, 87, 88, 89, 90, 91, 92, 93, 94, 95, 96, 97, 98, 99, 100, 101, 102, 103, 104, 105, 106, 107, 108, 109, 110, 111, 112, 113, 114, 115, 116, 117, 118, 119, 120, 121, 122, 123, 124, 125, 126, 127, 128, 129, 130, 131, 132, 133, 134] (by decide +kernel) (by decide +kernel)
set_option maxRecDepth 20000 in
theorem gX8_takesClause_X8_takesE : GoodIn wsX8_takesClause (wsV RX8 270 RX8 yX8_takesE wsX8_takesE) := goodIn_app (goodIn_of _ (by decide +kernel)) ggX8_takesClause_X8_takesE
theorem dX8_takesClause_0 : decode cX8_takesClause 0 = .ok (.aload_n 0, 1) := by decide +kernel
theorem dX8_takesClause_1 : decode cX8_takesClause 1 = .ok (.iload_n 1, 1) := by decide +kernel
theorem dX8_takesClause_2 : decode cX8_takesClause 2 = .ok (.invokevirtual 267, 3) := by decide +kernel
theorem dX8_takesClause_5 : decode cX8_takesClause 5 = .ok (.ifCond .eq 10, 3) := by decide +kernel
theorem dX8_takesClause_8 : decode cX8_takesClause 8 = .ok (.aload_n 0, 1) := by decide +kernel
theorem dX8_takesClause_9 : decode cX8_takesClause 9 = .ok (.invokevirtual 252, 3) := by decide +kernel
theorem dX8_takesClause_12 : decode cX8_takesClause 12 = .ok (.ifCond .ne 5, 3) := by decide +kernel
theorem dX8_takesClause_15 : decode cX8_takesClause 15 = .ok (.iconst 0, 1) := by decide +kernel
theorem dX8_takesClause_16 : decode cX8_takesClause 16 = .ok (.ireturn, 1) := by decide +kernel
theorem dX8_takesClause_17 : decode cX8_takesClause 17 = .ok (.aload_n 0, 1) := by decide +kernel
theorem dX8_takesClause_18 : decode cX8_takesClause 18 = .ok (.getfield 59, 3) := by decide +kernel
theorem dX8_takesClause_21 : decode cX8_takesClause 21 = .ok (.iload_n 1, 1) := by decide +kernel
theorem dX8_takesClause_22 : decode cX8_takesClause 22 = .ok (.aload_n 0, 1) := by decide +kernel
theorem dX8_takesClause_23 : decode cX8_takesClause 23 = .ok (.getfield 47, 3) := by decide +kernel
theorem dX8_takesClause_26 : decode cX8_takesClause 26 = .ok (.iastore, 1) := by decide +kernel
theorem dX8_takesClause_27 : decode cX8_takesClause 27 = .ok (.aload_n 0, 1) := by decide +kernel
theorem dX8_takesClause_28 : decode cX8_takesClause 28 = .ok (.getfield 56, 3) := by decide +kernel
theorem dX8_takesClause_31 : decode cX8_takesClause 31 = .ok (.iload_n 1, 1) := by decide +kernel
theorem dX8_takesClause_32 : decode cX8_takesClause 32 = .ok (.iaload, 1) := by decide +kernel
theorem dX8_takesClause_33 : decode cX8_takesClause 33 = .ok (.iconst 2, 1) := by decide +kernel
theorem dX8_takesClause_34 : decode cX8_takesClause 34 = .ok (.if_icmp .ge 20, 3) := by decide +kernel
theorem dX8_takesClause_37 : decode cX8_takesClause 37 = .ok (.aload_n 0, 1) := by decide +kernel
theorem dX8_takesClause_38 : decode cX8_takesClause 38 = .ok (.bipush 32, 2) := by decide +kernel
theorem dX8_takesClause_40 : decode cX8_takesClause 40 = .ok (.invokevirtual 238, 3) := by decide +kernel
theorem dX8_takesClause_43 : decode cX8_takesClause 43 = .ok (.ifCond .eq 15, 3) := by decide +kernel
theorem dX8_takesClause_46 : decode cX8_takesClause 46 = .ok (.aload_n 0, 1) := by decide +kernel
theorem dX8_takesClause_47 : decode cX8_takesClause 47 = .ok (.iload_n 1, 1) := by decide +kernel
theorem dX8_takesClause_48 : decode cX8_takesClause 48 = .ok (.invokevirtual 270, 3) := by decide +kernel
theorem dX8_takesClause_51 : decode cX8_takesClause 51 = .ok (.ifCond .eq 7, 3) := by decide +kernel
theorem dX8_takesClause_54 : decode cX8_takesClause 54 = .ok (.iconst 1, 1) := by decide +kernel
theorem dX8_takesClause_55 : decode cX8_takesClause 55 = .ok (.goto 4, 3) := by decide +kernel
theorem dX8_takesClause_58 : decode cX8_takesClause 58 = .ok (.iconst 0, 1) := by decide +kernel
theorem dX8_takesClause_59 : decode cX8_takesClause 59 = .ok (.ireturn, 1) := by decide +kernel
set_option maxRecDepth 20000 in
theorem ggX8_goesText_X8_takesClause : GoodIn wsX8_goesText wsX8_takesClause := goodIn_r _ [9, 10, 11, 12, 13, 14, 15, 8, 16, 17, 18, 19, 20, 1, 4, 21, 22, 23, 24, 25, 26, 27, 28, 29, 30, 31, 32, 33, 34, 35, 36, 37, 38, 39, 40, 41, 42, 43, 44, 45, 46, 47, 48, 49, 2, 50, 51, 52, 53, 54, 55, 56, 57, 58, 59, 60, 61, 62, 63, 64, 65, 66, 67, 68, 69, 70, 71, 72, 73, 74, 75, 76, 77, 78, 79, 80, 81, 82, 83, 84, 85, 86, 87, 88, 89, 90, 91, 92, 93, 94, 95, 96, 97, 98, 99, 100, 101, 102, 103, 104, 105, 106, 107, 108, 109, 110, 111, 112, 113, 114, 115, 116, 117, 118, 119, 120, 121, 122, 123, 124, 125, 126, 127, 128, 129, 130, 131, 132, 133, 134, 135, 136, 137, 138, 139] (by decide +kernel) (by decide +kernel)
set_option maxRecDepth 20000 in
theorem gX8_goesText_X8_takesClause : GoodIn wsX8_goesText (wsV RX8 273 RX8 yX8_takesClause wsX8_takesClause) := goodIn_app (goodIn_of _ (by decide +kernel)) ggX8_goesText_X8_takesClause
set_option maxRecDepth 20000 in
theorem ggX8_goesText_X8_takes : GoodIn wsX8_goesText wsX8_takes := goodIn_r _ [30, 1, 17, 18, 19, 8, 20, 4, 21, 73, 74, 75, 76, 77, 78, 79, 80, 81, 82, 83, 84, 85, 86, 87, 88, 89, 90, 91, 92, 93, 94, 95, 96, 97, 98, 99, 100, 101, 102, 103, 104, 105, 106, 107, 108, 109, 110, 111, 112, 113, 114, 115, 116, 117, 118, 119, 120, 121, 122, 123, 124, 125, 126, 127, 128, 129, 130, 131, 132, 133, 134, 135, 136, 137, 138, 139] (by decide +kernel) (by decide +kernel)
set_option maxRecDepth 20000 in
theorem gX8_goesText_X8_takes : GoodIn wsX8_goesText (wsV RX8 238 RX8 yX8_takes wsX8_takes) := goodIn_app (goodIn_of _ (by decide +kernel)) ggX8_goesText_X8_takes
theorem dX8_goesText_0 : decode cX8_goesText 0 = .ok (.aload_n 0, 1) := by decide +kernel
theorem dX8_goesText_1 : decode cX8_goesText 1 = .ok (.iconst 0, 1) := by decide +kernel
theorem dX8_goesText_2 : decode cX8_goesText 2 = .ok (.putfield 44, 3) := by decide +kernel
theorem dX8_goesText_5 : decode cX8_goesText 5 = .ok (.aload_n 0, 1) := by decide +kernel
theorem dX8_goesText_6 : decode cX8_goesText 6 = .ok (.bipush 100, 2) := by decide +kernel
theorem dX8_goesText_8 : decode cX8_goesText 8 = .ok (.iload_n 1, 1) := by decide +kernel
theorem dX8_goesText_9 : decode cX8_goesText 9 = .ok (.imul, 1) := by decide +kernel
theorem dX8_goesText_10 : decode cX8_goesText 10 = .ok (.putfield 74, 3) := by decide +kernel
theorem dX8_goesText_13 : decode cX8_goesText 13 = .ok (.iconst 0, 1) := by decide +kernel
theorem dX8_goesText_14 : decode cX8_goesText 14 = .ok (.istore_n 2, 1) := by decide +kernel
theorem dX8_goesText_15 : decode cX8_goesText 15 = .ok (.aload_n 0, 1) := by decide +kernel
theorem dX8_goesText_16 : decode cX8_goesText 16 = .ok (.bipush 10, 2) := by decide +kernel
theorem dX8_goesText_18 : decode cX8_goesText 18 = .ok (.iload_n 1, 1) := by decide +kernel
theorem dX8_goesText_19 : decode cX8_goesText 19 = .ok (.imul, 1) := by decide +kernel
theorem dX8_goesText_20 : decode cX8_goesText 20 = .ok (.iload_n 2, 1) := by decide +kernel
theorem dX8_goesText_21 : decode cX8_goesText 21 = .ok (.iadd, 1) := by decide +kernel
theorem dX8_goesText_22 : decode cX8_goesText 22 = .ok (.invokevirtual 273, 3) := by decide +kernel
theorem dX8_goesText_25 : decode cX8_goesText 25 = .ok (.ifCond .ne 5, 3) := by decide +kernel
theorem dX8_goesText_28 : decode cX8_goesText 28 = .ok (.iconst 0, 1) := by decide +kernel
theorem dX8_goesText_29 : decode cX8_goesText 29 = .ok (.ireturn, 1) := by decide +kernel
theorem dX8_goesText_30 : decode cX8_goesText 30 = .ok (.iinc 2 1, 3) := by decide +kernel
theorem dX8_goesText_33 : decode cX8_goesText 33 = .ok (.aload_n 0, 1) := by decide +kernel
theorem dX8_goesText_34 : decode cX8_goesText 34 = .ok (.getfield 53, 3) := by decide +kernel
theorem dX8_goesText_37 : decode cX8_goesText 37 = .ok (.iload_n 1, 1) := by decide +kernel
theorem dX8_goesText_38 : decode cX8_goesText 38 = .ok (.iload_n 2, 1) := by decide +kernel
theorem dX8_goesText_39 : decode cX8_goesText 39 = .ok (.iastore, 1) := by decide +kernel
theorem dX8_goesText_40 : decode cX8_goesText 40 = .ok (.aload_n 0, 1) := by decide +kernel
theorem dX8_goesText_41 : decode cX8_goesText 41 = .ok (.getfield 44, 3) := by decide +kernel
theorem dX8_goesText_44 : decode cX8_goesText 44 = .ok (.aload_n 0, 1) := by decide +kernel
theorem dX8_goesText_45 : decode cX8_goesText 45 = .ok (.getfield 41, 3) := by decide +kernel
theorem dX8_goesText_48 : decode cX8_goesText 48 = .ok (.if_icmp .ne 5, 3) := by decide +kernel
theorem dX8_goesText_51 : decode cX8_goesText 51 = .ok (.iconst 1, 1) := by decide +kernel
theorem dX8_goesText_52 : decode cX8_goesText 52 = .ok (.ireturn, 1) := by decide +kernel
theorem dX8_goesText_53 : decode cX8_goesText 53 = .ok (.iload_n 2, 1) := by decide +kernel
theorem dX8_goesText_54 : decode cX8_goesText 54 = .ok (.bipush 10, 2) := by decide +kernel
theorem dX8_goesText_56 : decode cX8_goesText 56 = .ok (.if_icmp .eq 12, 3) := by decide +kernel
theorem dX8_goesText_59 : decode cX8_goesText 59 = .ok (.aload_n 0, 1) := by decide +kernel
theorem dX8_goesText_60 : decode cX8_goesText 60 = .ok (.bipush 59, 2) := by decide +kernel
theorem dX8_goesText_62 : decode cX8_goesText 62 = .ok (.invokevirtual 238, 3) := by decide +kernel
theorem dX8_goesText_65 : decode cX8_goesText 65 = .ok (.ifCond .ne (-50), 3) := by decide +kernel
theorem dX8_goesText_68 : decode cX8_goesText 68 = .ok (.iconst 0, 1) := by decide +kernel
theorem dX8_goesText_69 : decode cX8_goesText 69 = .ok (.ireturn, 1) := by decide +kernel
set_option maxRecDepth 20000 in
theorem ggX8_street_X8_goesText : GoodIn wsX8_street wsX8_goesText := goodIn_r _ [9, 3, 10, 11, 2, 12, 13, 14, 8, 15, 16, 17, 18, 19, 20, 21, 22, 23, 24, 25, 26, 27, 28, 29, 30, 31, 32, 33, 34, 35, 36, 37, 38, 39, 40, 41, 42, 43, 44, 45, 46, 47, 48, 49, 50, 51, 52, 53, 54, 55, 56, 57, 58, 59, 60, 61, 62, 63, 64, 65, 66, 67, 68, 69, 70, 71, 72, 73, 74, 75, 76, 77, 78, 79, 80, 81, 82, 83, 84, 85, 86, 87, 88, 89, 90, 91, 92, 93, 94, 95, 96, 97, 98, 99, 100, 101, 102, 103, 104, 105, 106, 107, 108, 109, 110, 111, 112, 113, 114, 115, 116, 117, 118, 119, 120, 121, 122, 123, 124, 125, 126, 127, 128, 129, 130, 131, 132, 133, 134, 135, 136, 137, 138, 139, 140, 141, 142, 143, 144, 145] (by decide +kernel) (by decide +kernel)
set_option maxRecDepth 20000 in
theorem gX8_street_X8_goesText : GoodIn wsX8_street (wsV RX8 276 RX8 yX8_goesText wsX8_goesText) := goodIn_app (goodIn_of _ (by decide +kernel)) ggX8_street_X8_goesText
theorem dX8_street_0 : decode cX8_street 0 = .ok (.aload_n 0, 1) := by decide +kernel
theorem dX8_street_1 : decode cX8_street 1 = .ok (.getfield 35, 3) := by decide +kernel
theorem dX8_street_4 : decode cX8_street 4 = .ok (.bipush 6, 2) := by decide +kernel
theorem dX8_street_6 : decode cX8_street 6 = .ok (.if_icmp .ne 6, 3) := by decide +kernel
theorem dX8_street_9 : decode cX8_street 9 = .ok (.bipush (-4), 2) := by decide +kernel
theorem dX8_street_11 : decode cX8_street 11 = .ok (.ireturn, 1) := by decide +kernel
theorem dX8_street_12 : decode cX8_street 12 = .ok (.aload_n 0, 1) := by decide +kernel
theorem dX8_street_13 : decode cX8_street 13 = .ok (.aload_n 0, 1) := by decide +kernel
theorem dX8_street_14 : decode cX8_street 14 = .ok (.getfield 35, 3) := by decide +kernel
theorem dX8_street_17 : decode cX8_street 17 = .ok (.invokevirtual 276, 3) := by decide +kernel
theorem dX8_street_20 : decode cX8_street 20 = .ok (.istore_n 1, 1) := by decide +kernel
theorem dX8_street_21 : decode cX8_street 21 = .ok (.aload_n 0, 1) := by decide +kernel
theorem dX8_street_22 : decode cX8_street 22 = .ok (.iconst 0, 1) := by decide +kernel
theorem dX8_street_23 : decode cX8_street 23 = .ok (.putfield 41, 3) := by decide +kernel
theorem dX8_street_26 : decode cX8_street 26 = .ok (.iload_n 1, 1) := by decide +kernel
theorem dX8_street_27 : decode cX8_street 27 = .ok (.ifCond .ne 11, 3) := by decide +kernel
theorem dX8_street_30 : decode cX8_street 30 = .ok (.bipush (-10), 2) := by decide +kernel
theorem dX8_street_32 : decode cX8_street 32 = .ok (.aload_n 0, 1) := by decide +kernel
theorem dX8_street_33 : decode cX8_street 33 = .ok (.getfield 44, 3) := by decide +kernel
theorem dX8_street_36 : decode cX8_street 36 = .ok (.isub, 1) := by decide +kernel
theorem dX8_street_37 : decode cX8_street 37 = .ok (.ireturn, 1) := by decide +kernel
theorem dX8_street_38 : decode cX8_street 38 = .ok (.aload_n 0, 1) := by decide +kernel
theorem dX8_street_39 : decode cX8_street 39 = .ok (.aload_n 0, 1) := by decide +kernel
theorem dX8_street_40 : decode cX8_street 40 = .ok (.getfield 35, 3) := by decide +kernel
theorem dX8_street_43 : decode cX8_street 43 = .ok (.putfield 38, 3) := by decide +kernel
theorem dX8_street_46 : decode cX8_street 46 = .ok (.aload_n 0, 1) := by decide +kernel
theorem dX8_street_47 : decode cX8_street 47 = .ok (.dup, 1) := by decide +kernel
theorem dX8_street_48 : decode cX8_street 48 = .ok (.getfield 35, 3) := by decide +kernel
theorem dX8_street_51 : decode cX8_street 51 = .ok (.iconst 1, 1) := by decide +kernel
theorem dX8_street_52 : decode cX8_street 52 = .ok (.iadd, 1) := by decide +kernel
theorem dX8_street_53 : decode cX8_street 53 = .ok (.putfield 35, 3) := by decide +kernel
theorem dX8_street_56 : decode cX8_street 56 = .ok (.aload_n 0, 1) := by decide +kernel
theorem dX8_street_57 : decode cX8_street 57 = .ok (.getfield 38, 3) := by decide +kernel
theorem dX8_street_60 : decode cX8_street 60 = .ok (.ireturn, 1) := by decide +kernel
theorem dX8_begin_0 : decode cX8_begin 0 = .ok (.aload_n 0, 1) := by decide +kernel
theorem dX8_begin_1 : decode cX8_begin 1 = .ok (.getfield 38, 3) := by decide +kernel
theorem dX8_begin_4 : decode cX8_begin 4 = .ok (.ifCond .ge 7, 3) := by decide +kernel
theorem dX8_begin_7 : decode cX8_begin 7 = .ok (.iconst 0, 1) := by decide +kernel
theorem dX8_begin_8 : decode cX8_begin 8 = .ok (.goto 10, 3) := by decide +kernel
theorem dX8_begin_11 : decode cX8_begin 11 = .ok (.bipush 10, 2) := by decide +kernel
theorem dX8_begin_13 : decode cX8_begin 13 = .ok (.aload_n 0, 1) := by decide +kernel
theorem dX8_begin_14 : decode cX8_begin 14 = .ok (.getfield 38, 3) := by decide +kernel
theorem dX8_begin_17 : decode cX8_begin 17 = .ok (.imul, 1) := by decide +kernel
theorem dX8_begin_18 : decode cX8_begin 18 = .ok (.ireturn, 1) := by decide +kernel
theorem dX8_behind_0 : decode cX8_behind 0 = .ok (.aload_n 0, 1) := by decide +kernel
theorem dX8_behind_1 : decode cX8_behind 1 = .ok (.getfield 38, 3) := by decide +kernel
theorem dX8_behind_4 : decode cX8_behind 4 = .ok (.ifCond .ge 7, 3) := by decide +kernel
theorem dX8_behind_7 : decode cX8_behind 7 = .ok (.iconst 0, 1) := by decide +kernel
theorem dX8_behind_8 : decode cX8_behind 8 = .ok (.goto 20, 3) := by decide +kernel
theorem dX8_behind_11 : decode cX8_behind 11 = .ok (.bipush 10, 2) := by decide +kernel
theorem dX8_behind_13 : decode cX8_behind 13 = .ok (.aload_n 0, 1) := by decide +kernel
theorem dX8_behind_14 : decode cX8_behind 14 = .ok (.getfield 38, 3) := by decide +kernel
theorem dX8_behind_17 : decode cX8_behind 17 = .ok (.imul, 1) := by decide +kernel
theorem dX8_behind_18 : decode cX8_behind 18 = .ok (.aload_n 0, 1) := by decide +kernel
theorem dX8_behind_19 : decode cX8_behind 19 = .ok (.getfield 53, 3) := by decide +kernel
theorem dX8_behind_22 : decode cX8_behind 22 = .ok (.aload_n 0, 1) := by decide +kernel
theorem dX8_behind_23 : decode cX8_behind 23 = .ok (.getfield 38, 3) := by decide +kernel
theorem dX8_behind_26 : decode cX8_behind 26 = .ok (.iaload, 1) := by decide +kernel
theorem dX8_behind_27 : decode cX8_behind 27 = .ok (.iadd, 1) := by decide +kernel
theorem dX8_behind_28 : decode cX8_behind 28 = .ok (.ireturn, 1) := by decide +kernel
set_option maxRecDepth 20000 in
theorem ggX8_lastOf_X8_begin : GoodIn wsX8_lastOf wsX8_begin := goodIn_r _ [7, 8, 14, 15, 16, 17, 18, 19, 20, 21, 22, 23, 24, 25, 26, 27, 28, 29, 30, 31, 32, 33, 34, 35, 36, 37, 38, 39, 40, 41, 42, 43, 44, 45, 46, 47, 48, 49, 50, 51, 52, 53, 54, 55, 56, 57, 58, 59, 60, 61, 62, 63, 64, 65, 66, 67, 68, 69, 70, 71, 72, 73, 74, 75, 76, 77, 78, 79, 80] (by decide +kernel) (by decide +kernel)
set_option maxRecDepth 20000 in
theorem gX8_lastOf_X8_begin : GoodIn wsX8_lastOf (wsV RX8 279 RX8 yX8_begin wsX8_begin) := goodIn_app (goodIn_of _ (by decide +kernel)) ggX8_lastOf_X8_begin
set_option maxRecDepth 20000 in
theorem ggX8_lastOf_X8_behind : GoodIn wsX8_lastOf wsX8_behind := goodIn_r _ [12, 8, 13, 14, 15, 16, 17, 18, 19, 20, 21, 22, 23, 24, 25, 26, 27, 28, 29, 30, 31, 32, 33, 34, 35, 36, 37, 38, 39, 40, 41, 42, 43, 44, 45, 46, 47, 48, 49, 50, 51, 52, 53, 54, 55, 56, 57, 58, 59, 60, 61, 62, 63, 64, 65, 66, 67, 68, 69, 70, 71, 72, 73, 74, 75, 76, 77, 78, 79, 80] (by decide +kernel) (by decide +kernel)
set_option maxRecDepth 20000 in
theorem gX8_lastOf_X8_behind : GoodIn wsX8_lastOf (wsV RX8 282 RX8 yX8_behind wsX8_behind) := goodIn_app (goodIn_of _ (by decide +kernel)) ggX8_lastOf_X8_behind
theorem dX8_lastOf_0 : decode cX8_lastOf 0 = .ok (.iload_n 2, 1) := by decide +kernel
theorem dX8_lastOf_1 : decode cX8_lastOf 1 = .ok (.istore_n 3, 1) := by decide +kernel
theorem dX8_lastOf_2 : decode cX8_lastOf 2 = .ok (.aload_n 0, 1) := by decide +kernel
theorem dX8_lastOf_3 : decode cX8_lastOf 3 = .ok (.invokevirtual 279, 3) := by decide +kernel
theorem dX8_lastOf_6 : decode cX8_lastOf 6 = .ok (.istore 4, 2) := by decide +kernel
theorem dX8_lastOf_8 : decode cX8_lastOf 8 = .ok (.iload 4, 2) := by decide +kernel
theorem dX8_lastOf_10 : decode cX8_lastOf 10 = .ok (.aload_n 0, 1) := by decide +kernel
theorem dX8_lastOf_11 : decode cX8_lastOf 11 = .ok (.invokevirtual 282, 3) := by decide +kernel
theorem dX8_lastOf_14 : decode cX8_lastOf 14 = .ok (.if_icmp .ge 32, 3) := by decide +kernel
theorem dX8_lastOf_17 : decode cX8_lastOf 17 = .ok (.aload_n 0, 1) := by decide +kernel
theorem dX8_lastOf_18 : decode cX8_lastOf 18 = .ok (.getfield 56, 3) := by decide +kernel
theorem dX8_lastOf_21 : decode cX8_lastOf 21 = .ok (.iload 4, 2) := by decide +kernel
theorem dX8_lastOf_23 : decode cX8_lastOf 23 = .ok (.iaload, 1) := by decide +kernel
theorem dX8_lastOf_24 : decode cX8_lastOf 24 = .ok (.iload_n 1, 1) := by decide +kernel
theorem dX8_lastOf_25 : decode cX8_lastOf 25 = .ok (.if_icmp .ne 13, 3) := by decide +kernel
theorem dX8_lastOf_28 : decode cX8_lastOf 28 = .ok (.aload_n 0, 1) := by decide +kernel
theorem dX8_lastOf_29 : decode cX8_lastOf 29 = .ok (.getfield 59, 3) := by decide +kernel
theorem dX8_lastOf_32 : decode cX8_lastOf 32 = .ok (.iload 4, 2) := by decide +kernel
theorem dX8_lastOf_34 : decode cX8_lastOf 34 = .ok (.iaload, 1) := by decide +kernel
theorem dX8_lastOf_35 : decode cX8_lastOf 35 = .ok (.goto 4, 3) := by decide +kernel
theorem dX8_lastOf_38 : decode cX8_lastOf 38 = .ok (.iload_n 3, 1) := by decide +kernel
theorem dX8_lastOf_39 : decode cX8_lastOf 39 = .ok (.istore_n 3, 1) := by decide +kernel
theorem dX8_lastOf_40 : decode cX8_lastOf 40 = .ok (.iinc 4 1, 3) := by decide +kernel
theorem dX8_lastOf_43 : decode cX8_lastOf 43 = .ok (.goto (-35), 3) := by decide +kernel
theorem dX8_lastOf_46 : decode cX8_lastOf 46 = .ok (.iload_n 3, 1) := by decide +kernel
theorem dX8_lastOf_47 : decode cX8_lastOf 47 = .ok (.ireturn, 1) := by decide +kernel
set_option maxRecDepth 20000 in
theorem ggX8_need_X8_lastOf : GoodIn wsX8_need wsX8_lastOf := goodIn_r _ [5, 6, 7, 8, 9, 10, 4, 11, 12, 13, 14, 15, 16, 17, 18, 19, 20, 21, 22, 23, 24, 25, 26, 27, 28, 29, 30, 31, 32, 33, 34, 35, 36, 37, 38, 39, 40, 41, 42, 43, 44, 45, 46, 47, 48, 49, 50, 51, 52, 53, 54, 55, 56, 57, 58, 59, 60, 61, 62, 63, 64, 65, 66, 67, 68, 69, 70, 71, 72, 73, 74, 75, 76, 77, 78, 79, 80, 81, 82, 83, 84] (by decide +kernel) (by decide +kernel)
set_option maxRecDepth 20000 in
theorem gX8_need_X8_lastOf : GoodIn wsX8_need (wsV RX8 285 RX8 yX8_lastOf wsX8_lastOf) := goodIn_app (goodIn_of _ (by decide +kernel)) ggX8_need_X8_lastOf
theorem dX8_need_0 : decode cX8_need 0 = .ok (.aload_n 0, 1) := by decide +kernel
theorem dX8_need_1 : decode cX8_need 1 = .ok (.iconst 2, 1) := by decide +kernel
theorem dX8_need_2 : decode cX8_need 2 = .ok (.iconst 1, 1) := by decide +kernel
theorem dX8_need_3 : decode cX8_need 3 = .ok (.invokevirtual 285, 3) := by decide +kernel
theorem dX8_need_6 : decode cX8_need 6 = .ok (.ireturn, 1) := by decide +kernel
set_option maxRecDepth 20000 in
theorem ggX8_hold_X8_lastOf : GoodIn wsX8_hold wsX8_lastOf := goodIn_r _ [5, 6, 7, 8, 9, 10, 4, 11, 12, 13, 14, 15, 16, 17, 18, 19, 20, 21, 22, 23, 24, 25, 26, 27, 28, 29, 30, 31, 32, 33, 34, 35, 36, 37, 38, 39, 40, 41, 42, 43, 44, 45, 46, 47, 48, 49, 50, 51, 52, 53, 54, 55, 56, 57, 58, 59, 60, 61, 62, 63, 64, 65, 66, 67, 68, 69, 70, 71, 72, 73, 74, 75, 76, 77, 78, 79, 80, 81, 82, 83, 84] (by decide +kernel) (by decide +kernel)
set_option maxRecDepth 20000 in
theorem gX8_hold_X8_lastOf : GoodIn wsX8_hold (wsV RX8 285 RX8 yX8_lastOf wsX8_lastOf) := goodIn_app (goodIn_of _ (by decide +kernel)) ggX8_hold_X8_lastOf
theorem dX8_hold_0 : decode cX8_hold 0 = .ok (.aload_n 0, 1) := by decide +kernel
theorem dX8_hold_1 : decode cX8_hold 1 = .ok (.iconst 3, 1) := by decide +kernel
theorem dX8_hold_2 : decode cX8_hold 2 = .ok (.bipush 6, 2) := by decide +kernel
theorem dX8_hold_4 : decode cX8_hold 4 = .ok (.invokevirtual 285, 3) := by decide +kernel
theorem dX8_hold_7 : decode cX8_hold 7 = .ok (.istore_n 1, 1) := by decide +kernel
theorem dX8_hold_8 : decode cX8_hold 8 = .ok (.iload_n 1, 1) := by decide +kernel
theorem dX8_hold_9 : decode cX8_hold 9 = .ok (.iconst 1, 1) := by decide +kernel
theorem dX8_hold_10 : decode cX8_hold 10 = .ok (.if_icmp .ge 7, 3) := by decide +kernel
theorem dX8_hold_13 : decode cX8_hold 13 = .ok (.iconst 1, 1) := by decide +kernel
theorem dX8_hold_14 : decode cX8_hold 14 = .ok (.goto 4, 3) := by decide +kernel
theorem dX8_hold_17 : decode cX8_hold 17 = .ok (.iload_n 1, 1) := by decide +kernel
theorem dX8_hold_18 : decode cX8_hold 18 = .ok (.ireturn, 1) := by decide +kernel
set_option maxRecDepth 20000 in
theorem ggX8_factOf_X8_bits : GoodIn wsX8_factOf wsX8_bits := goodIn_r _ [10, 11, 12, 13, 9, 14] (by decide +kernel) (by decide +kernel)
set_option maxRecDepth 20000 in
theorem gX8_factOf_X8_bits : GoodIn wsX8_factOf (wsV RX8 289 RX8 yX8_bits wsX8_bits) := goodIn_app (goodIn_of _ (by decide +kernel)) ggX8_factOf_X8_bits
theorem dX8_factOf_0 : decode cX8_factOf 0 = .ok (.iload_n 1, 1) := by decide +kernel
theorem dX8_factOf_1 : decode cX8_factOf 1 = .ok (.tableswitch 67 0 4 #[35, 37, 44, 51, 62], 35) := by decide +kernel
theorem dX8_factOf_36 : decode cX8_factOf 36 = .ok (.iload_n 2, 1) := by decide +kernel
theorem dX8_factOf_37 : decode cX8_factOf 37 = .ok (.ireturn, 1) := by decide +kernel
theorem dX8_factOf_38 : decode cX8_factOf 38 = .ok (.aload_n 0, 1) := by decide +kernel
theorem dX8_factOf_39 : decode cX8_factOf 39 = .ok (.getfield 19, 3) := by decide +kernel
theorem dX8_factOf_42 : decode cX8_factOf 42 = .ok (.iload_n 2, 1) := by decide +kernel
theorem dX8_factOf_43 : decode cX8_factOf 43 = .ok (.iaload, 1) := by decide +kernel
theorem dX8_factOf_44 : decode cX8_factOf 44 = .ok (.ireturn, 1) := by decide +kernel
theorem dX8_factOf_45 : decode cX8_factOf 45 = .ok (.aload_n 0, 1) := by decide +kernel
theorem dX8_factOf_46 : decode cX8_factOf 46 = .ok (.getfield 23, 3) := by decide +kernel
theorem dX8_factOf_49 : decode cX8_factOf 49 = .ok (.iload_n 2, 1) := by decide +kernel
theorem dX8_factOf_50 : decode cX8_factOf 50 = .ok (.iaload, 1) := by decide +kernel
theorem dX8_factOf_51 : decode cX8_factOf 51 = .ok (.ireturn, 1) := by decide +kernel
theorem dX8_factOf_52 : decode cX8_factOf 52 = .ok (.aload_n 0, 1) := by decide +kernel
theorem dX8_factOf_53 : decode cX8_factOf 53 = .ok (.aload_n 0, 1) := by decide +kernel
theorem dX8_factOf_54 : decode cX8_factOf 54 = .ok (.getfield 26, 3) := by decide +kernel
theorem dX8_factOf_57 : decode cX8_factOf 57 = .ok (.iload_n 2, 1) := by decide +kernel
theorem dX8_factOf_58 : decode cX8_factOf 58 = .ok (.iaload, 1) := by decide +kernel
theorem dX8_factOf_59 : decode cX8_factOf 59 = .ok (.invokevirtual 289, 3) := by decide +kernel
theorem dX8_factOf_62 : decode cX8_factOf 62 = .ok (.ireturn, 1) := by decide +kernel
theorem dX8_factOf_63 : decode cX8_factOf 63 = .ok (.aload_n 0, 1) := by decide +kernel
theorem dX8_factOf_64 : decode cX8_factOf 64 = .ok (.getfield 13, 3) := by decide +kernel
theorem dX8_factOf_67 : decode cX8_factOf 67 = .ok (.ireturn, 1) := by decide +kernel
theorem dX8_factOf_68 : decode cX8_factOf 68 = .ok (.aload_n 0, 1) := by decide +kernel
theorem dX8_factOf_69 : decode cX8_factOf 69 = .ok (.getfield 16, 3) := by decide +kernel
theorem dX8_factOf_72 : decode cX8_factOf 72 = .ok (.bipush 10, 2) := by decide +kernel
theorem dX8_factOf_74 : decode cX8_factOf 74 = .ok (.irem, 1) := by decide +kernel
theorem dX8_factOf_75 : decode cX8_factOf 75 = .ok (.ireturn, 1) := by decide +kernel
set_option maxRecDepth 20000 in
theorem ggX8_holds_X8_factOf : GoodIn wsX8_holds wsX8_factOf := goodIn_r _ [9, 10, 11, 12, 13, 14, 15, 16, 17, 8, 18, 19, 20, 21, 22, 23, 24, 25, 26, 27, 28, 29, 30, 31, 32, 33, 34, 35, 36, 37, 38, 39, 40, 41, 42, 43, 44, 45, 46, 47, 48, 49, 50, 51, 52, 53, 54, 55, 56, 57, 58, 59, 60, 61, 62, 63, 64, 65, 66, 67, 68, 69, 70, 71, 72, 73, 74, 75, 76, 77, 78, 79, 80, 81, 82, 83, 84, 85, 86, 87, 88, 89] (by decide +kernel) (by decide +kernel)
set_option maxRecDepth 20000 in
theorem gX8_holds_X8_factOf : GoodIn wsX8_holds (wsV RX8 292 RX8 yX8_factOf wsX8_factOf) := goodIn_app (goodIn_of _ (by decide +kernel)) ggX8_holds_X8_factOf
theorem dX8_holds_0 : decode cX8_holds 0 = .ok (.iconst 0, 1) := by decide +kernel
theorem dX8_holds_1 : decode cX8_holds 1 = .ok (.istore_n 3, 1) := by decide +kernel
theorem dX8_holds_2 : decode cX8_holds 2 = .ok (.aload_n 0, 1) := by decide +kernel
theorem dX8_holds_3 : decode cX8_holds 3 = .ok (.getfield 62, 3) := by decide +kernel
theorem dX8_holds_6 : decode cX8_holds 6 = .ok (.iload_n 1, 1) := by decide +kernel
theorem dX8_holds_7 : decode cX8_holds 7 = .ok (.iaload, 1) := by decide +kernel
theorem dX8_holds_8 : decode cX8_holds 8 = .ok (.istore 4, 2) := by decide +kernel
theorem dX8_holds_10 : decode cX8_holds 10 = .ok (.iload 4, 2) := by decide +kernel
theorem dX8_holds_12 : decode cX8_holds 12 = .ok (.aload_n 0, 1) := by decide +kernel
theorem dX8_holds_13 : decode cX8_holds 13 = .ok (.getfield 65, 3) := by decide +kernel
theorem dX8_holds_16 : decode cX8_holds 16 = .ok (.iload_n 1, 1) := by decide +kernel
theorem dX8_holds_17 : decode cX8_holds 17 = .ok (.iaload, 1) := by decide +kernel
theorem dX8_holds_18 : decode cX8_holds 18 = .ok (.if_icmp .ge 225, 3) := by decide +kernel
theorem dX8_holds_21 : decode cX8_holds 21 = .ok (.aload_n 0, 1) := by decide +kernel
theorem dX8_holds_22 : decode cX8_holds 22 = .ok (.getfield 68, 3) := by decide +kernel
theorem dX8_holds_25 : decode cX8_holds 25 = .ok (.iload 4, 2) := by decide +kernel
theorem dX8_holds_27 : decode cX8_holds 27 = .ok (.iaload, 1) := by decide +kernel
theorem dX8_holds_28 : decode cX8_holds 28 = .ok (.istore 5, 2) := by decide +kernel
theorem dX8_holds_30 : decode cX8_holds 30 = .ok (.iload 5, 2) := by decide +kernel
theorem dX8_holds_32 : decode cX8_holds 32 = .ok (.bipush (-33), 2) := by decide +kernel
