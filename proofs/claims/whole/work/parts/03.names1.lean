theorem dX2_needNow_11 : decode cX2_needNow 11 = .ok (.aload_n 0, 1) := by decide +kernel
theorem dX2_needNow_12 : decode cX2_needNow 12 = .ok (.getfield 51, 3) := by decide +kernel
theorem dX2_needNow_15 : decode cX2_needNow 15 = .ok (.getfield 59, 3) := by decide +kernel
theorem dX2_needNow_18 : decode cX2_needNow 18 = .ok (.ireturn, 1) := by decide +kernel
theorem dX2_holdNow_0 : decode cX2_holdNow 0 = .ok (.aload_n 0, 1) := by decide +kernel
theorem dX2_holdNow_1 : decode cX2_holdNow 1 = .ok (.getfield 51, 3) := by decide +kernel
theorem dX2_holdNow_4 : decode cX2_holdNow 4 = .ok (.ifnonnull 8, 3) := by decide +kernel
theorem dX2_holdNow_7 : decode cX2_holdNow 7 = .ok (.bipush 6, 2) := by decide +kernel
theorem dX2_holdNow_9 : decode cX2_holdNow 9 = .ok (.goto 10, 3) := by decide +kernel
theorem dX2_holdNow_12 : decode cX2_holdNow 12 = .ok (.aload_n 0, 1) := by decide +kernel
theorem dX2_holdNow_13 : decode cX2_holdNow 13 = .ok (.getfield 51, 3) := by decide +kernel
theorem dX2_holdNow_16 : decode cX2_holdNow 16 = .ok (.getfield 62, 3) := by decide +kernel
theorem dX2_holdNow_19 : decode cX2_holdNow 19 = .ok (.ireturn, 1) := by decide +kernel
theorem dX2_marksOf_0 : decode cX2_marksOf 0 = .ok (.iconst 0, 1) := by decide +kernel
theorem dX2_marksOf_1 : decode cX2_marksOf 1 = .ok (.istore_n 2, 1) := by decide +kernel
theorem dX2_marksOf_2 : decode cX2_marksOf 2 = .ok (.iconst 0, 1) := by decide +kernel
theorem dX2_marksOf_3 : decode cX2_marksOf 3 = .ok (.istore_n 3, 1) := by decide +kernel
theorem dX2_marksOf_4 : decode cX2_marksOf 4 = .ok (.iload_n 3, 1) := by decide +kernel
theorem dX2_marksOf_5 : decode cX2_marksOf 5 = .ok (.aload_n 0, 1) := by decide +kernel
theorem dX2_marksOf_6 : decode cX2_marksOf 6 = .ok (.getfield 32, 3) := by decide +kernel
theorem dX2_marksOf_9 : decode cX2_marksOf 9 = .ok (.if_icmp .ge 27, 3) := by decide +kernel
theorem dX2_marksOf_12 : decode cX2_marksOf 12 = .ok (.iload_n 1, 1) := by decide +kernel
theorem dX2_marksOf_13 : decode cX2_marksOf 13 = .ok (.iload_n 3, 1) := by decide +kernel
theorem dX2_marksOf_14 : decode cX2_marksOf 14 = .ok (.ishr, 1) := by decide +kernel
theorem dX2_marksOf_15 : decode cX2_marksOf 15 = .ok (.iconst 1, 1) := by decide +kernel
theorem dX2_marksOf_16 : decode cX2_marksOf 16 = .ok (.iand, 1) := by decide +kernel
theorem dX2_marksOf_17 : decode cX2_marksOf 17 = .ok (.iconst 1, 1) := by decide +kernel
theorem dX2_marksOf_18 : decode cX2_marksOf 18 = .ok (.if_icmp .ne 12, 3) := by decide +kernel
theorem dX2_marksOf_21 : decode cX2_marksOf 21 = .ok (.iload_n 2, 1) := by decide +kernel
theorem dX2_marksOf_22 : decode cX2_marksOf 22 = .ok (.aload_n 0, 1) := by decide +kernel
theorem dX2_marksOf_23 : decode cX2_marksOf 23 = .ok (.getfield 18, 3) := by decide +kernel
theorem dX2_marksOf_26 : decode cX2_marksOf 26 = .ok (.iload_n 3, 1) := by decide +kernel
theorem dX2_marksOf_27 : decode cX2_marksOf 27 = .ok (.iaload, 1) := by decide +kernel
theorem dX2_marksOf_28 : decode cX2_marksOf 28 = .ok (.ior, 1) := by decide +kernel
theorem dX2_marksOf_29 : decode cX2_marksOf 29 = .ok (.istore_n 2, 1) := by decide +kernel
theorem dX2_marksOf_30 : decode cX2_marksOf 30 = .ok (.iinc 3 1, 3) := by decide +kernel
theorem dX2_marksOf_33 : decode cX2_marksOf 33 = .ok (.goto (-29), 3) := by decide +kernel
theorem dX2_marksOf_36 : decode cX2_marksOf 36 = .ok (.iload_n 2, 1) := by decide +kernel
theorem dX2_marksOf_37 : decode cX2_marksOf 37 = .ok (.ireturn, 1) := by decide +kernel
set_option maxRecDepth 20000 in
theorem ggX2_alikeOf_X2_marksOf : GoodIn wsX2_alikeOf wsX2_marksOf := goodIn_r _ [7, 8, 1, 16, 17, 18, 19, 20, 21, 22, 23, 24, 25, 26] (by decide +kernel) (by decide +kernel)
set_option maxRecDepth 20000 in
theorem gX2_alikeOf_X2_marksOf : GoodIn wsX2_alikeOf (wsV RX2 65 RX2 yX2_marksOf wsX2_marksOf) := goodIn_app (goodIn_of _ (by decide +kernel)) ggX2_alikeOf_X2_marksOf
set_option maxRecDepth 20000 in
theorem ggX2_alikeOf_J6_bitCount_0f7a4 : GoodIn wsX2_alikeOf wsJ6_bitCount_0f7a4 := goodIn_r _ [12, 13, 14, 15] (by decide +kernel) (by decide +kernel)
set_option maxRecDepth 20000 in
theorem gX2_alikeOf_J6_bitCount_0f7a4 : GoodIn wsX2_alikeOf (va_wsS RX2 69 yJ6_bitCount_0f7a4 wsJ6_bitCount_0f7a4) := goodIn_app (goodIn_of _ (by decide +kernel)) ggX2_alikeOf_J6_bitCount_0f7a4
theorem dX2_alikeOf_0 : decode cX2_alikeOf 0 = .ok (.aload_n 0, 1) := by decide +kernel
theorem dX2_alikeOf_1 : decode cX2_alikeOf 1 = .ok (.getfield 18, 3) := by decide +kernel
theorem dX2_alikeOf_4 : decode cX2_alikeOf 4 = .ok (.iload_n 1, 1) := by decide +kernel
theorem dX2_alikeOf_5 : decode cX2_alikeOf 5 = .ok (.iaload, 1) := by decide +kernel
theorem dX2_alikeOf_6 : decode cX2_alikeOf 6 = .ok (.aload_n 0, 1) := by decide +kernel
theorem dX2_alikeOf_7 : decode cX2_alikeOf 7 = .ok (.aload_n 0, 1) := by decide +kernel
theorem dX2_alikeOf_8 : decode cX2_alikeOf 8 = .ok (.getfield 45, 3) := by decide +kernel
theorem dX2_alikeOf_11 : decode cX2_alikeOf 11 = .ok (.invokevirtual 65, 3) := by decide +kernel
theorem dX2_alikeOf_14 : decode cX2_alikeOf 14 = .ok (.iand, 1) := by decide +kernel
theorem dX2_alikeOf_15 : decode cX2_alikeOf 15 = .ok (.invokestatic 69, 3) := by decide +kernel
theorem dX2_alikeOf_18 : decode cX2_alikeOf 18 = .ok (.ireturn, 1) := by decide +kernel
set_option maxRecDepth 20000 in
theorem ggX2_tasteOf_J6_bitCount_0f7a4 : GoodIn wsX2_tasteOf wsJ6_bitCount_0f7a4 := goodIn_r _ [11, 12, 13, 14] (by decide +kernel) (by decide +kernel)
set_option maxRecDepth 20000 in
theorem gX2_tasteOf_J6_bitCount_0f7a4 : GoodIn wsX2_tasteOf (va_wsS RX2 69 yJ6_bitCount_0f7a4 wsJ6_bitCount_0f7a4) := goodIn_app (goodIn_of _ (by decide +kernel)) ggX2_tasteOf_J6_bitCount_0f7a4
set_option maxRecDepth 20000 in
theorem ggX2_tasteOf_X4_sumFor : GoodIn wsX2_tasteOf wsX4_sumFor := goodIn_r _ [18, 19, 20, 21, 16, 22, 34, 35, 36] (by decide +kernel) (by decide +kernel)
set_option maxRecDepth 20000 in
theorem gX2_tasteOf_X4_sumFor_n74 : GoodIn wsX2_tasteOf (wsX4_sumFor) := ggX2_tasteOf_X4_sumFor
theorem dX2_tasteOf_0 : decode cX2_tasteOf 0 = .ok (.aload_n 0, 1) := by decide +kernel
theorem dX2_tasteOf_1 : decode cX2_tasteOf 1 = .ok (.getfield 51, 3) := by decide +kernel
theorem dX2_tasteOf_4 : decode cX2_tasteOf 4 = .ok (.ifnonnull 5, 3) := by decide +kernel
theorem dX2_tasteOf_7 : decode cX2_tasteOf 7 = .ok (.iconst 0, 1) := by decide +kernel
theorem dX2_tasteOf_8 : decode cX2_tasteOf 8 = .ok (.ireturn, 1) := by decide +kernel
theorem dX2_tasteOf_9 : decode cX2_tasteOf 9 = .ok (.aload_n 0, 1) := by decide +kernel
theorem dX2_tasteOf_10 : decode cX2_tasteOf 10 = .ok (.getfield 29, 3) := by decide +kernel
theorem dX2_tasteOf_13 : decode cX2_tasteOf 13 = .ok (.iconst 0, 1) := by decide +kernel
theorem dX2_tasteOf_14 : decode cX2_tasteOf 14 = .ok (.iload_n 1, 1) := by decide +kernel
theorem dX2_tasteOf_15 : decode cX2_tasteOf 15 = .ok (.iastore, 1) := by decide +kernel
theorem dX2_tasteOf_16 : decode cX2_tasteOf 16 = .ok (.aload_n 0, 1) := by decide +kernel
theorem dX2_tasteOf_17 : decode cX2_tasteOf 17 = .ok (.getfield 29, 3) := by decide +kernel
theorem dX2_tasteOf_20 : decode cX2_tasteOf 20 = .ok (.iconst 1, 1) := by decide +kernel
theorem dX2_tasteOf_21 : decode cX2_tasteOf 21 = .ok (.aload_n 0, 1) := by decide +kernel
theorem dX2_tasteOf_22 : decode cX2_tasteOf 22 = .ok (.getfield 9, 3) := by decide +kernel
theorem dX2_tasteOf_25 : decode cX2_tasteOf 25 = .ok (.iload_n 1, 1) := by decide +kernel
theorem dX2_tasteOf_26 : decode cX2_tasteOf 26 = .ok (.iaload, 1) := by decide +kernel
theorem dX2_tasteOf_27 : decode cX2_tasteOf 27 = .ok (.iastore, 1) := by decide +kernel
theorem dX2_tasteOf_28 : decode cX2_tasteOf 28 = .ok (.aload_n 0, 1) := by decide +kernel
theorem dX2_tasteOf_29 : decode cX2_tasteOf 29 = .ok (.getfield 29, 3) := by decide +kernel
theorem dX2_tasteOf_32 : decode cX2_tasteOf 32 = .ok (.iconst 2, 1) := by decide +kernel
theorem dX2_tasteOf_33 : decode cX2_tasteOf 33 = .ok (.aload_n 0, 1) := by decide +kernel
theorem dX2_tasteOf_34 : decode cX2_tasteOf 34 = .ok (.getfield 15, 3) := by decide +kernel
theorem dX2_tasteOf_37 : decode cX2_tasteOf 37 = .ok (.iload_n 1, 1) := by decide +kernel
theorem dX2_tasteOf_38 : decode cX2_tasteOf 38 = .ok (.iaload, 1) := by decide +kernel
theorem dX2_tasteOf_39 : decode cX2_tasteOf 39 = .ok (.iastore, 1) := by decide +kernel
theorem dX2_tasteOf_40 : decode cX2_tasteOf 40 = .ok (.aload_n 0, 1) := by decide +kernel
theorem dX2_tasteOf_41 : decode cX2_tasteOf 41 = .ok (.getfield 29, 3) := by decide +kernel
theorem dX2_tasteOf_44 : decode cX2_tasteOf 44 = .ok (.iconst 3, 1) := by decide +kernel
theorem dX2_tasteOf_45 : decode cX2_tasteOf 45 = .ok (.aload_n 0, 1) := by decide +kernel
theorem dX2_tasteOf_46 : decode cX2_tasteOf 46 = .ok (.getfield 18, 3) := by decide +kernel
theorem dX2_tasteOf_49 : decode cX2_tasteOf 49 = .ok (.iload_n 1, 1) := by decide +kernel
theorem dX2_tasteOf_50 : decode cX2_tasteOf 50 = .ok (.iaload, 1) := by decide +kernel
theorem dX2_tasteOf_51 : decode cX2_tasteOf 51 = .ok (.invokestatic 69, 3) := by decide +kernel
theorem dX2_tasteOf_54 : decode cX2_tasteOf 54 = .ok (.iastore, 1) := by decide +kernel
theorem dX2_tasteOf_55 : decode cX2_tasteOf 55 = .ok (.aload_n 0, 1) := by decide +kernel
theorem dX2_tasteOf_56 : decode cX2_tasteOf 56 = .ok (.getfield 29, 3) := by decide +kernel
theorem dX2_tasteOf_59 : decode cX2_tasteOf 59 = .ok (.iconst 4, 1) := by decide +kernel
theorem dX2_tasteOf_60 : decode cX2_tasteOf 60 = .ok (.aload_n 0, 1) := by decide +kernel
theorem dX2_tasteOf_61 : decode cX2_tasteOf 61 = .ok (.getfield 42, 3) := by decide +kernel
theorem dX2_tasteOf_64 : decode cX2_tasteOf 64 = .ok (.iastore, 1) := by decide +kernel
theorem dX2_tasteOf_65 : decode cX2_tasteOf 65 = .ok (.aload_n 0, 1) := by decide +kernel
theorem dX2_tasteOf_66 : decode cX2_tasteOf 66 = .ok (.getfield 29, 3) := by decide +kernel
theorem dX2_tasteOf_69 : decode cX2_tasteOf 69 = .ok (.iconst 5, 1) := by decide +kernel
theorem dX2_tasteOf_70 : decode cX2_tasteOf 70 = .ok (.aload_n 0, 1) := by decide +kernel
theorem dX2_tasteOf_71 : decode cX2_tasteOf 71 = .ok (.getfield 48, 3) := by decide +kernel
theorem dX2_tasteOf_74 : decode cX2_tasteOf 74 = .ok (.bipush 10, 2) := by decide +kernel
theorem dX2_tasteOf_76 : decode cX2_tasteOf 76 = .ok (.irem, 1) := by decide +kernel
theorem dX2_tasteOf_77 : decode cX2_tasteOf 77 = .ok (.iastore, 1) := by decide +kernel
theorem dX2_tasteOf_78 : decode cX2_tasteOf 78 = .ok (.aload_n 0, 1) := by decide +kernel
theorem dX2_tasteOf_79 : decode cX2_tasteOf 79 = .ok (.getfield 51, 3) := by decide +kernel
theorem dX2_tasteOf_82 : decode cX2_tasteOf 82 = .ok (.aload_n 0, 1) := by decide +kernel
theorem dX2_tasteOf_83 : decode cX2_tasteOf 83 = .ok (.getfield 29, 3) := by decide +kernel
theorem dX2_tasteOf_86 : decode cX2_tasteOf 86 = .ok (.invokevirtual 74, 3) := by decide +kernel
theorem dX2_tasteOf_89 : decode cX2_tasteOf 89 = .ok (.ireturn, 1) := by decide +kernel
set_option maxRecDepth 20000 in
theorem ggX2_goesNow_X2_isHad : GoodIn wsX2_goesNow wsX2_isHad := goodIn_r _ [12, 13, 60, 61, 62, 63, 64, 65, 66, 67, 68, 69, 70] (by decide +kernel) (by decide +kernel)
set_option maxRecDepth 20000 in
theorem gX2_goesNow_X2_isHad : GoodIn wsX2_goesNow (wsV RX2 55 RX2 yX2_isHad wsX2_isHad) := goodIn_app (goodIn_of _ (by decide +kernel)) ggX2_goesNow_X2_isHad
set_option maxRecDepth 20000 in
theorem ggX2_goesNow_X2_holdNow : GoodIn wsX2_goesNow wsX2_holdNow := goodIn_r _ [17, 18, 60, 61, 62, 63, 64, 65, 66, 67, 68, 69, 70, 71, 72, 73] (by decide +kernel) (by decide +kernel)
set_option maxRecDepth 20000 in
theorem gX2_goesNow_X2_holdNow : GoodIn wsX2_goesNow (wsV RX2 78 RX2 yX2_holdNow wsX2_holdNow) := goodIn_app (goodIn_of _ (by decide +kernel)) ggX2_goesNow_X2_holdNow
set_option maxRecDepth 20000 in
theorem ggX2_goesNow_X2_alikeOf : GoodIn wsX2_goesNow wsX2_alikeOf := goodIn_r _ [22, 4, 13, 23, 24, 25, 11, 26, 27, 28, 29, 30, 31, 32, 33, 34, 60, 61, 62, 63, 64, 65, 66, 67, 68, 69, 70] (by decide +kernel) (by decide +kernel)
set_option maxRecDepth 20000 in
theorem gX2_goesNow_X2_alikeOf : GoodIn wsX2_goesNow (wsV RX2 82 RX2 yX2_alikeOf wsX2_alikeOf) := goodIn_app (goodIn_of _ (by decide +kernel)) ggX2_goesNow_X2_alikeOf
set_option maxRecDepth 20000 in
theorem ggX2_goesNow_X2_tasteOf : GoodIn wsX2_goesNow wsX2_tasteOf := goodIn_r _ [38, 18, 39, 3, 5, 4, 1, 6, 28, 29, 30, 31, 32, 33, 34, 40, 41, 42, 43, 44, 45, 46, 47, 60, 61, 62, 63, 64, 65, 66, 67, 68, 69, 70, 71, 72, 73] (by decide +kernel) (by decide +kernel)
set_option maxRecDepth 20000 in
theorem gX2_goesNow_X2_tasteOf : GoodIn wsX2_goesNow (wsV RX2 85 RX2 yX2_tasteOf wsX2_tasteOf) := goodIn_app (goodIn_of _ (by decide +kernel)) ggX2_goesNow_X2_tasteOf
set_option maxRecDepth 20000 in
theorem ggX2_goesNow_X2_needNow : GoodIn wsX2_goesNow wsX2_needNow := goodIn_r _ [51, 18, 60, 61, 62, 63, 64, 65, 66, 67, 68, 69, 70, 71, 72, 73] (by decide +kernel) (by decide +kernel)
set_option maxRecDepth 20000 in
theorem gX2_goesNow_X2_needNow : GoodIn wsX2_goesNow (wsV RX2 88 RX2 yX2_needNow wsX2_needNow) := goodIn_app (goodIn_of _ (by decide +kernel)) ggX2_goesNow_X2_needNow
set_option maxRecDepth 20000 in
theorem ggX2_goesNow_X2_hasEqual : GoodIn wsX2_goesNow wsX2_hasEqual := goodIn_r _ [55, 4, 1, 2, 28, 29, 30, 31, 32, 33, 34, 60, 61, 62, 63, 64, 65, 66, 67, 68, 69, 70] (by decide +kernel) (by decide +kernel)
set_option maxRecDepth 20000 in
theorem gX2_goesNow_X2_hasEqual : GoodIn wsX2_goesNow (wsV RX2 91 RX2 yX2_hasEqual wsX2_hasEqual) := goodIn_app (goodIn_of _ (by decide +kernel)) ggX2_goesNow_X2_hasEqual
set_option maxRecDepth 20000 in
theorem ggX2_goesNow_X2_hasFewer : GoodIn wsX2_goesNow wsX2_hasFewer := goodIn_r _ [59, 4, 28, 29, 30, 31, 32, 33, 34, 60, 61, 62, 63, 64, 65, 66, 67, 68, 69, 70] (by decide +kernel) (by decide +kernel)
set_option maxRecDepth 20000 in
theorem gX2_goesNow_X2_hasFewer : GoodIn wsX2_goesNow (wsV RX2 94 RX2 yX2_hasFewer wsX2_hasFewer) := goodIn_app (goodIn_of _ (by decide +kernel)) ggX2_goesNow_X2_hasFewer
theorem dX2_goesNow_0 : decode cX2_goesNow 0 = .ok (.aload_n 0, 1) := by decide +kernel
theorem dX2_goesNow_1 : decode cX2_goesNow 1 = .ok (.iload_n 1, 1) := by decide +kernel
theorem dX2_goesNow_2 : decode cX2_goesNow 2 = .ok (.invokevirtual 55, 3) := by decide +kernel
theorem dX2_goesNow_5 : decode cX2_goesNow 5 = .ok (.ifCond .ne 14, 3) := by decide +kernel
theorem dX2_goesNow_8 : decode cX2_goesNow 8 = .ok (.aload_n 0, 1) := by decide +kernel
theorem dX2_goesNow_9 : decode cX2_goesNow 9 = .ok (.getfield 42, 3) := by decide +kernel
theorem dX2_goesNow_12 : decode cX2_goesNow 12 = .ok (.aload_n 0, 1) := by decide +kernel
theorem dX2_goesNow_13 : decode cX2_goesNow 13 = .ok (.invokevirtual 78, 3) := by decide +kernel
theorem dX2_goesNow_16 : decode cX2_goesNow 16 = .ok (.if_icmp .lt 5, 3) := by decide +kernel
theorem dX2_goesNow_19 : decode cX2_goesNow 19 = .ok (.iconst 0, 1) := by decide +kernel
theorem dX2_goesNow_20 : decode cX2_goesNow 20 = .ok (.ireturn, 1) := by decide +kernel
theorem dX2_goesNow_21 : decode cX2_goesNow 21 = .ok (.aload_n 0, 1) := by decide +kernel
theorem dX2_goesNow_22 : decode cX2_goesNow 22 = .ok (.getfield 42, 3) := by decide +kernel
theorem dX2_goesNow_25 : decode cX2_goesNow 25 = .ok (.ifCond .ne 5, 3) := by decide +kernel
theorem dX2_goesNow_28 : decode cX2_goesNow 28 = .ok (.iconst 1, 1) := by decide +kernel
theorem dX2_goesNow_29 : decode cX2_goesNow 29 = .ok (.ireturn, 1) := by decide +kernel
theorem dX2_goesNow_30 : decode cX2_goesNow 30 = .ok (.aload_n 0, 1) := by decide +kernel
theorem dX2_goesNow_31 : decode cX2_goesNow 31 = .ok (.iload_n 1, 1) := by decide +kernel
theorem dX2_goesNow_32 : decode cX2_goesNow 32 = .ok (.invokevirtual 82, 3) := by decide +kernel
theorem dX2_goesNow_35 : decode cX2_goesNow 35 = .ok (.aload_n 0, 1) := by decide +kernel
theorem dX2_goesNow_36 : decode cX2_goesNow 36 = .ok (.iload_n 1, 1) := by decide +kernel
theorem dX2_goesNow_37 : decode cX2_goesNow 37 = .ok (.invokevirtual 85, 3) := by decide +kernel
theorem dX2_goesNow_40 : decode cX2_goesNow 40 = .ok (.iadd, 1) := by decide +kernel
theorem dX2_goesNow_41 : decode cX2_goesNow 41 = .ok (.aload_n 0, 1) := by decide +kernel
theorem dX2_goesNow_42 : decode cX2_goesNow 42 = .ok (.invokevirtual 88, 3) := by decide +kernel
theorem dX2_goesNow_45 : decode cX2_goesNow 45 = .ok (.if_icmp .lt 7, 3) := by decide +kernel
theorem dX2_goesNow_48 : decode cX2_goesNow 48 = .ok (.iconst 1, 1) := by decide +kernel
theorem dX2_goesNow_49 : decode cX2_goesNow 49 = .ok (.goto 4, 3) := by decide +kernel
theorem dX2_goesNow_52 : decode cX2_goesNow 52 = .ok (.iconst 0, 1) := by decide +kernel
theorem dX2_goesNow_53 : decode cX2_goesNow 53 = .ok (.istore_n 2, 1) := by decide +kernel
theorem dX2_goesNow_54 : decode cX2_goesNow 54 = .ok (.aload_n 0, 1) := by decide +kernel
theorem dX2_goesNow_55 : decode cX2_goesNow 55 = .ok (.getfield 24, 3) := by decide +kernel
theorem dX2_goesNow_58 : decode cX2_goesNow 58 = .ok (.aload_n 0, 1) := by decide +kernel
theorem dX2_goesNow_59 : decode cX2_goesNow 59 = .ok (.getfield 42, 3) := by decide +kernel
theorem dX2_goesNow_62 : decode cX2_goesNow 62 = .ok (.iconst 1, 1) := by decide +kernel
theorem dX2_goesNow_63 : decode cX2_goesNow 63 = .ok (.isub, 1) := by decide +kernel
theorem dX2_goesNow_64 : decode cX2_goesNow 64 = .ok (.iaload, 1) := by decide +kernel
theorem dX2_goesNow_65 : decode cX2_goesNow 65 = .ok (.istore_n 3, 1) := by decide +kernel
theorem dX2_goesNow_66 : decode cX2_goesNow 66 = .ok (.aload_n 0, 1) := by decide +kernel
theorem dX2_goesNow_67 : decode cX2_goesNow 67 = .ok (.getfield 9, 3) := by decide +kernel
theorem dX2_goesNow_70 : decode cX2_goesNow 70 = .ok (.iload_n 1, 1) := by decide +kernel
theorem dX2_goesNow_71 : decode cX2_goesNow 71 = .ok (.iaload, 1) := by decide +kernel
theorem dX2_goesNow_72 : decode cX2_goesNow 72 = .ok (.tableswitch 210 1 6 #[40, 58, 84, 103, 134, 169], 40) := by decide +kernel
theorem dX2_goesNow_112 : decode cX2_goesNow 112 = .ok (.iload_n 2, 1) := by decide +kernel
theorem dX2_goesNow_113 : decode cX2_goesNow 113 = .ok (.ifCond .eq 15, 3) := by decide +kernel
theorem dX2_goesNow_116 : decode cX2_goesNow 116 = .ok (.aload_n 0, 1) := by decide +kernel
theorem dX2_goesNow_117 : decode cX2_goesNow 117 = .ok (.iload_n 1, 1) := by decide +kernel
theorem dX2_goesNow_118 : decode cX2_goesNow 118 = .ok (.invokevirtual 91, 3) := by decide +kernel
theorem dX2_goesNow_121 : decode cX2_goesNow 121 = .ok (.ifCond .eq 7, 3) := by decide +kernel
theorem dX2_goesNow_124 : decode cX2_goesNow 124 = .ok (.iconst 1, 1) := by decide +kernel
theorem dX2_goesNow_125 : decode cX2_goesNow 125 = .ok (.goto 4, 3) := by decide +kernel
theorem dX2_goesNow_128 : decode cX2_goesNow 128 = .ok (.iconst 0, 1) := by decide +kernel
theorem dX2_goesNow_129 : decode cX2_goesNow 129 = .ok (.ireturn, 1) := by decide +kernel
theorem dX2_goesNow_130 : decode cX2_goesNow 130 = .ok (.iload_n 2, 1) := by decide +kernel
theorem dX2_goesNow_131 : decode cX2_goesNow 131 = .ok (.ifCond .eq 23, 3) := by decide +kernel
theorem dX2_goesNow_134 : decode cX2_goesNow 134 = .ok (.aload_n 0, 1) := by decide +kernel
theorem dX2_goesNow_135 : decode cX2_goesNow 135 = .ok (.getfield 18, 3) := by decide +kernel
theorem dX2_goesNow_138 : decode cX2_goesNow 138 = .ok (.iload_n 1, 1) := by decide +kernel
theorem dX2_goesNow_139 : decode cX2_goesNow 139 = .ok (.iaload, 1) := by decide +kernel
theorem dX2_goesNow_140 : decode cX2_goesNow 140 = .ok (.aload_n 0, 1) := by decide +kernel
theorem dX2_goesNow_141 : decode cX2_goesNow 141 = .ok (.getfield 18, 3) := by decide +kernel
theorem dX2_goesNow_144 : decode cX2_goesNow 144 = .ok (.iload_n 3, 1) := by decide +kernel
theorem dX2_goesNow_145 : decode cX2_goesNow 145 = .ok (.iaload, 1) := by decide +kernel
theorem dX2_goesNow_146 : decode cX2_goesNow 146 = .ok (.iand, 1) := by decide +kernel
theorem dX2_goesNow_147 : decode cX2_goesNow 147 = .ok (.ifCond .ne 7, 3) := by decide +kernel
theorem dX2_goesNow_150 : decode cX2_goesNow 150 = .ok (.iconst 1, 1) := by decide +kernel
theorem dX2_goesNow_151 : decode cX2_goesNow 151 = .ok (.goto 4, 3) := by decide +kernel
theorem dX2_goesNow_154 : decode cX2_goesNow 154 = .ok (.iconst 0, 1) := by decide +kernel
theorem dX2_goesNow_155 : decode cX2_goesNow 155 = .ok (.ireturn, 1) := by decide +kernel
theorem dX2_goesNow_156 : decode cX2_goesNow 156 = .ok (.iload_n 2, 1) := by decide +kernel
theorem dX2_goesNow_157 : decode cX2_goesNow 157 = .ok (.ifCond .ne 16, 3) := by decide +kernel
theorem dX2_goesNow_160 : decode cX2_goesNow 160 = .ok (.aload_n 0, 1) := by decide +kernel
theorem dX2_goesNow_161 : decode cX2_goesNow 161 = .ok (.iload_n 3, 1) := by decide +kernel
theorem dX2_goesNow_162 : decode cX2_goesNow 162 = .ok (.iload_n 1, 1) := by decide +kernel
theorem dX2_goesNow_163 : decode cX2_goesNow 163 = .ok (.invokevirtual 94, 3) := by decide +kernel
theorem dX2_goesNow_166 : decode cX2_goesNow 166 = .ok (.ifCond .eq 7, 3) := by decide +kernel
theorem dX2_goesNow_169 : decode cX2_goesNow 169 = .ok (.iconst 1, 1) := by decide +kernel
theorem dX2_goesNow_170 : decode cX2_goesNow 170 = .ok (.goto 4, 3) := by decide +kernel
theorem dX2_goesNow_173 : decode cX2_goesNow 173 = .ok (.iconst 0, 1) := by decide +kernel
theorem dX2_goesNow_174 : decode cX2_goesNow 174 = .ok (.ireturn, 1) := by decide +kernel
theorem dX2_goesNow_175 : decode cX2_goesNow 175 = .ok (.iload_n 2, 1) := by decide +kernel
theorem dX2_goesNow_176 : decode cX2_goesNow 176 = .ok (.ifCond .eq 11, 3) := by decide +kernel
theorem dX2_goesNow_179 : decode cX2_goesNow 179 = .ok (.aload_n 0, 1) := by decide +kernel
theorem dX2_goesNow_180 : decode cX2_goesNow 180 = .ok (.iload_n 1, 1) := by decide +kernel
theorem dX2_goesNow_181 : decode cX2_goesNow 181 = .ok (.invokevirtual 91, 3) := by decide +kernel
theorem dX2_goesNow_184 : decode cX2_goesNow 184 = .ok (.ifCond .ne 16, 3) := by decide +kernel
theorem dX2_goesNow_187 : decode cX2_goesNow 187 = .ok (.aload_n 0, 1) := by decide +kernel
theorem dX2_goesNow_188 : decode cX2_goesNow 188 = .ok (.getfield 15, 3) := by decide +kernel
theorem dX2_goesNow_191 : decode cX2_goesNow 191 = .ok (.iload_n 1, 1) := by decide +kernel
theorem dX2_goesNow_192 : decode cX2_goesNow 192 = .ok (.iaload, 1) := by decide +kernel
theorem dX2_goesNow_193 : decode cX2_goesNow 193 = .ok (.aload_n 0, 1) := by decide +kernel
theorem dX2_goesNow_194 : decode cX2_goesNow 194 = .ok (.getfield 42, 3) := by decide +kernel
theorem dX2_goesNow_197 : decode cX2_goesNow 197 = .ok (.if_icmp .ge 7, 3) := by decide +kernel
theorem dX2_goesNow_200 : decode cX2_goesNow 200 = .ok (.iconst 1, 1) := by decide +kernel
theorem dX2_goesNow_201 : decode cX2_goesNow 201 = .ok (.goto 4, 3) := by decide +kernel
theorem dX2_goesNow_204 : decode cX2_goesNow 204 = .ok (.iconst 0, 1) := by decide +kernel
theorem dX2_goesNow_205 : decode cX2_goesNow 205 = .ok (.ireturn, 1) := by decide +kernel
theorem dX2_goesNow_206 : decode cX2_goesNow 206 = .ok (.iload_n 2, 1) := by decide +kernel
theorem dX2_goesNow_207 : decode cX2_goesNow 207 = .ok (.ifCond .eq 32, 3) := by decide +kernel
theorem dX2_goesNow_210 : decode cX2_goesNow 210 = .ok (.aload_n 0, 1) := by decide +kernel
theorem dX2_goesNow_211 : decode cX2_goesNow 211 = .ok (.getfield 48, 3) := by decide +kernel
theorem dX2_goesNow_214 : decode cX2_goesNow 214 = .ok (.iconst 2, 1) := by decide +kernel
theorem dX2_goesNow_215 : decode cX2_goesNow 215 = .ok (.irem, 1) := by decide +kernel
theorem dX2_goesNow_216 : decode cX2_goesNow 216 = .ok (.ifCond .ne 19, 3) := by decide +kernel
theorem dX2_goesNow_219 : decode cX2_goesNow 219 = .ok (.aload_n 0, 1) := by decide +kernel
theorem dX2_goesNow_220 : decode cX2_goesNow 220 = .ok (.getfield 18, 3) := by decide +kernel
theorem dX2_goesNow_223 : decode cX2_goesNow 223 = .ok (.iload_n 1, 1) := by decide +kernel
theorem dX2_goesNow_224 : decode cX2_goesNow 224 = .ok (.iaload, 1) := by decide +kernel
theorem dX2_goesNow_225 : decode cX2_goesNow 225 = .ok (.aload_n 0, 1) := by decide +kernel
theorem dX2_goesNow_226 : decode cX2_goesNow 226 = .ok (.getfield 18, 3) := by decide +kernel
theorem dX2_goesNow_229 : decode cX2_goesNow 229 = .ok (.iload_n 3, 1) := by decide +kernel
theorem dX2_goesNow_230 : decode cX2_goesNow 230 = .ok (.iaload, 1) := by decide +kernel
theorem dX2_goesNow_231 : decode cX2_goesNow 231 = .ok (.iand, 1) := by decide +kernel
theorem dX2_goesNow_232 : decode cX2_goesNow 232 = .ok (.ifCond .ne 7, 3) := by decide +kernel
theorem dX2_goesNow_235 : decode cX2_goesNow 235 = .ok (.iconst 1, 1) := by decide +kernel
theorem dX2_goesNow_236 : decode cX2_goesNow 236 = .ok (.goto 4, 3) := by decide +kernel
theorem dX2_goesNow_239 : decode cX2_goesNow 239 = .ok (.iconst 0, 1) := by decide +kernel
theorem dX2_goesNow_240 : decode cX2_goesNow 240 = .ok (.ireturn, 1) := by decide +kernel
theorem dX2_goesNow_241 : decode cX2_goesNow 241 = .ok (.iload_n 2, 1) := by decide +kernel
theorem dX2_goesNow_242 : decode cX2_goesNow 242 = .ok (.ifCond .ne 12, 3) := by decide +kernel
theorem dX2_goesNow_245 : decode cX2_goesNow 245 = .ok (.aload_n 0, 1) := by decide +kernel
theorem dX2_goesNow_246 : decode cX2_goesNow 246 = .ok (.iload_n 3, 1) := by decide +kernel
theorem dX2_goesNow_247 : decode cX2_goesNow 247 = .ok (.iload_n 1, 1) := by decide +kernel
theorem dX2_goesNow_248 : decode cX2_goesNow 248 = .ok (.invokevirtual 94, 3) := by decide +kernel
theorem dX2_goesNow_251 : decode cX2_goesNow 251 = .ok (.ifCond .ne 25, 3) := by decide +kernel
theorem dX2_goesNow_254 : decode cX2_goesNow 254 = .ok (.aload_n 0, 1) := by decide +kernel
theorem dX2_goesNow_255 : decode cX2_goesNow 255 = .ok (.getfield 21, 3) := by decide +kernel
theorem dX2_goesNow_258 : decode cX2_goesNow 258 = .ok (.iload_n 1, 1) := by decide +kernel
theorem dX2_goesNow_259 : decode cX2_goesNow 259 = .ok (.iconst 4, 1) := by decide +kernel
theorem dX2_goesNow_260 : decode cX2_goesNow 260 = .ok (.imul, 1) := by decide +kernel
theorem dX2_goesNow_261 : decode cX2_goesNow 261 = .ok (.aload_n 0, 1) := by decide +kernel
theorem dX2_goesNow_262 : decode cX2_goesNow 262 = .ok (.getfield 48, 3) := by decide +kernel
theorem dX2_goesNow_265 : decode cX2_goesNow 265 = .ok (.iconst 4, 1) := by decide +kernel
theorem dX2_goesNow_266 : decode cX2_goesNow 266 = .ok (.irem, 1) := by decide +kernel
theorem dX2_goesNow_267 : decode cX2_goesNow 267 = .ok (.iadd, 1) := by decide +kernel
theorem dX2_goesNow_268 : decode cX2_goesNow 268 = .ok (.iaload, 1) := by decide +kernel
theorem dX2_goesNow_269 : decode cX2_goesNow 269 = .ok (.aload_n 0, 1) := by decide +kernel
theorem dX2_goesNow_270 : decode cX2_goesNow 270 = .ok (.getfield 42, 3) := by decide +kernel
theorem dX2_goesNow_273 : decode cX2_goesNow 273 = .ok (.if_icmp .ne 7, 3) := by decide +kernel
theorem dX2_goesNow_276 : decode cX2_goesNow 276 = .ok (.iconst 1, 1) := by decide +kernel
theorem dX2_goesNow_277 : decode cX2_goesNow 277 = .ok (.goto 4, 3) := by decide +kernel
theorem dX2_goesNow_280 : decode cX2_goesNow 280 = .ok (.iconst 0, 1) := by decide +kernel
theorem dX2_goesNow_281 : decode cX2_goesNow 281 = .ok (.ireturn, 1) := by decide +kernel
theorem dX2_goesNow_282 : decode cX2_goesNow 282 = .ok (.iload_n 2, 1) := by decide +kernel
theorem dX2_goesNow_283 : decode cX2_goesNow 283 = .ok (.ireturn, 1) := by decide +kernel
set_option maxRecDepth 20000 in
theorem ggX2_hasEqual_J6_bitCount_0f7a4 : GoodIn wsX2_hasEqual wsJ6_bitCount_0f7a4 := goodIn_r _ [7, 8, 9, 10] (by decide +kernel) (by decide +kernel)
set_option maxRecDepth 20000 in
theorem gX2_hasEqual_J6_bitCount_0f7a4 : GoodIn wsX2_hasEqual (va_wsS RX2 69 yJ6_bitCount_0f7a4 wsJ6_bitCount_0f7a4) := goodIn_app (goodIn_of _ (by decide +kernel)) ggX2_hasEqual_J6_bitCount_0f7a4
theorem dX2_hasEqual_0 : decode cX2_hasEqual 0 = .ok (.aload_n 0, 1) := by decide +kernel
theorem dX2_hasEqual_1 : decode cX2_hasEqual 1 = .ok (.getfield 18, 3) := by decide +kernel
theorem dX2_hasEqual_4 : decode cX2_hasEqual 4 = .ok (.iload_n 1, 1) := by decide +kernel
theorem dX2_hasEqual_5 : decode cX2_hasEqual 5 = .ok (.iaload, 1) := by decide +kernel
theorem dX2_hasEqual_6 : decode cX2_hasEqual 6 = .ok (.invokestatic 69, 3) := by decide +kernel
theorem dX2_hasEqual_9 : decode cX2_hasEqual 9 = .ok (.istore_n 2, 1) := by decide +kernel
theorem dX2_hasEqual_10 : decode cX2_hasEqual 10 = .ok (.iconst 0, 1) := by decide +kernel
theorem dX2_hasEqual_11 : decode cX2_hasEqual 11 = .ok (.istore_n 3, 1) := by decide +kernel
theorem dX2_hasEqual_12 : decode cX2_hasEqual 12 = .ok (.iload_n 3, 1) := by decide +kernel
theorem dX2_hasEqual_13 : decode cX2_hasEqual 13 = .ok (.aload_n 0, 1) := by decide +kernel
theorem dX2_hasEqual_14 : decode cX2_hasEqual 14 = .ok (.getfield 42, 3) := by decide +kernel
theorem dX2_hasEqual_17 : decode cX2_hasEqual 17 = .ok (.if_icmp .ge 29, 3) := by decide +kernel
theorem dX2_hasEqual_20 : decode cX2_hasEqual 20 = .ok (.aload_n 0, 1) := by decide +kernel
theorem dX2_hasEqual_21 : decode cX2_hasEqual 21 = .ok (.getfield 18, 3) := by decide +kernel
theorem dX2_hasEqual_24 : decode cX2_hasEqual 24 = .ok (.aload_n 0, 1) := by decide +kernel
theorem dX2_hasEqual_25 : decode cX2_hasEqual 25 = .ok (.getfield 24, 3) := by decide +kernel
theorem dX2_hasEqual_28 : decode cX2_hasEqual 28 = .ok (.iload_n 3, 1) := by decide +kernel
theorem dX2_hasEqual_29 : decode cX2_hasEqual 29 = .ok (.iaload, 1) := by decide +kernel
theorem dX2_hasEqual_30 : decode cX2_hasEqual 30 = .ok (.iaload, 1) := by decide +kernel
theorem dX2_hasEqual_31 : decode cX2_hasEqual 31 = .ok (.invokestatic 69, 3) := by decide +kernel
theorem dX2_hasEqual_34 : decode cX2_hasEqual 34 = .ok (.iload_n 2, 1) := by decide +kernel
theorem dX2_hasEqual_35 : decode cX2_hasEqual 35 = .ok (.if_icmp .ne 5, 3) := by decide +kernel
theorem dX2_hasEqual_38 : decode cX2_hasEqual 38 = .ok (.iconst 1, 1) := by decide +kernel
theorem dX2_hasEqual_39 : decode cX2_hasEqual 39 = .ok (.ireturn, 1) := by decide +kernel
theorem dX2_hasEqual_40 : decode cX2_hasEqual 40 = .ok (.iinc 3 1, 3) := by decide +kernel
theorem dX2_hasEqual_43 : decode cX2_hasEqual 43 = .ok (.goto (-31), 3) := by decide +kernel
theorem dX2_hasEqual_46 : decode cX2_hasEqual 46 = .ok (.iconst 0, 1) := by decide +kernel
theorem dX2_hasEqual_47 : decode cX2_hasEqual 47 = .ok (.ireturn, 1) := by decide +kernel
set_option maxRecDepth 20000 in
theorem ggX2_hasFewer_J6_bitCount_0f7a4 : GoodIn wsX2_hasFewer wsJ6_bitCount_0f7a4 := goodIn_r _ [5, 6, 7, 8] (by decide +kernel) (by decide +kernel)
set_option maxRecDepth 20000 in
theorem gX2_hasFewer_J6_bitCount_0f7a4 : GoodIn wsX2_hasFewer (va_wsS RX2 69 yJ6_bitCount_0f7a4 wsJ6_bitCount_0f7a4) := goodIn_app (goodIn_of _ (by decide +kernel)) ggX2_hasFewer_J6_bitCount_0f7a4
theorem dX2_hasFewer_0 : decode cX2_hasFewer 0 = .ok (.aload_n 0, 1) := by decide +kernel
theorem dX2_hasFewer_1 : decode cX2_hasFewer 1 = .ok (.getfield 18, 3) := by decide +kernel
theorem dX2_hasFewer_4 : decode cX2_hasFewer 4 = .ok (.iload_n 1, 1) := by decide +kernel
theorem dX2_hasFewer_5 : decode cX2_hasFewer 5 = .ok (.iaload, 1) := by decide +kernel
theorem dX2_hasFewer_6 : decode cX2_hasFewer 6 = .ok (.invokestatic 69, 3) := by decide +kernel
theorem dX2_hasFewer_9 : decode cX2_hasFewer 9 = .ok (.aload_n 0, 1) := by decide +kernel
theorem dX2_hasFewer_10 : decode cX2_hasFewer 10 = .ok (.getfield 18, 3) := by decide +kernel
theorem dX2_hasFewer_13 : decode cX2_hasFewer 13 = .ok (.iload_n 2, 1) := by decide +kernel
theorem dX2_hasFewer_14 : decode cX2_hasFewer 14 = .ok (.iaload, 1) := by decide +kernel
theorem dX2_hasFewer_15 : decode cX2_hasFewer 15 = .ok (.invokestatic 69, 3) := by decide +kernel
theorem dX2_hasFewer_18 : decode cX2_hasFewer 18 = .ok (.if_icmp .ge 7, 3) := by decide +kernel
theorem dX2_hasFewer_21 : decode cX2_hasFewer 21 = .ok (.iconst 1, 1) := by decide +kernel
theorem dX2_hasFewer_22 : decode cX2_hasFewer 22 = .ok (.goto 4, 3) := by decide +kernel
theorem dX2_hasFewer_25 : decode cX2_hasFewer 25 = .ok (.iconst 0, 1) := by decide +kernel
theorem dX2_hasFewer_26 : decode cX2_hasFewer 26 = .ok (.ireturn, 1) := by decide +kernel
set_option maxRecDepth 20000 in
theorem ggX2_goingBits_X2_goesNow : GoodIn wsX2_goingBits wsX2_goesNow := goodIn_r _ [6, 7, 8, 9, 10, 11, 12, 13, 14, 15, 16, 5, 17, 18, 19, 20, 21, 22, 23, 24, 25, 26, 27, 28, 29, 30, 31, 1, 32, 33, 34, 35, 36, 37, 38, 39, 40, 41, 42, 43, 44, 45, 46, 47, 48, 49, 50, 51, 52, 53, 54, 55, 56, 57, 58, 59, 60, 61, 62, 63, 64, 65, 66, 67, 68, 69, 70, 71, 72, 73, 74, 75, 76, 77] (by decide +kernel) (by decide +kernel)
set_option maxRecDepth 20000 in
theorem gX2_goingBits_X2_goesNow : GoodIn wsX2_goingBits (wsV RX2 98 RX2 yX2_goesNow wsX2_goesNow) := goodIn_app (goodIn_of _ (by decide +kernel)) ggX2_goingBits_X2_goesNow
theorem dX2_goingBits_0 : decode cX2_goingBits 0 = .ok (.iconst 0, 1) := by decide +kernel
theorem dX2_goingBits_1 : decode cX2_goingBits 1 = .ok (.istore_n 1, 1) := by decide +kernel
theorem dX2_goingBits_2 : decode cX2_goingBits 2 = .ok (.iconst 0, 1) := by decide +kernel
theorem dX2_goingBits_3 : decode cX2_goingBits 3 = .ok (.istore_n 2, 1) := by decide +kernel
theorem dX2_goingBits_4 : decode cX2_goingBits 4 = .ok (.iload_n 2, 1) := by decide +kernel
theorem dX2_goingBits_5 : decode cX2_goingBits 5 = .ok (.aload_n 0, 1) := by decide +kernel
theorem dX2_goingBits_6 : decode cX2_goingBits 6 = .ok (.getfield 32, 3) := by decide +kernel
theorem dX2_goingBits_9 : decode cX2_goingBits 9 = .ok (.if_icmp .ge 23, 3) := by decide +kernel
theorem dX2_goingBits_12 : decode cX2_goingBits 12 = .ok (.aload_n 0, 1) := by decide +kernel
theorem dX2_goingBits_13 : decode cX2_goingBits 13 = .ok (.iload_n 2, 1) := by decide +kernel
theorem dX2_goingBits_14 : decode cX2_goingBits 14 = .ok (.invokevirtual 98, 3) := by decide +kernel
theorem dX2_goingBits_17 : decode cX2_goingBits 17 = .ok (.ifCond .eq 9, 3) := by decide +kernel
theorem dX2_goingBits_20 : decode cX2_goingBits 20 = .ok (.iload_n 1, 1) := by decide +kernel
theorem dX2_goingBits_21 : decode cX2_goingBits 21 = .ok (.iconst 1, 1) := by decide +kernel
theorem dX2_goingBits_22 : decode cX2_goingBits 22 = .ok (.iload_n 2, 1) := by decide +kernel
theorem dX2_goingBits_23 : decode cX2_goingBits 23 = .ok (.ishl, 1) := by decide +kernel
theorem dX2_goingBits_24 : decode cX2_goingBits 24 = .ok (.ior, 1) := by decide +kernel
theorem dX2_goingBits_25 : decode cX2_goingBits 25 = .ok (.istore_n 1, 1) := by decide +kernel
theorem dX2_goingBits_26 : decode cX2_goingBits 26 = .ok (.iinc 2 1, 3) := by decide +kernel
theorem dX2_goingBits_29 : decode cX2_goingBits 29 = .ok (.goto (-25), 3) := by decide +kernel
theorem dX2_goingBits_32 : decode cX2_goingBits 32 = .ok (.iload_n 1, 1) := by decide +kernel
theorem dX2_goingBits_33 : decode cX2_goingBits 33 = .ok (.ireturn, 1) := by decide +kernel
set_option maxRecDepth 20000 in
theorem ggX2_dayGoes_X2_goesNow : GoodIn wsX2_dayGoes wsX2_goesNow := goodIn_r _ [7, 8, 9, 10, 11, 12, 2, 13, 14, 15, 16, 6, 17, 18, 19, 20, 21, 22, 23, 24, 25, 26, 27, 28, 29, 30, 31, 1, 32, 33, 34, 35, 36, 37, 38, 39, 40, 41, 42, 43, 44, 45, 46, 47, 48, 49, 50, 51, 52, 53, 54, 55, 56, 57, 58, 59, 60, 61, 62, 63, 68, 69, 70, 71, 72, 73, 74, 75, 76, 77, 78, 79, 80, 81] (by decide +kernel) (by decide +kernel)
set_option maxRecDepth 20000 in
theorem gX2_dayGoes_X2_goesNow : GoodIn wsX2_dayGoes (wsV RX2 98 RX2 yX2_goesNow wsX2_goesNow) := goodIn_app (goodIn_of _ (by decide +kernel)) ggX2_dayGoes_X2_goesNow
set_option maxRecDepth 20000 in
theorem ggX2_dayGoes_X2_pickUp : GoodIn wsX2_dayGoes wsX2_pickUp := goodIn_r _ [67, 8, 9, 18, 14, 15, 16, 6, 17, 68, 69, 70, 71, 72, 73, 74, 75, 76, 77, 78] (by decide +kernel) (by decide +kernel)
set_option maxRecDepth 20000 in
theorem gX2_dayGoes_X2_pickUp : GoodIn wsX2_dayGoes (wsV RX2 101 RX2 yX2_pickUp wsX2_pickUp) := goodIn_app (goodIn_of _ (by decide +kernel)) ggX2_dayGoes_X2_pickUp
theorem dX2_dayGoes_0 : decode cX2_dayGoes 0 = .ok (.aload_n 0, 1) := by decide +kernel
theorem dX2_dayGoes_1 : decode cX2_dayGoes 1 = .ok (.getfield 32, 3) := by decide +kernel
theorem dX2_dayGoes_4 : decode cX2_dayGoes 4 = .ok (.ifCond .le 26, 3) := by decide +kernel
theorem dX2_dayGoes_7 : decode cX2_dayGoes 7 = .ok (.aload_n 0, 1) := by decide +kernel
theorem dX2_dayGoes_8 : decode cX2_dayGoes 8 = .ok (.getfield 48, 3) := by decide +kernel
theorem dX2_dayGoes_11 : decode cX2_dayGoes 11 = .ok (.aload_n 0, 1) := by decide +kernel
theorem dX2_dayGoes_12 : decode cX2_dayGoes 12 = .ok (.getfield 32, 3) := by decide +kernel
theorem dX2_dayGoes_15 : decode cX2_dayGoes 15 = .ok (.irem, 1) := by decide +kernel
theorem dX2_dayGoes_16 : decode cX2_dayGoes 16 = .ok (.istore_n 1, 1) := by decide +kernel
theorem dX2_dayGoes_17 : decode cX2_dayGoes 17 = .ok (.aload_n 0, 1) := by decide +kernel
theorem dX2_dayGoes_18 : decode cX2_dayGoes 18 = .ok (.iload_n 1, 1) := by decide +kernel
theorem dX2_dayGoes_19 : decode cX2_dayGoes 19 = .ok (.invokevirtual 98, 3) := by decide +kernel
theorem dX2_dayGoes_22 : decode cX2_dayGoes 22 = .ok (.ifCond .eq 8, 3) := by decide +kernel
theorem dX2_dayGoes_25 : decode cX2_dayGoes 25 = .ok (.aload_n 0, 1) := by decide +kernel
theorem dX2_dayGoes_26 : decode cX2_dayGoes 26 = .ok (.iload_n 1, 1) := by decide +kernel
theorem dX2_dayGoes_27 : decode cX2_dayGoes 27 = .ok (.invokevirtual 101, 3) := by decide +kernel
theorem dX2_dayGoes_30 : decode cX2_dayGoes 30 = .ok (.aload_n 0, 1) := by decide +kernel
theorem dX2_dayGoes_31 : decode cX2_dayGoes 31 = .ok (.dup, 1) := by decide +kernel
theorem dX2_dayGoes_32 : decode cX2_dayGoes 32 = .ok (.getfield 48, 3) := by decide +kernel
theorem dX2_dayGoes_35 : decode cX2_dayGoes 35 = .ok (.iconst 1, 1) := by decide +kernel
theorem dX2_dayGoes_36 : decode cX2_dayGoes 36 = .ok (.iadd, 1) := by decide +kernel
theorem dX2_dayGoes_37 : decode cX2_dayGoes 37 = .ok (.putfield 48, 3) := by decide +kernel
theorem dX2_dayGoes_40 : decode cX2_dayGoes 40 = .ok (.return_, 1) := by decide +kernel
set_option maxRecDepth 20000 in
theorem ggX2_daysGo_X2_dayGoes : GoodIn wsX2_daysGo wsX2_dayGoes := goodIn_r _ [5, 6, 7, 8, 9, 10, 4, 11, 12, 13, 14, 15, 16, 17, 18, 19, 20, 21, 22, 23, 24, 25, 26, 27, 28, 29, 30, 31, 32, 33, 34, 35, 36, 37, 38, 39, 40, 41, 42, 43, 44, 45, 46, 47, 48, 49, 50, 51, 52, 53, 54, 55, 56, 57, 58, 59, 60, 61, 62, 63, 64, 65, 66, 67, 68, 69, 70, 71, 72, 73, 74, 75, 76, 77, 78, 79, 80, 81, 82, 83, 84, 85] (by decide +kernel) (by decide +kernel)
set_option maxRecDepth 20000 in
theorem gX2_daysGo_X2_dayGoes : GoodIn wsX2_daysGo (wsV RX2 105 RX2 yX2_dayGoes wsX2_dayGoes) := goodIn_app (goodIn_of _ (by decide +kernel)) ggX2_daysGo_X2_dayGoes
theorem dX2_daysGo_0 : decode cX2_daysGo 0 = .ok (.iconst 0, 1) := by decide +kernel
theorem dX2_daysGo_1 : decode cX2_daysGo 1 = .ok (.istore_n 2, 1) := by decide +kernel
theorem dX2_daysGo_2 : decode cX2_daysGo 2 = .ok (.iload_n 2, 1) := by decide +kernel
theorem dX2_daysGo_3 : decode cX2_daysGo 3 = .ok (.iload_n 1, 1) := by decide +kernel
theorem dX2_daysGo_4 : decode cX2_daysGo 4 = .ok (.if_icmp .ge 13, 3) := by decide +kernel
theorem dX2_daysGo_7 : decode cX2_daysGo 7 = .ok (.aload_n 0, 1) := by decide +kernel
theorem dX2_daysGo_8 : decode cX2_daysGo 8 = .ok (.invokevirtual 105, 3) := by decide +kernel
theorem dX2_daysGo_11 : decode cX2_daysGo 11 = .ok (.iinc 2 1, 3) := by decide +kernel
theorem dX2_daysGo_14 : decode cX2_daysGo 14 = .ok (.goto (-12), 3) := by decide +kernel
theorem dX2_daysGo_17 : decode cX2_daysGo 17 = .ok (.return_, 1) := by decide +kernel
theorem dX3_init_0 : decode cX3_init 0 = .ok (.aload_n 0, 1) := by decide +kernel
theorem dX3_init_1 : decode cX3_init 1 = .ok (.invokespecial 3, 3) := by decide +kernel
theorem dX3_init_4 : decode cX3_init 4 = .ok (.aload_n 0, 1) := by decide +kernel
theorem dX3_init_5 : decode cX3_init 5 = .ok (.bipush 6, 2) := by decide +kernel
theorem dX3_init_7 : decode cX3_init 7 = .ok (.newarray .int, 2) := by decide +kernel
theorem dX3_init_9 : decode cX3_init 9 = .ok (.putfield 9, 3) := by decide +kernel
theorem dX3_init_12 : decode cX3_init 12 = .ok (.aload_n 0, 1) := by decide +kernel
theorem dX3_init_13 : decode cX3_init 13 = .ok (.bipush 6, 2) := by decide +kernel
theorem dX3_init_15 : decode cX3_init 15 = .ok (.newarray .int, 2) := by decide +kernel
theorem dX3_init_17 : decode cX3_init 17 = .ok (.putfield 15, 3) := by decide +kernel
theorem dX3_init_20 : decode cX3_init 20 = .ok (.return_, 1) := by decide +kernel
set_option maxRecDepth 20000 in
theorem ggX3_longestRow_X2_holdNow : GoodIn wsX3_longestRow wsX2_holdNow := goodIn_r _ [9, 10, 93, 94, 95, 96, 97, 98, 99, 100, 101, 102, 103, 104, 105, 106] (by decide +kernel) (by decide +kernel)
set_option maxRecDepth 20000 in
theorem gX3_longestRow_X2_holdNow_n27 : GoodIn wsX3_longestRow (wsX2_holdNow) := ggX3_longestRow_X2_holdNow
set_option maxRecDepth 20000 in
theorem ggX3_longestRow_X3_extendRow : GoodIn wsX3_longestRow wsX3_extendRow := goodIn_r _ [15, 1, 16, 17, 7, 18, 19, 20, 21, 22, 23, 24, 25, 26, 27, 28, 29, 30, 31, 32, 6, 8, 9, 10, 33, 34, 35, 36, 37, 38, 39, 40, 41, 42, 43, 44, 45, 46, 47, 48, 49, 50, 51, 52, 53, 54, 55, 56, 57, 58, 59, 60, 61, 62, 63, 64, 65, 66, 67, 68, 69, 70, 71, 72, 73, 74, 75, 76, 14, 77, 78, 79, 80, 81, 82, 83, 84, 85, 11, 12, 13, 86, 87, 88, 93, 94, 95, 96, 97, 98, 99, 100, 101, 102, 103, 89, 90, 91, 92, 104, 105, 106] (by decide +kernel) (by decide +kernel)
set_option maxRecDepth 20000 in
theorem gX3_longestRow_X3_extendRow : GoodIn wsX3_longestRow (wsV RX3 40 RX3 yX3_extendRow wsX3_extendRow) := goodIn_app (goodIn_of _ (by decide +kernel)) ggX3_longestRow_X3_extendRow
theorem dX3_longestRow_0 : decode cX3_longestRow 0 = .ok (.aload_n 0, 1) := by decide +kernel
theorem dX3_longestRow_1 : decode cX3_longestRow 1 = .ok (.iconst 0, 1) := by decide +kernel
theorem dX3_longestRow_2 : decode cX3_longestRow 2 = .ok (.putfield 18, 3) := by decide +kernel
theorem dX3_longestRow_5 : decode cX3_longestRow 5 = .ok (.aload_n 1, 1) := by decide +kernel
theorem dX3_longestRow_6 : decode cX3_longestRow 6 = .ok (.getfield 22, 3) := by decide +kernel
theorem dX3_longestRow_9 : decode cX3_longestRow 9 = .ok (.aload_n 1, 1) := by decide +kernel
theorem dX3_longestRow_10 : decode cX3_longestRow 10 = .ok (.invokevirtual 27, 3) := by decide +kernel
theorem dX3_longestRow_13 : decode cX3_longestRow 13 = .ok (.invokestatic 31, 3) := by decide +kernel
theorem dX3_longestRow_16 : decode cX3_longestRow 16 = .ok (.aload_n 1, 1) := by decide +kernel
theorem dX3_longestRow_17 : decode cX3_longestRow 17 = .ok (.getfield 37, 3) := by decide +kernel
theorem dX3_longestRow_20 : decode cX3_longestRow 20 = .ok (.isub, 1) := by decide +kernel
theorem dX3_longestRow_21 : decode cX3_longestRow 21 = .ok (.istore_n 2, 1) := by decide +kernel
theorem dX3_longestRow_22 : decode cX3_longestRow 22 = .ok (.aload_n 0, 1) := by decide +kernel
theorem dX3_longestRow_23 : decode cX3_longestRow 23 = .ok (.aload_n 1, 1) := by decide +kernel
theorem dX3_longestRow_24 : decode cX3_longestRow 24 = .ok (.iconst 0, 1) := by decide +kernel
theorem dX3_longestRow_25 : decode cX3_longestRow 25 = .ok (.iload_n 2, 1) := by decide +kernel
theorem dX3_longestRow_26 : decode cX3_longestRow 26 = .ok (.invokevirtual 40, 3) := by decide +kernel
theorem dX3_longestRow_29 : decode cX3_longestRow 29 = .ok (.aload_n 0, 1) := by decide +kernel
theorem dX3_longestRow_30 : decode cX3_longestRow 30 = .ok (.getfield 18, 3) := by decide +kernel
theorem dX3_longestRow_33 : decode cX3_longestRow 33 = .ok (.ireturn, 1) := by decide +kernel
set_option maxRecDepth 20000 in
theorem ggX3_extendRow_X2_goesNow : GoodIn wsX3_extendRow wsX2_goesNow := goodIn_r _ [6, 7, 8, 9, 10, 11, 12, 13, 14, 15, 16, 4, 17, 18, 19, 20, 21, 22, 23, 24, 25, 26, 27, 28, 29, 30, 31, 32, 33, 34, 35, 36, 37, 38, 39, 40, 41, 42, 43, 44, 45, 46, 47, 48, 49, 50, 51, 52, 53, 54, 55, 56, 57, 58, 59, 60, 61, 62, 63, 64, 84, 85, 86, 87, 88, 89, 90, 91, 92, 93, 94, 99, 100, 101] (by decide +kernel) (by decide +kernel)
set_option maxRecDepth 20000 in
theorem gX3_extendRow_X2_goesNow_n44 : GoodIn wsX3_extendRow (wsX2_goesNow) := ggX3_extendRow_X2_goesNow
set_option maxRecDepth 20000 in
theorem ggX3_extendRow_X3_keepIfLonger : GoodIn wsX3_extendRow wsX3_keepIfLonger := goodIn_r _ [69, 1, 2, 70, 71, 72, 73, 74, 95, 96, 97, 98] (by decide +kernel) (by decide +kernel)
set_option maxRecDepth 20000 in
theorem gX3_extendRow_X3_keepIfLonger : GoodIn wsX3_extendRow (wsV RX3 48 RX3 yX3_keepIfLonger wsX3_keepIfLonger) := goodIn_app (goodIn_of _ (by decide +kernel)) ggX3_extendRow_X3_keepIfLonger
set_option maxRecDepth 20000 in
theorem ggX3_extendRow_X2_pickUp : GoodIn wsX3_extendRow wsX2_pickUp := goodIn_r _ [77, 7, 8, 18, 14, 15, 16, 4, 17, 84, 85, 86, 87, 88, 89, 90, 91, 92, 93, 94] (by decide +kernel) (by decide +kernel)
set_option maxRecDepth 20000 in
theorem gX3_extendRow_X2_pickUp_n52 : GoodIn wsX3_extendRow (wsX2_pickUp) := ggX3_extendRow_X2_pickUp
set_option maxRecDepth 20000 in
theorem ggX3_extendRow_X3_extendRow : GoodIn wsX3_extendRow wsX3_extendRow := goodIn_r _ [0, 1, 2, 3, 4, 5, 6, 7, 8, 9, 10, 11, 12, 13, 14, 15, 16, 17, 18, 19, 20, 21, 22, 23, 24, 25, 26, 27, 28, 29, 30, 31, 32, 33, 34, 35, 36, 37, 38, 39, 40, 41, 42, 43, 44, 45, 46, 47, 48, 49, 50, 51, 52, 53, 54, 55, 56, 57, 58, 59, 60, 61, 62, 63, 64, 65, 66, 67, 68, 69, 70, 71, 72, 73, 74, 75, 76, 77, 78, 79, 80, 81, 82, 83, 84, 85, 86, 87, 88, 89, 90, 91, 92, 93, 94, 95, 96, 97, 98, 99, 100, 101] (by decide +kernel) (by decide +kernel)
set_option maxRecDepth 20000 in
theorem gX3_extendRow_X3_extendRow : GoodIn wsX3_extendRow (wsV RX3 40 RX3 yX3_extendRow wsX3_extendRow) := goodIn_app (goodIn_of _ (by decide +kernel)) ggX3_extendRow_X3_extendRow
set_option maxRecDepth 20000 in
theorem ggX3_extendRow_X2_layDownNewest : GoodIn wsX3_extendRow wsX2_layDownNewest := goodIn_r _ [83, 7, 8, 18, 84, 85, 86, 87, 88, 89, 90, 91, 92, 93, 94] (by decide +kernel) (by decide +kernel)
set_option maxRecDepth 20000 in
theorem gX3_extendRow_X2_layDownNewest_n55 : GoodIn wsX3_extendRow (wsX2_layDownNewest) := ggX3_extendRow_X2_layDownNewest
theorem dX3_extendRow_0 : decode cX3_extendRow 0 = .ok (.iload_n 2, 1) := by decide +kernel
theorem dX3_extendRow_1 : decode cX3_extendRow 1 = .ok (.bipush 6, 2) := by decide +kernel
theorem dX3_extendRow_3 : decode cX3_extendRow 3 = .ok (.if_icmp .lt 4, 3) := by decide +kernel
theorem dX3_extendRow_6 : decode cX3_extendRow 6 = .ok (.return_, 1) := by decide +kernel
theorem dX3_extendRow_7 : decode cX3_extendRow 7 = .ok (.iconst 0, 1) := by decide +kernel
theorem dX3_extendRow_8 : decode cX3_extendRow 8 = .ok (.istore 4, 2) := by decide +kernel
theorem dX3_extendRow_10 : decode cX3_extendRow 10 = .ok (.iload 4, 2) := by decide +kernel
theorem dX3_extendRow_12 : decode cX3_extendRow 12 = .ok (.aload_n 1, 1) := by decide +kernel
theorem dX3_extendRow_13 : decode cX3_extendRow 13 = .ok (.getfield 22, 3) := by decide +kernel
theorem dX3_extendRow_16 : decode cX3_extendRow 16 = .ok (.if_icmp .ge 61, 3) := by decide +kernel
theorem dX3_extendRow_19 : decode cX3_extendRow 19 = .ok (.aload_n 0, 1) := by decide +kernel
theorem dX3_extendRow_20 : decode cX3_extendRow 20 = .ok (.getfield 18, 3) := by decide +kernel
theorem dX3_extendRow_23 : decode cX3_extendRow 23 = .ok (.iload_n 3, 1) := by decide +kernel
theorem dX3_extendRow_24 : decode cX3_extendRow 24 = .ok (.if_icmp .ge 53, 3) := by decide +kernel
theorem dX3_extendRow_27 : decode cX3_extendRow 27 = .ok (.aload_n 1, 1) := by decide +kernel
theorem dX3_extendRow_28 : decode cX3_extendRow 28 = .ok (.iload 4, 2) := by decide +kernel
theorem dX3_extendRow_30 : decode cX3_extendRow 30 = .ok (.invokevirtual 44, 3) := by decide +kernel
theorem dX3_extendRow_33 : decode cX3_extendRow 33 = .ok (.ifCond .eq 38, 3) := by decide +kernel
theorem dX3_extendRow_36 : decode cX3_extendRow 36 = .ok (.aload_n 0, 1) := by decide +kernel
theorem dX3_extendRow_37 : decode cX3_extendRow 37 = .ok (.getfield 9, 3) := by decide +kernel
theorem dX3_extendRow_40 : decode cX3_extendRow 40 = .ok (.iload_n 2, 1) := by decide +kernel
theorem dX3_extendRow_41 : decode cX3_extendRow 41 = .ok (.iload 4, 2) := by decide +kernel
theorem dX3_extendRow_43 : decode cX3_extendRow 43 = .ok (.iastore, 1) := by decide +kernel
theorem dX3_extendRow_44 : decode cX3_extendRow 44 = .ok (.aload_n 0, 1) := by decide +kernel
theorem dX3_extendRow_45 : decode cX3_extendRow 45 = .ok (.iload_n 2, 1) := by decide +kernel
theorem dX3_extendRow_46 : decode cX3_extendRow 46 = .ok (.iconst 1, 1) := by decide +kernel
theorem dX3_extendRow_47 : decode cX3_extendRow 47 = .ok (.iadd, 1) := by decide +kernel
theorem dX3_extendRow_48 : decode cX3_extendRow 48 = .ok (.invokevirtual 48, 3) := by decide +kernel
theorem dX3_extendRow_51 : decode cX3_extendRow 51 = .ok (.aload_n 1, 1) := by decide +kernel
theorem dX3_extendRow_52 : decode cX3_extendRow 52 = .ok (.iload 4, 2) := by decide +kernel
theorem dX3_extendRow_54 : decode cX3_extendRow 54 = .ok (.invokevirtual 52, 3) := by decide +kernel
theorem dX3_extendRow_57 : decode cX3_extendRow 57 = .ok (.aload_n 0, 1) := by decide +kernel
theorem dX3_extendRow_58 : decode cX3_extendRow 58 = .ok (.aload_n 1, 1) := by decide +kernel
theorem dX3_extendRow_59 : decode cX3_extendRow 59 = .ok (.iload_n 2, 1) := by decide +kernel
theorem dX3_extendRow_60 : decode cX3_extendRow 60 = .ok (.iconst 1, 1) := by decide +kernel
theorem dX3_extendRow_61 : decode cX3_extendRow 61 = .ok (.iadd, 1) := by decide +kernel
theorem dX3_extendRow_62 : decode cX3_extendRow 62 = .ok (.iload_n 3, 1) := by decide +kernel
theorem dX3_extendRow_63 : decode cX3_extendRow 63 = .ok (.invokevirtual 40, 3) := by decide +kernel
theorem dX3_extendRow_66 : decode cX3_extendRow 66 = .ok (.aload_n 1, 1) := by decide +kernel
theorem dX3_extendRow_67 : decode cX3_extendRow 67 = .ok (.invokevirtual 55, 3) := by decide +kernel
theorem dX3_extendRow_70 : decode cX3_extendRow 70 = .ok (.pop, 1) := by decide +kernel
theorem dX3_extendRow_71 : decode cX3_extendRow 71 = .ok (.iinc 4 1, 3) := by decide +kernel
theorem dX3_extendRow_74 : decode cX3_extendRow 74 = .ok (.goto (-64), 3) := by decide +kernel
theorem dX3_extendRow_77 : decode cX3_extendRow 77 = .ok (.return_, 1) := by decide +kernel
theorem dX3_keepIfLonger_0 : decode cX3_keepIfLonger 0 = .ok (.iload_n 1, 1) := by decide +kernel
theorem dX3_keepIfLonger_1 : decode cX3_keepIfLonger 1 = .ok (.aload_n 0, 1) := by decide +kernel
theorem dX3_keepIfLonger_2 : decode cX3_keepIfLonger 2 = .ok (.getfield 18, 3) := by decide +kernel
theorem dX3_keepIfLonger_5 : decode cX3_keepIfLonger 5 = .ok (.if_icmp .le 28, 3) := by decide +kernel
theorem dX3_keepIfLonger_8 : decode cX3_keepIfLonger 8 = .ok (.iload_n 1, 1) := by decide +kernel
theorem dX3_keepIfLonger_9 : decode cX3_keepIfLonger 9 = .ok (.bipush 6, 2) := by decide +kernel
theorem dX3_keepIfLonger_11 : decode cX3_keepIfLonger 11 = .ok (.if_icmp .gt 22, 3) := by decide +kernel
theorem dX3_keepIfLonger_14 : decode cX3_keepIfLonger 14 = .ok (.aload_n 0, 1) := by decide +kernel
theorem dX3_keepIfLonger_15 : decode cX3_keepIfLonger 15 = .ok (.getfield 9, 3) := by decide +kernel
theorem dX3_keepIfLonger_18 : decode cX3_keepIfLonger 18 = .ok (.iconst 0, 1) := by decide +kernel
theorem dX3_keepIfLonger_19 : decode cX3_keepIfLonger 19 = .ok (.aload_n 0, 1) := by decide +kernel
theorem dX3_keepIfLonger_20 : decode cX3_keepIfLonger 20 = .ok (.getfield 15, 3) := by decide +kernel
theorem dX3_keepIfLonger_23 : decode cX3_keepIfLonger 23 = .ok (.iconst 0, 1) := by decide +kernel
theorem dX3_keepIfLonger_24 : decode cX3_keepIfLonger 24 = .ok (.iload_n 1, 1) := by decide +kernel
theorem dX3_keepIfLonger_25 : decode cX3_keepIfLonger 25 = .ok (.invokestatic 58, 3) := by decide +kernel
theorem dX3_keepIfLonger_28 : decode cX3_keepIfLonger 28 = .ok (.aload_n 0, 1) := by decide +kernel
theorem dX3_keepIfLonger_29 : decode cX3_keepIfLonger 29 = .ok (.iload_n 1, 1) := by decide +kernel
theorem dX3_keepIfLonger_30 : decode cX3_keepIfLonger 30 = .ok (.putfield 18, 3) := by decide +kernel
theorem dX3_keepIfLonger_33 : decode cX3_keepIfLonger 33 = .ok (.return_, 1) := by decide +kernel
set_option maxRecDepth 20000 in
theorem ggX3_fewestAhead_X3_seekTarget : GoodIn wsX3_fewestAhead wsX3_seekTarget := goodIn_r _ [6, 1, 7, 8, 9, 10, 11, 12, 13, 14, 15, 16, 17, 18, 19, 20, 21, 22, 23, 24, 25, 26, 27, 28, 29, 30, 31, 32, 33, 34, 35, 36, 37, 38, 39, 40, 41, 42, 43, 44, 45, 46, 47, 48, 49, 50, 51, 52, 53, 54, 55, 56, 57, 58, 59, 60, 61, 62, 63, 64, 65, 66, 67, 68, 69, 70, 71, 2, 3, 4, 5, 72, 73, 74, 75, 76, 77, 78, 79, 80, 81, 82, 83, 84, 85, 86, 87, 88, 89, 90, 91, 92] (by decide +kernel) (by decide +kernel)
set_option maxRecDepth 20000 in
theorem gX3_fewestAhead_X3_seekTarget : GoodIn wsX3_fewestAhead (wsV RX3 67 RX3 yX3_seekTarget wsX3_seekTarget) := goodIn_app (goodIn_of _ (by decide +kernel)) ggX3_fewestAhead_X3_seekTarget
theorem dX3_fewestAhead_0 : decode cX3_fewestAhead 0 = .ok (.aload_n 0, 1) := by decide +kernel
theorem dX3_fewestAhead_1 : decode cX3_fewestAhead 1 = .ok (.bipush 6, 2) := by decide +kernel
theorem dX3_fewestAhead_3 : decode cX3_fewestAhead 3 = .ok (.putfield 64, 3) := by decide +kernel
theorem dX3_fewestAhead_6 : decode cX3_fewestAhead 6 = .ok (.aload_n 0, 1) := by decide +kernel
theorem dX3_fewestAhead_7 : decode cX3_fewestAhead 7 = .ok (.aload_n 1, 1) := by decide +kernel
theorem dX3_fewestAhead_8 : decode cX3_fewestAhead 8 = .ok (.iload_n 2, 1) := by decide +kernel
theorem dX3_fewestAhead_9 : decode cX3_fewestAhead 9 = .ok (.iconst 0, 1) := by decide +kernel
theorem dX3_fewestAhead_10 : decode cX3_fewestAhead 10 = .ok (.invokevirtual 67, 3) := by decide +kernel
theorem dX3_fewestAhead_13 : decode cX3_fewestAhead 13 = .ok (.aload_n 0, 1) := by decide +kernel
theorem dX3_fewestAhead_14 : decode cX3_fewestAhead 14 = .ok (.getfield 64, 3) := by decide +kernel
theorem dX3_fewestAhead_17 : decode cX3_fewestAhead 17 = .ok (.bipush 6, 2) := by decide +kernel
theorem dX3_fewestAhead_19 : decode cX3_fewestAhead 19 = .ok (.if_icmp .ge 10, 3) := by decide +kernel
theorem dX3_fewestAhead_22 : decode cX3_fewestAhead 22 = .ok (.aload_n 0, 1) := by decide +kernel
theorem dX3_fewestAhead_23 : decode cX3_fewestAhead 23 = .ok (.getfield 64, 3) := by decide +kernel
theorem dX3_fewestAhead_26 : decode cX3_fewestAhead 26 = .ok (.goto 5, 3) := by decide +kernel
theorem dX3_fewestAhead_29 : decode cX3_fewestAhead 29 = .ok (.bipush (-5), 2) := by decide +kernel
theorem dX3_fewestAhead_31 : decode cX3_fewestAhead 31 = .ok (.ireturn, 1) := by decide +kernel
set_option maxRecDepth 20000 in
theorem ggX3_seekTarget_X2_goesNow : GoodIn wsX3_seekTarget wsX2_goesNow := goodIn_r _ [5, 6, 7, 8, 9, 10, 11, 12, 13, 14, 15, 3, 16, 17, 18, 19, 20, 21, 22, 23, 24, 25, 26, 27, 28, 29, 30, 31, 32, 33, 34, 35, 36, 37, 38, 39, 40, 41, 42, 43, 44, 45, 46, 47, 48, 49, 50, 51, 52, 53, 54, 55, 56, 57, 58, 59, 60, 61, 62, 63, 78, 79, 80, 81, 82, 83, 84, 85, 86, 87, 88, 89, 90, 91] (by decide +kernel) (by decide +kernel)
set_option maxRecDepth 20000 in
theorem gX3_seekTarget_X2_goesNow_n44 : GoodIn wsX3_seekTarget (wsX2_goesNow) := ggX3_seekTarget_X2_goesNow
set_option maxRecDepth 20000 in
theorem ggX3_seekTarget_X2_pickUp : GoodIn wsX3_seekTarget wsX2_pickUp := goodIn_r _ [66, 6, 7, 17, 13, 14, 15, 3, 16, 78, 79, 80, 81, 82, 83, 84, 85, 86, 87, 88] (by decide +kernel) (by decide +kernel)
set_option maxRecDepth 20000 in
theorem gX3_seekTarget_X2_pickUp_n52 : GoodIn wsX3_seekTarget (wsX2_pickUp) := ggX3_seekTarget_X2_pickUp
set_option maxRecDepth 20000 in
theorem ggX3_seekTarget_X3_seekTarget : GoodIn wsX3_seekTarget wsX3_seekTarget := goodIn_r _ [0, 1, 2, 3, 4, 5, 6, 7, 8, 9, 10, 11, 12, 13, 14, 15, 16, 17, 18, 19, 20, 21, 22, 23, 24, 25, 26, 27, 28, 29, 30, 31, 32, 33, 34, 35, 36, 37, 38, 39, 40, 41, 42, 43, 44, 45, 46, 47, 48, 49, 50, 51, 52, 53, 54, 55, 56, 57, 58, 59, 60, 61, 62, 63, 64, 65, 66, 67, 68, 69, 70, 71, 72, 73, 74, 75, 76, 77, 78, 79, 80, 81, 82, 83, 84, 85, 86, 87, 88, 89, 90, 91] (by decide +kernel) (by decide +kernel)
set_option maxRecDepth 20000 in
theorem gX3_seekTarget_X3_seekTarget : GoodIn wsX3_seekTarget (wsV RX3 67 RX3 yX3_seekTarget wsX3_seekTarget) := goodIn_app (goodIn_of _ (by decide +kernel)) ggX3_seekTarget_X3_seekTarget
set_option maxRecDepth 20000 in
theorem ggX3_seekTarget_X2_layDownNewest : GoodIn wsX3_seekTarget wsX2_layDownNewest := goodIn_r _ [73, 6, 7, 17, 78, 79, 80, 81, 82, 83, 84, 85, 86, 87, 88] (by decide +kernel) (by decide +kernel)
set_option maxRecDepth 20000 in
theorem gX3_seekTarget_X2_layDownNewest_n55 : GoodIn wsX3_seekTarget (wsX2_layDownNewest) := ggX3_seekTarget_X2_layDownNewest
theorem dX3_seekTarget_0 : decode cX3_seekTarget 0 = .ok (.iload_n 3, 1) := by decide +kernel
theorem dX3_seekTarget_1 : decode cX3_seekTarget 1 = .ok (.aload_n 0, 1) := by decide +kernel
theorem dX3_seekTarget_2 : decode cX3_seekTarget 2 = .ok (.getfield 64, 3) := by decide +kernel
theorem dX3_seekTarget_5 : decode cX3_seekTarget 5 = .ok (.if_icmp .lt 4, 3) := by decide +kernel
theorem dX3_seekTarget_8 : decode cX3_seekTarget 8 = .ok (.return_, 1) := by decide +kernel
theorem dX3_seekTarget_9 : decode cX3_seekTarget 9 = .ok (.aload_n 1, 1) := by decide +kernel
theorem dX3_seekTarget_10 : decode cX3_seekTarget 10 = .ok (.iload_n 2, 1) := by decide +kernel
theorem dX3_seekTarget_11 : decode cX3_seekTarget 11 = .ok (.invokevirtual 44, 3) := by decide +kernel
theorem dX3_seekTarget_14 : decode cX3_seekTarget 14 = .ok (.ifCond .eq 9, 3) := by decide +kernel
theorem dX3_seekTarget_17 : decode cX3_seekTarget 17 = .ok (.aload_n 0, 1) := by decide +kernel
theorem dX3_seekTarget_18 : decode cX3_seekTarget 18 = .ok (.iload_n 3, 1) := by decide +kernel
theorem dX3_seekTarget_19 : decode cX3_seekTarget 19 = .ok (.putfield 64, 3) := by decide +kernel
theorem dX3_seekTarget_22 : decode cX3_seekTarget 22 = .ok (.return_, 1) := by decide +kernel
theorem dX3_seekTarget_23 : decode cX3_seekTarget 23 = .ok (.iconst 0, 1) := by decide +kernel
theorem dX3_seekTarget_24 : decode cX3_seekTarget 24 = .ok (.istore 4, 2) := by decide +kernel
theorem dX3_seekTarget_26 : decode cX3_seekTarget 26 = .ok (.iload 4, 2) := by decide +kernel
theorem dX3_seekTarget_28 : decode cX3_seekTarget 28 = .ok (.aload_n 1, 1) := by decide +kernel
theorem dX3_seekTarget_29 : decode cX3_seekTarget 29 = .ok (.getfield 22, 3) := by decide +kernel
theorem dX3_seekTarget_32 : decode cX3_seekTarget 32 = .ok (.if_icmp .ge 44, 3) := by decide +kernel
theorem dX3_seekTarget_35 : decode cX3_seekTarget 35 = .ok (.iload 4, 2) := by decide +kernel
theorem dX3_seekTarget_37 : decode cX3_seekTarget 37 = .ok (.iload_n 2, 1) := by decide +kernel
theorem dX3_seekTarget_38 : decode cX3_seekTarget 38 = .ok (.if_icmp .eq 32, 3) := by decide +kernel
theorem dX3_seekTarget_41 : decode cX3_seekTarget 41 = .ok (.aload_n 1, 1) := by decide +kernel
theorem dX3_seekTarget_42 : decode cX3_seekTarget 42 = .ok (.iload 4, 2) := by decide +kernel
theorem dX3_seekTarget_44 : decode cX3_seekTarget 44 = .ok (.invokevirtual 44, 3) := by decide +kernel
theorem dX3_seekTarget_47 : decode cX3_seekTarget 47 = .ok (.ifCond .eq 23, 3) := by decide +kernel
theorem dX3_seekTarget_50 : decode cX3_seekTarget 50 = .ok (.aload_n 1, 1) := by decide +kernel
theorem dX3_seekTarget_51 : decode cX3_seekTarget 51 = .ok (.iload 4, 2) := by decide +kernel
theorem dX3_seekTarget_53 : decode cX3_seekTarget 53 = .ok (.invokevirtual 52, 3) := by decide +kernel
theorem dX3_seekTarget_56 : decode cX3_seekTarget 56 = .ok (.aload_n 0, 1) := by decide +kernel
theorem dX3_seekTarget_57 : decode cX3_seekTarget 57 = .ok (.aload_n 1, 1) := by decide +kernel
theorem dX3_seekTarget_58 : decode cX3_seekTarget 58 = .ok (.iload_n 2, 1) := by decide +kernel
theorem dX3_seekTarget_59 : decode cX3_seekTarget 59 = .ok (.iload_n 3, 1) := by decide +kernel
theorem dX3_seekTarget_60 : decode cX3_seekTarget 60 = .ok (.iconst 1, 1) := by decide +kernel
theorem dX3_seekTarget_61 : decode cX3_seekTarget 61 = .ok (.iadd, 1) := by decide +kernel
theorem dX3_seekTarget_62 : decode cX3_seekTarget 62 = .ok (.invokevirtual 67, 3) := by decide +kernel
theorem dX3_seekTarget_65 : decode cX3_seekTarget 65 = .ok (.aload_n 1, 1) := by decide +kernel
theorem dX3_seekTarget_66 : decode cX3_seekTarget 66 = .ok (.invokevirtual 55, 3) := by decide +kernel
theorem dX3_seekTarget_69 : decode cX3_seekTarget 69 = .ok (.pop, 1) := by decide +kernel
theorem dX3_seekTarget_70 : decode cX3_seekTarget 70 = .ok (.iinc 4 1, 3) := by decide +kernel
theorem dX3_seekTarget_73 : decode cX3_seekTarget 73 = .ok (.goto (-47), 3) := by decide +kernel
theorem dX3_seekTarget_76 : decode cX3_seekTarget 76 = .ok (.return_, 1) := by decide +kernel
theorem dX4_init_0 : decode cX4_init 0 = .ok (.aload_n 0, 1) := by decide +kernel
theorem dX4_init_1 : decode cX4_init 1 = .ok (.invokespecial 1, 3) := by decide +kernel
theorem dX4_init_4 : decode cX4_init 4 = .ok (.iconst 0, 1) := by decide +kernel
theorem dX4_init_5 : decode cX4_init 5 = .ok (.iload_n 2, 1) := by decide +kernel
theorem dX4_init_6 : decode cX4_init 6 = .ok (.aload_n 1, 1) := by decide +kernel
theorem dX4_init_7 : decode cX4_init 7 = .ok (.arraylength, 1) := by decide +kernel
theorem dX4_init_8 : decode cX4_init 8 = .ok (.invokestatic 7, 3) := by decide +kernel
theorem dX4_init_11 : decode cX4_init 11 = .ok (.invokestatic 13, 3) := by decide +kernel
theorem dX4_init_14 : decode cX4_init 14 = .ok (.istore 5, 2) := by decide +kernel
theorem dX4_init_16 : decode cX4_init 16 = .ok (.aload_n 0, 1) := by decide +kernel
theorem dX4_init_17 : decode cX4_init 17 = .ok (.iload 5, 2) := by decide +kernel
theorem dX4_init_19 : decode cX4_init 19 = .ok (.newarray .int, 2) := by decide +kernel
theorem dX4_init_21 : decode cX4_init 21 = .ok (.putfield 16, 3) := by decide +kernel
theorem dX4_init_24 : decode cX4_init 24 = .ok (.aload_n 1, 1) := by decide +kernel
theorem dX4_init_25 : decode cX4_init 25 = .ok (.iconst 0, 1) := by decide +kernel
theorem dX4_init_26 : decode cX4_init 26 = .ok (.aload_n 0, 1) := by decide +kernel
theorem dX4_init_27 : decode cX4_init 27 = .ok (.getfield 16, 3) := by decide +kernel
theorem dX4_init_30 : decode cX4_init 30 = .ok (.iconst 0, 1) := by decide +kernel
theorem dX4_init_31 : decode cX4_init 31 = .ok (.iload 5, 2) := by decide +kernel
theorem dX4_init_33 : decode cX4_init 33 = .ok (.invokestatic 22, 3) := by decide +kernel
theorem dX4_init_36 : decode cX4_init 36 = .ok (.aload_n 0, 1) := by decide +kernel
theorem dX4_init_37 : decode cX4_init 37 = .ok (.iload_n 3, 1) := by decide +kernel
theorem dX4_init_38 : decode cX4_init 38 = .ok (.putfield 28, 3) := by decide +kernel
theorem dX4_init_41 : decode cX4_init 41 = .ok (.aload_n 0, 1) := by decide +kernel
theorem dX4_init_42 : decode cX4_init 42 = .ok (.iload 4, 2) := by decide +kernel
theorem dX4_init_44 : decode cX4_init 44 = .ok (.putfield 32, 3) := by decide +kernel
theorem dX4_init_47 : decode cX4_init 47 = .ok (.return_, 1) := by decide +kernel
set_option maxRecDepth 20000 in
theorem ggX4_sumFor_X4_isSo : GoodIn wsX4_sumFor wsX4_isSo := goodIn_r _ [5] (by decide +kernel) (by decide +kernel)
set_option maxRecDepth 20000 in
theorem gX4_sumFor_X4_isSo : GoodIn wsX4_sumFor (va_wsS RX4 35 yX4_isSo wsX4_isSo) := goodIn_app (goodIn_of _ (by decide +kernel)) ggX4_sumFor_X4_isSo
theorem dX4_sumFor_0 : decode cX4_sumFor 0 = .ok (.iconst 0, 1) := by decide +kernel
theorem dX4_sumFor_1 : decode cX4_sumFor 1 = .ok (.istore_n 2, 1) := by decide +kernel
theorem dX4_sumFor_2 : decode cX4_sumFor 2 = .ok (.iconst 0, 1) := by decide +kernel
theorem dX4_sumFor_3 : decode cX4_sumFor 3 = .ok (.istore_n 3, 1) := by decide +kernel
theorem dX4_sumFor_4 : decode cX4_sumFor 4 = .ok (.iconst 0, 1) := by decide +kernel
theorem dX4_sumFor_5 : decode cX4_sumFor 5 = .ok (.istore 4, 2) := by decide +kernel
theorem dX4_sumFor_7 : decode cX4_sumFor 7 = .ok (.iload 4, 2) := by decide +kernel
theorem dX4_sumFor_9 : decode cX4_sumFor 9 = .ok (.aload_n 0, 1) := by decide +kernel
theorem dX4_sumFor_10 : decode cX4_sumFor 10 = .ok (.getfield 16, 3) := by decide +kernel
theorem dX4_sumFor_13 : decode cX4_sumFor 13 = .ok (.arraylength, 1) := by decide +kernel
theorem dX4_sumFor_14 : decode cX4_sumFor 14 = .ok (.if_icmp .ge 153, 3) := by decide +kernel
theorem dX4_sumFor_17 : decode cX4_sumFor 17 = .ok (.aload_n 0, 1) := by decide +kernel
theorem dX4_sumFor_18 : decode cX4_sumFor 18 = .ok (.getfield 16, 3) := by decide +kernel
theorem dX4_sumFor_21 : decode cX4_sumFor 21 = .ok (.iload 4, 2) := by decide +kernel
theorem dX4_sumFor_23 : decode cX4_sumFor 23 = .ok (.iaload, 1) := by decide +kernel
theorem dX4_sumFor_24 : decode cX4_sumFor 24 = .ok (.istore 5, 2) := by decide +kernel
theorem dX4_sumFor_26 : decode cX4_sumFor 26 = .ok (.iload_n 3, 1) := by decide +kernel
theorem dX4_sumFor_27 : decode cX4_sumFor 27 = .ok (.iconst 1, 1) := by decide +kernel
theorem dX4_sumFor_28 : decode cX4_sumFor 28 = .ok (.iand, 1) := by decide +kernel
theorem dX4_sumFor_29 : decode cX4_sumFor 29 = .ok (.istore 6, 2) := by decide +kernel
theorem dX4_sumFor_31 : decode cX4_sumFor 31 = .ok (.iload_n 3, 1) := by decide +kernel
theorem dX4_sumFor_32 : decode cX4_sumFor 32 = .ok (.iconst 1, 1) := by decide +kernel
theorem dX4_sumFor_33 : decode cX4_sumFor 33 = .ok (.iushr, 1) := by decide +kernel
theorem dX4_sumFor_34 : decode cX4_sumFor 34 = .ok (.istore 7, 2) := by decide +kernel
theorem dX4_sumFor_36 : decode cX4_sumFor 36 = .ok (.iload 5, 2) := by decide +kernel
theorem dX4_sumFor_38 : decode cX4_sumFor 38 = .ok (.sipush 1000, 3) := by decide +kernel
theorem dX4_sumFor_41 : decode cX4_sumFor 41 = .ok (.if_icmp .lt 25, 3) := by decide +kernel
theorem dX4_sumFor_44 : decode cX4_sumFor 44 = .ok (.iload_n 3, 1) := by decide +kernel
theorem dX4_sumFor_45 : decode cX4_sumFor 45 = .ok (.iconst 1, 1) := by decide +kernel
theorem dX4_sumFor_46 : decode cX4_sumFor 46 = .ok (.ishl, 1) := by decide +kernel
theorem dX4_sumFor_47 : decode cX4_sumFor 47 = .ok (.iload 5, 2) := by decide +kernel
theorem dX4_sumFor_49 : decode cX4_sumFor 49 = .ok (.aload_n 1, 1) := by decide +kernel
theorem dX4_sumFor_50 : decode cX4_sumFor 50 = .ok (.invokestatic 35, 3) := by decide +kernel
theorem dX4_sumFor_53 : decode cX4_sumFor 53 = .ok (.ifCond .eq 7, 3) := by decide +kernel
theorem dX4_sumFor_56 : decode cX4_sumFor 56 = .ok (.iconst 1, 1) := by decide +kernel
theorem dX4_sumFor_57 : decode cX4_sumFor 57 = .ok (.goto 4, 3) := by decide +kernel
theorem dX4_sumFor_60 : decode cX4_sumFor 60 = .ok (.iconst 0, 1) := by decide +kernel
theorem dX4_sumFor_61 : decode cX4_sumFor 61 = .ok (.ior, 1) := by decide +kernel
theorem dX4_sumFor_62 : decode cX4_sumFor 62 = .ok (.istore_n 3, 1) := by decide +kernel
theorem dX4_sumFor_63 : decode cX4_sumFor 63 = .ok (.goto 98, 3) := by decide +kernel
theorem dX4_sumFor_66 : decode cX4_sumFor 66 = .ok (.iload 5, 2) := by decide +kernel
theorem dX4_sumFor_68 : decode cX4_sumFor 68 = .ok (.sipush 200, 3) := by decide +kernel
theorem dX4_sumFor_71 : decode cX4_sumFor 71 = .ok (.if_icmp .lt 21, 3) := by decide +kernel
theorem dX4_sumFor_74 : decode cX4_sumFor 74 = .ok (.iload_n 2, 1) := by decide +kernel
theorem dX4_sumFor_75 : decode cX4_sumFor 75 = .ok (.iload 6, 2) := by decide +kernel
theorem dX4_sumFor_77 : decode cX4_sumFor 77 = .ok (.iload 5, 2) := by decide +kernel
theorem dX4_sumFor_79 : decode cX4_sumFor 79 = .ok (.sipush 200, 3) := by decide +kernel
theorem dX4_sumFor_82 : decode cX4_sumFor 82 = .ok (.isub, 1) := by decide +kernel
theorem dX4_sumFor_83 : decode cX4_sumFor 83 = .ok (.imul, 1) := by decide +kernel
theorem dX4_sumFor_84 : decode cX4_sumFor 84 = .ok (.isub, 1) := by decide +kernel
theorem dX4_sumFor_85 : decode cX4_sumFor 85 = .ok (.istore_n 2, 1) := by decide +kernel
theorem dX4_sumFor_86 : decode cX4_sumFor 86 = .ok (.iload 7, 2) := by decide +kernel
theorem dX4_sumFor_88 : decode cX4_sumFor 88 = .ok (.istore_n 3, 1) := by decide +kernel
theorem dX4_sumFor_89 : decode cX4_sumFor 89 = .ok (.goto 72, 3) := by decide +kernel
theorem dX4_sumFor_92 : decode cX4_sumFor 92 = .ok (.iload 5, 2) := by decide +kernel
theorem dX4_sumFor_94 : decode cX4_sumFor 94 = .ok (.bipush 100, 2) := by decide +kernel
theorem dX4_sumFor_96 : decode cX4_sumFor 96 = .ok (.if_icmp .lt 20, 3) := by decide +kernel
theorem dX4_sumFor_99 : decode cX4_sumFor 99 = .ok (.iload_n 2, 1) := by decide +kernel
theorem dX4_sumFor_100 : decode cX4_sumFor 100 = .ok (.iload 6, 2) := by decide +kernel
theorem dX4_sumFor_102 : decode cX4_sumFor 102 = .ok (.iload 5, 2) := by decide +kernel
theorem dX4_sumFor_104 : decode cX4_sumFor 104 = .ok (.bipush 100, 2) := by decide +kernel
theorem dX4_sumFor_106 : decode cX4_sumFor 106 = .ok (.isub, 1) := by decide +kernel
theorem dX4_sumFor_107 : decode cX4_sumFor 107 = .ok (.imul, 1) := by decide +kernel
theorem dX4_sumFor_108 : decode cX4_sumFor 108 = .ok (.iadd, 1) := by decide +kernel
theorem dX4_sumFor_109 : decode cX4_sumFor 109 = .ok (.istore_n 2, 1) := by decide +kernel
theorem dX4_sumFor_110 : decode cX4_sumFor 110 = .ok (.iload 7, 2) := by decide +kernel
theorem dX4_sumFor_112 : decode cX4_sumFor 112 = .ok (.istore_n 3, 1) := by decide +kernel
theorem dX4_sumFor_113 : decode cX4_sumFor 113 = .ok (.goto 48, 3) := by decide +kernel
theorem dX4_sumFor_116 : decode cX4_sumFor 116 = .ok (.iload 5, 2) := by decide +kernel
theorem dX4_sumFor_118 : decode cX4_sumFor 118 = .ok (.iconst 1, 1) := by decide +kernel
theorem dX4_sumFor_119 : decode cX4_sumFor 119 = .ok (.if_icmp .ne 10, 3) := by decide +kernel
theorem dX4_sumFor_122 : decode cX4_sumFor 122 = .ok (.iload_n 3, 1) := by decide +kernel
theorem dX4_sumFor_123 : decode cX4_sumFor 123 = .ok (.iconst 1, 1) := by decide +kernel
theorem dX4_sumFor_124 : decode cX4_sumFor 124 = .ok (.ixor, 1) := by decide +kernel
theorem dX4_sumFor_125 : decode cX4_sumFor 125 = .ok (.istore_n 3, 1) := by decide +kernel
theorem dX4_sumFor_126 : decode cX4_sumFor 126 = .ok (.goto 35, 3) := by decide +kernel
theorem dX4_sumFor_129 : decode cX4_sumFor 129 = .ok (.iload 5, 2) := by decide +kernel
theorem dX4_sumFor_131 : decode cX4_sumFor 131 = .ok (.iconst 2, 1) := by decide +kernel
theorem dX4_sumFor_132 : decode cX4_sumFor 132 = .ok (.if_icmp .ne 23, 3) := by decide +kernel
theorem dX4_sumFor_135 : decode cX4_sumFor 135 = .ok (.iload 6, 2) := by decide +kernel
theorem dX4_sumFor_137 : decode cX4_sumFor 137 = .ok (.iconst 1, 1) := by decide +kernel
theorem dX4_sumFor_138 : decode cX4_sumFor 138 = .ok (.if_icmp .ne 8, 3) := by decide +kernel
theorem dX4_sumFor_141 : decode cX4_sumFor 141 = .ok (.iload 7, 2) := by decide +kernel
theorem dX4_sumFor_143 : decode cX4_sumFor 143 = .ok (.goto 8, 3) := by decide +kernel
theorem dX4_sumFor_146 : decode cX4_sumFor 146 = .ok (.iload 7, 2) := by decide +kernel
theorem dX4_sumFor_148 : decode cX4_sumFor 148 = .ok (.bipush (-2), 2) := by decide +kernel
theorem dX4_sumFor_150 : decode cX4_sumFor 150 = .ok (.iand, 1) := by decide +kernel
theorem dX4_sumFor_151 : decode cX4_sumFor 151 = .ok (.istore_n 3, 1) := by decide +kernel
theorem dX4_sumFor_152 : decode cX4_sumFor 152 = .ok (.goto 9, 3) := by decide +kernel
theorem dX4_sumFor_155 : decode cX4_sumFor 155 = .ok (.iload 7, 2) := by decide +kernel
theorem dX4_sumFor_157 : decode cX4_sumFor 157 = .ok (.iload 6, 2) := by decide +kernel
theorem dX4_sumFor_159 : decode cX4_sumFor 159 = .ok (.ior, 1) := by decide +kernel
theorem dX4_sumFor_160 : decode cX4_sumFor 160 = .ok (.istore_n 3, 1) := by decide +kernel
theorem dX4_sumFor_161 : decode cX4_sumFor 161 = .ok (.iinc 4 1, 3) := by decide +kernel
theorem dX4_sumFor_164 : decode cX4_sumFor 164 = .ok (.goto (-157), 3) := by decide +kernel
theorem dX4_sumFor_167 : decode cX4_sumFor 167 = .ok (.iload_n 2, 1) := by decide +kernel
theorem dX4_sumFor_168 : decode cX4_sumFor 168 = .ok (.ireturn, 1) := by decide +kernel
theorem dX4_isSo_0 : decode cX4_isSo 0 = .ok (.iload_n 0, 1) := by decide +kernel
theorem dX4_isSo_1 : decode cX4_isSo 1 = .ok (.sipush 1000, 3) := by decide +kernel
theorem dX4_isSo_4 : decode cX4_isSo 4 = .ok (.idiv, 1) := by decide +kernel
theorem dX4_isSo_5 : decode cX4_isSo 5 = .ok (.iconst 1, 1) := by decide +kernel
theorem dX4_isSo_6 : decode cX4_isSo 6 = .ok (.isub, 1) := by decide +kernel
theorem dX4_isSo_7 : decode cX4_isSo 7 = .ok (.istore_n 2, 1) := by decide +kernel
theorem dX4_isSo_8 : decode cX4_isSo 8 = .ok (.iload_n 2, 1) := by decide +kernel
theorem dX4_isSo_9 : decode cX4_isSo 9 = .ok (.ifCond .lt 9, 3) := by decide +kernel
theorem dX4_isSo_12 : decode cX4_isSo 12 = .ok (.iload_n 2, 1) := by decide +kernel
theorem dX4_isSo_13 : decode cX4_isSo 13 = .ok (.aload_n 1, 1) := by decide +kernel
theorem dX4_isSo_14 : decode cX4_isSo 14 = .ok (.arraylength, 1) := by decide +kernel
theorem dX4_isSo_15 : decode cX4_isSo 15 = .ok (.if_icmp .lt 5, 3) := by decide +kernel
theorem dX4_isSo_18 : decode cX4_isSo 18 = .ok (.iconst 0, 1) := by decide +kernel
theorem dX4_isSo_19 : decode cX4_isSo 19 = .ok (.ireturn, 1) := by decide +kernel
theorem dX4_isSo_20 : decode cX4_isSo 20 = .ok (.aload_n 1, 1) := by decide +kernel
theorem dX4_isSo_21 : decode cX4_isSo 21 = .ok (.iload_n 2, 1) := by decide +kernel
theorem dX4_isSo_22 : decode cX4_isSo 22 = .ok (.iaload, 1) := by decide +kernel
theorem dX4_isSo_23 : decode cX4_isSo 23 = .ok (.istore_n 3, 1) := by decide +kernel
theorem dX4_isSo_24 : decode cX4_isSo 24 = .ok (.iload_n 0, 1) := by decide +kernel
theorem dX4_isSo_25 : decode cX4_isSo 25 = .ok (.bipush 100, 2) := by decide +kernel
theorem dX4_isSo_27 : decode cX4_isSo 27 = .ok (.irem, 1) := by decide +kernel
theorem dX4_isSo_28 : decode cX4_isSo 28 = .ok (.istore 4, 2) := by decide +kernel
theorem dX4_isSo_30 : decode cX4_isSo 30 = .ok (.iload_n 0, 1) := by decide +kernel
theorem dX4_isSo_31 : decode cX4_isSo 31 = .ok (.sipush 1000, 3) := by decide +kernel
theorem dX4_isSo_34 : decode cX4_isSo 34 = .ok (.irem, 1) := by decide +kernel
theorem dX4_isSo_35 : decode cX4_isSo 35 = .ok (.bipush 100, 2) := by decide +kernel
theorem dX4_isSo_37 : decode cX4_isSo 37 = .ok (.idiv, 1) := by decide +kernel
theorem dX4_isSo_38 : decode cX4_isSo 38 = .ok (.lookupswitch 50 #[(0, 26), (1, 38)], 26) := by decide +kernel
theorem dX4_isSo_64 : decode cX4_isSo 64 = .ok (.iload_n 3, 1) := by decide +kernel
theorem dX4_isSo_65 : decode cX4_isSo 65 = .ok (.iload 4, 2) := by decide +kernel
theorem dX4_isSo_67 : decode cX4_isSo 67 = .ok (.if_icmp .ge 7, 3) := by decide +kernel
theorem dX4_isSo_70 : decode cX4_isSo 70 = .ok (.iconst 1, 1) := by decide +kernel
theorem dX4_isSo_71 : decode cX4_isSo 71 = .ok (.goto 4, 3) := by decide +kernel
theorem dX4_isSo_74 : decode cX4_isSo 74 = .ok (.iconst 0, 1) := by decide +kernel
theorem dX4_isSo_75 : decode cX4_isSo 75 = .ok (.ireturn, 1) := by decide +kernel
theorem dX4_isSo_76 : decode cX4_isSo 76 = .ok (.iload_n 3, 1) := by decide +kernel
theorem dX4_isSo_77 : decode cX4_isSo 77 = .ok (.iload 4, 2) := by decide +kernel
theorem dX4_isSo_79 : decode cX4_isSo 79 = .ok (.if_icmp .ne 7, 3) := by decide +kernel
theorem dX4_isSo_82 : decode cX4_isSo 82 = .ok (.iconst 1, 1) := by decide +kernel
theorem dX4_isSo_83 : decode cX4_isSo 83 = .ok (.goto 4, 3) := by decide +kernel
theorem dX4_isSo_86 : decode cX4_isSo 86 = .ok (.iconst 0, 1) := by decide +kernel
theorem dX4_isSo_87 : decode cX4_isSo 87 = .ok (.ireturn, 1) := by decide +kernel
theorem dX4_isSo_88 : decode cX4_isSo 88 = .ok (.iload_n 3, 1) := by decide +kernel
theorem dX4_isSo_89 : decode cX4_isSo 89 = .ok (.iload 4, 2) := by decide +kernel
theorem dX4_isSo_91 : decode cX4_isSo 91 = .ok (.if_icmp .le 7, 3) := by decide +kernel
theorem dX4_isSo_94 : decode cX4_isSo 94 = .ok (.iconst 1, 1) := by decide +kernel
theorem dX4_isSo_95 : decode cX4_isSo 95 = .ok (.goto 4, 3) := by decide +kernel
theorem dX4_isSo_98 : decode cX4_isSo 98 = .ok (.iconst 0, 1) := by decide +kernel
theorem dX4_isSo_99 : decode cX4_isSo 99 = .ok (.ireturn, 1) := by decide +kernel
theorem dX5_init_0 : decode cX5_init 0 = .ok (.aload_n 0, 1) := by decide +kernel
theorem dX5_init_1 : decode cX5_init 1 = .ok (.invokespecial 3, 3) := by decide +kernel
theorem dX5_init_4 : decode cX5_init 4 = .ok (.aload_n 0, 1) := by decide +kernel
theorem dX5_init_5 : decode cX5_init 5 = .ok (.bipush 100, 2) := by decide +kernel
theorem dX5_init_7 : decode cX5_init 7 = .ok (.newarray .int, 2) := by decide +kernel
theorem dX5_init_9 : decode cX5_init 9 = .ok (.putfield 11, 3) := by decide +kernel
theorem dX5_init_12 : decode cX5_init 12 = .ok (.aload_n 0, 1) := by decide +kernel
theorem dX5_init_13 : decode cX5_init 13 = .ok (.bipush 100, 2) := by decide +kernel
theorem dX5_init_15 : decode cX5_init 15 = .ok (.newarray .int, 2) := by decide +kernel
theorem dX5_init_17 : decode cX5_init 17 = .ok (.putfield 15, 3) := by decide +kernel
theorem dX5_init_20 : decode cX5_init 20 = .ok (.return_, 1) := by decide +kernel
theorem dX5_addSign_0 : decode cX5_addSign 0 = .ok (.aload_n 0, 1) := by decide +kernel
theorem dX5_addSign_1 : decode cX5_addSign 1 = .ok (.getfield 18, 3) := by decide +kernel
theorem dX5_addSign_4 : decode cX5_addSign 4 = .ok (.bipush 100, 2) := by decide +kernel
theorem dX5_addSign_6 : decode cX5_addSign 6 = .ok (.if_icmp .ge 23, 3) := by decide +kernel
theorem dX5_addSign_9 : decode cX5_addSign 9 = .ok (.aload_n 0, 1) := by decide +kernel
theorem dX5_addSign_10 : decode cX5_addSign 10 = .ok (.getfield 11, 3) := by decide +kernel
theorem dX5_addSign_13 : decode cX5_addSign 13 = .ok (.aload_n 0, 1) := by decide +kernel
theorem dX5_addSign_14 : decode cX5_addSign 14 = .ok (.getfield 18, 3) := by decide +kernel
theorem dX5_addSign_17 : decode cX5_addSign 17 = .ok (.iload_n 1, 1) := by decide +kernel
theorem dX5_addSign_18 : decode cX5_addSign 18 = .ok (.iastore, 1) := by decide +kernel
theorem dX5_addSign_19 : decode cX5_addSign 19 = .ok (.aload_n 0, 1) := by decide +kernel
theorem dX5_addSign_20 : decode cX5_addSign 20 = .ok (.dup, 1) := by decide +kernel
theorem dX5_addSign_21 : decode cX5_addSign 21 = .ok (.getfield 18, 3) := by decide +kernel
theorem dX5_addSign_24 : decode cX5_addSign 24 = .ok (.iconst 1, 1) := by decide +kernel
theorem dX5_addSign_25 : decode cX5_addSign 25 = .ok (.iadd, 1) := by decide +kernel
theorem dX5_addSign_26 : decode cX5_addSign 26 = .ok (.putfield 18, 3) := by decide +kernel
theorem dX5_addSign_29 : decode cX5_addSign 29 = .ok (.aload_n 0, 1) := by decide +kernel
theorem dX5_addSign_30 : decode cX5_addSign 30 = .ok (.getfield 18, 3) := by decide +kernel
theorem dX5_addSign_33 : decode cX5_addSign 33 = .ok (.ireturn, 1) := by decide +kernel
set_option maxRecDepth 20000 in
theorem ggX5_readStreet_X5_readClause : GoodIn wsX5_readStreet wsX5_readClause := goodIn_r _ [10, 11, 3, 12, 13, 14, 15, 4, 16, 17, 18, 9, 19, 1, 5, 20, 21, 22, 23, 24, 25, 26, 27, 28, 29, 30, 31, 32, 33, 34, 35, 36, 37, 38, 39, 40, 41, 42, 43, 44, 45, 46, 47, 48, 49, 50, 51, 52, 53, 54, 55, 56, 57, 58, 59, 60, 61, 62, 63, 64, 65, 66, 67, 68, 69, 70, 71, 72, 73, 74, 75, 76, 77, 78, 79, 80, 81, 82, 83, 84, 85, 86, 87, 88, 89, 90, 91, 92, 93, 94, 95, 96, 97, 98, 99, 2, 100, 101, 102, 103, 104, 105, 106, 107, 108, 109, 110, 111, 112, 113, 114, 115, 116, 117, 118, 119, 120, 121, 122, 123, 124, 125, 126, 127, 128, 129, 130, 131, 132, 133, 134, 135, 136, 137, 138, 139, 140, 141, 142, 143, 144, 145, 146, 147, 148, 149, 150, 151, 152, 153, 154, 155, 156, 157, 158, 159, 160, 161, 162, 163, 164, 165, 166, 167, 168, 169, 170, 171, 172, 173, 174, 175] (by decide +kernel) (by decide +kernel)
set_option maxRecDepth 20000 in
theorem gX5_readStreet_X5_readClause : GoodIn wsX5_readStreet (wsV RX5 34 RX5 yX5_readClause wsX5_readClause) := goodIn_app (goodIn_of _ (by decide +kernel)) ggX5_readStreet_X5_readClause
set_option maxRecDepth 20000 in
theorem ggX5_readStreet_X5_readSign : GoodIn wsX5_readStreet wsX5_readSign := goodIn_r _ [84, 1, 16, 17, 18, 9, 19, 5, 20, 168, 169, 170, 171, 172, 173, 174, 175] (by decide +kernel) (by decide +kernel)
set_option maxRecDepth 20000 in
theorem gX5_readStreet_X5_readSign : GoodIn wsX5_readStreet (wsV RX5 38 RX5 yX5_readSign wsX5_readSign) := goodIn_app (goodIn_of _ (by decide +kernel)) ggX5_readStreet_X5_readSign
theorem dX5_readStreet_0 : decode cX5_readStreet 0 = .ok (.aload_n 0, 1) := by decide +kernel
theorem dX5_readStreet_1 : decode cX5_readStreet 1 = .ok (.iconst 0, 1) := by decide +kernel
theorem dX5_readStreet_2 : decode cX5_readStreet 2 = .ok (.putfield 22, 3) := by decide +kernel
theorem dX5_readStreet_5 : decode cX5_readStreet 5 = .ok (.aload_n 0, 1) := by decide +kernel
theorem dX5_readStreet_6 : decode cX5_readStreet 6 = .ok (.iconst 0, 1) := by decide +kernel
theorem dX5_readStreet_7 : decode cX5_readStreet 7 = .ok (.putfield 25, 3) := by decide +kernel
theorem dX5_readStreet_10 : decode cX5_readStreet 10 = .ok (.aload_n 0, 1) := by decide +kernel
theorem dX5_readStreet_11 : decode cX5_readStreet 11 = .ok (.iconst 1, 1) := by decide +kernel
theorem dX5_readStreet_12 : decode cX5_readStreet 12 = .ok (.putfield 28, 3) := by decide +kernel
theorem dX5_readStreet_15 : decode cX5_readStreet 15 = .ok (.aload_n 0, 1) := by decide +kernel
theorem dX5_readStreet_16 : decode cX5_readStreet 16 = .ok (.bipush 6, 2) := by decide +kernel
theorem dX5_readStreet_18 : decode cX5_readStreet 18 = .ok (.putfield 31, 3) := by decide +kernel
theorem dX5_readStreet_21 : decode cX5_readStreet 21 = .ok (.iconst 1, 1) := by decide +kernel
theorem dX5_readStreet_22 : decode cX5_readStreet 22 = .ok (.istore_n 1, 1) := by decide +kernel
theorem dX5_readStreet_23 : decode cX5_readStreet 23 = .ok (.iload_n 1, 1) := by decide +kernel
theorem dX5_readStreet_24 : decode cX5_readStreet 24 = .ok (.bipush 10, 2) := by decide +kernel
theorem dX5_readStreet_26 : decode cX5_readStreet 26 = .ok (.if_icmp .gt 48, 3) := by decide +kernel
theorem dX5_readStreet_29 : decode cX5_readStreet 29 = .ok (.aload_n 0, 1) := by decide +kernel
theorem dX5_readStreet_30 : decode cX5_readStreet 30 = .ok (.invokevirtual 34, 3) := by decide +kernel
theorem dX5_readStreet_33 : decode cX5_readStreet 33 = .ok (.ifCond .ne 5, 3) := by decide +kernel
theorem dX5_readStreet_36 : decode cX5_readStreet 36 = .ok (.iconst 0, 1) := by decide +kernel
theorem dX5_readStreet_37 : decode cX5_readStreet 37 = .ok (.ireturn, 1) := by decide +kernel
theorem dX5_readStreet_38 : decode cX5_readStreet 38 = .ok (.aload_n 0, 1) := by decide +kernel
theorem dX5_readStreet_39 : decode cX5_readStreet 39 = .ok (.getfield 22, 3) := by decide +kernel
theorem dX5_readStreet_42 : decode cX5_readStreet 42 = .ok (.aload_n 0, 1) := by decide +kernel
theorem dX5_readStreet_43 : decode cX5_readStreet 43 = .ok (.getfield 18, 3) := by decide +kernel
theorem dX5_readStreet_46 : decode cX5_readStreet 46 = .ok (.if_icmp .lt 5, 3) := by decide +kernel
theorem dX5_readStreet_49 : decode cX5_readStreet 49 = .ok (.iconst 1, 1) := by decide +kernel
theorem dX5_readStreet_50 : decode cX5_readStreet 50 = .ok (.ireturn, 1) := by decide +kernel
theorem dX5_readStreet_51 : decode cX5_readStreet 51 = .ok (.iload_n 1, 1) := by decide +kernel
theorem dX5_readStreet_52 : decode cX5_readStreet 52 = .ok (.bipush 10, 2) := by decide +kernel
theorem dX5_readStreet_54 : decode cX5_readStreet 54 = .ok (.if_icmp .eq 12, 3) := by decide +kernel
theorem dX5_readStreet_57 : decode cX5_readStreet 57 = .ok (.aload_n 0, 1) := by decide +kernel
theorem dX5_readStreet_58 : decode cX5_readStreet 58 = .ok (.bipush 59, 2) := by decide +kernel
theorem dX5_readStreet_60 : decode cX5_readStreet 60 = .ok (.invokevirtual 38, 3) := by decide +kernel
theorem dX5_readStreet_63 : decode cX5_readStreet 63 = .ok (.ifCond .ne 5, 3) := by decide +kernel
theorem dX5_readStreet_66 : decode cX5_readStreet 66 = .ok (.iconst 0, 1) := by decide +kernel
theorem dX5_readStreet_67 : decode cX5_readStreet 67 = .ok (.ireturn, 1) := by decide +kernel
theorem dX5_readStreet_68 : decode cX5_readStreet 68 = .ok (.iinc 1 1, 3) := by decide +kernel
theorem dX5_readStreet_71 : decode cX5_readStreet 71 = .ok (.goto (-48), 3) := by decide +kernel
theorem dX5_readStreet_74 : decode cX5_readStreet 74 = .ok (.iconst 0, 1) := by decide +kernel
theorem dX5_readStreet_75 : decode cX5_readStreet 75 = .ok (.ireturn, 1) := by decide +kernel
set_option maxRecDepth 20000 in
theorem ggX5_readClause_X5_nextSign : GoodIn wsX5_readClause wsX5_nextSign := goodIn_r _ [12, 13, 14, 15, 164, 165, 166, 167, 168, 169, 170, 171] (by decide +kernel) (by decide +kernel)
set_option maxRecDepth 20000 in
theorem gX5_readClause_X5_nextSign : GoodIn wsX5_readClause (wsV RX5 42 RX5 yX5_nextSign wsX5_nextSign) := goodIn_app (goodIn_of _ (by decide +kernel)) ggX5_readClause_X5_nextSign
set_option maxRecDepth 20000 in
theorem ggX5_readClause_X5_wordFrom : GoodIn wsX5_readClause wsX5_wordFrom := goodIn_r _ [18] (by decide +kernel) (by decide +kernel)
set_option maxRecDepth 20000 in
theorem gX5_readClause_X5_wordFrom : GoodIn wsX5_readClause (va_wsS RX5 46 yX5_wordFrom wsX5_wordFrom) := goodIn_app (goodIn_of _ (by decide +kernel)) ggX5_readClause_X5_wordFrom
set_option maxRecDepth 20000 in
theorem ggX5_readClause_X5_readNumbered : GoodIn wsX5_readClause wsX5_readNumbered := goodIn_r _ [22, 23, 24, 25, 26, 27, 28, 29, 30, 31, 32, 33, 34, 35, 36, 37, 38, 39, 40, 41, 42, 43, 44, 45, 46, 47, 48, 49, 50, 51, 52, 53, 54, 55, 56, 57, 58, 59, 60, 61, 62, 63, 64, 65, 66, 67, 68, 69, 70, 71, 72, 73, 74, 75, 76, 77, 78, 11, 79, 13, 8, 9, 10, 12, 14, 15, 80, 81, 82, 83, 1, 164, 165, 166, 167, 168, 169, 170, 171] (by decide +kernel) (by decide +kernel)
set_option maxRecDepth 20000 in
theorem gX5_readClause_X5_readNumbered : GoodIn wsX5_readClause (wsV RX5 50 RX5 yX5_readNumbered wsX5_readNumbered) := goodIn_app (goodIn_of _ (by decide +kernel)) ggX5_readClause_X5_readNumbered
set_option maxRecDepth 20000 in
theorem ggX5_readClause_X5_readSign : GoodIn wsX5_readClause wsX5_readSign := goodIn_r _ [79, 13, 8, 9, 10, 11, 12, 14, 15, 164, 165, 166, 167, 168, 169, 170, 171] (by decide +kernel) (by decide +kernel)
set_option maxRecDepth 20000 in
theorem gX5_readClause_X5_readSign : GoodIn wsX5_readClause (wsV RX5 38 RX5 yX5_readSign wsX5_readSign) := goodIn_app (goodIn_of _ (by decide +kernel)) ggX5_readClause_X5_readSign
set_option maxRecDepth 20000 in
theorem ggX5_readClause_X5_readEither : GoodIn wsX5_readClause wsX5_readEither := goodIn_r _ [87, 13, 88, 89, 90, 11, 8, 9, 10, 12, 14, 15, 91, 92, 93, 94, 95, 96, 97, 98, 99, 100, 101, 102, 103, 104, 105, 1, 106, 107, 108, 26, 109, 110, 111, 112, 113, 28, 43, 44, 45, 46, 37, 38, 114, 30, 31, 32, 33, 34, 35, 36, 115, 116, 49, 117, 118, 4, 5, 6, 119, 120, 121, 122, 123, 124, 125, 126, 127, 128, 129, 61, 130, 131, 132, 133, 134, 135, 136, 137, 138, 139, 66, 67, 68, 140, 141, 142, 54, 143, 144, 57, 145, 146, 147, 148, 70, 71, 72, 73, 74, 75, 149, 150, 151, 152, 153, 154, 155, 156, 157, 158, 159, 160, 161, 162, 163, 80, 81, 82, 83, 84, 85, 86, 76, 77, 78, 79, 164, 165, 166, 167, 168, 169, 170, 171] (by decide +kernel) (by decide +kernel)
set_option maxRecDepth 20000 in
theorem gX5_readClause_X5_readEither : GoodIn wsX5_readClause (wsV RX5 63 RX5 yX5_readEither wsX5_readEither) := goodIn_app (goodIn_of _ (by decide +kernel)) ggX5_readClause_X5_readEither
set_option maxRecDepth 20000 in
theorem ggX5_readClause_X5_addStep : GoodIn wsX5_readClause wsX5_addStep := goodIn_r _ [94, 95, 96, 164, 165, 166, 167, 168, 169, 170, 171] (by decide +kernel) (by decide +kernel)
set_option maxRecDepth 20000 in
theorem gX5_readClause_X5_addStep : GoodIn wsX5_readClause (wsV RX5 68 RX5 yX5_addStep wsX5_addStep) := goodIn_app (goodIn_of _ (by decide +kernel)) ggX5_readClause_X5_addStep
theorem dX5_readClause_0 : decode cX5_readClause 0 = .ok (.aload_n 0, 1) := by decide +kernel
theorem dX5_readClause_1 : decode cX5_readClause 1 = .ok (.invokevirtual 42, 3) := by decide +kernel
theorem dX5_readClause_4 : decode cX5_readClause 4 = .ok (.istore_n 1, 1) := by decide +kernel
theorem dX5_readClause_5 : decode cX5_readClause 5 = .ok (.aload_n 0, 1) := by decide +kernel
theorem dX5_readClause_6 : decode cX5_readClause 6 = .ok (.iload_n 1, 1) := by decide +kernel
theorem dX5_readClause_7 : decode cX5_readClause 7 = .ok (.invokestatic 46, 3) := by decide +kernel
theorem dX5_readClause_10 : decode cX5_readClause 10 = .ok (.invokevirtual 50, 3) := by decide +kernel
theorem dX5_readClause_13 : decode cX5_readClause 13 = .ok (.ifCond .ne 5, 3) := by decide +kernel
theorem dX5_readClause_16 : decode cX5_readClause 16 = .ok (.iconst 0, 1) := by decide +kernel
theorem dX5_readClause_17 : decode cX5_readClause 17 = .ok (.ireturn, 1) := by decide +kernel
theorem dX5_readClause_18 : decode cX5_readClause 18 = .ok (.aload_n 0, 1) := by decide +kernel
theorem dX5_readClause_19 : decode cX5_readClause 19 = .ok (.getfield 54, 3) := by decide +kernel
theorem dX5_readClause_22 : decode cX5_readClause 22 = .ok (.istore_n 2, 1) := by decide +kernel
theorem dX5_readClause_23 : decode cX5_readClause 23 = .ok (.iload_n 1, 1) := by decide +kernel
theorem dX5_readClause_24 : decode cX5_readClause 24 = .ok (.bipush 110, 2) := by decide +kernel
theorem dX5_readClause_26 : decode cX5_readClause 26 = .ok (.if_icmp .ne 10, 3) := by decide +kernel
theorem dX5_readClause_29 : decode cX5_readClause 29 = .ok (.aload_n 0, 1) := by decide +kernel
theorem dX5_readClause_30 : decode cX5_readClause 30 = .ok (.iload_n 2, 1) := by decide +kernel
theorem dX5_readClause_31 : decode cX5_readClause 31 = .ok (.putfield 28, 3) := by decide +kernel
theorem dX5_readClause_34 : decode cX5_readClause 34 = .ok (.iconst 1, 1) := by decide +kernel
theorem dX5_readClause_35 : decode cX5_readClause 35 = .ok (.ireturn, 1) := by decide +kernel
theorem dX5_readClause_36 : decode cX5_readClause 36 = .ok (.iload_n 1, 1) := by decide +kernel
theorem dX5_readClause_37 : decode cX5_readClause 37 = .ok (.bipush 104, 2) := by decide +kernel
theorem dX5_readClause_39 : decode cX5_readClause 39 = .ok (.if_icmp .ne 14, 3) := by decide +kernel
theorem dX5_readClause_42 : decode cX5_readClause 42 = .ok (.aload_n 0, 1) := by decide +kernel
theorem dX5_readClause_43 : decode cX5_readClause 43 = .ok (.iconst 1, 1) := by decide +kernel
theorem dX5_readClause_44 : decode cX5_readClause 44 = .ok (.iload_n 2, 1) := by decide +kernel
theorem dX5_readClause_45 : decode cX5_readClause 45 = .ok (.invokestatic 57, 3) := by decide +kernel
theorem dX5_readClause_48 : decode cX5_readClause 48 = .ok (.putfield 31, 3) := by decide +kernel
theorem dX5_readClause_51 : decode cX5_readClause 51 = .ok (.iconst 1, 1) := by decide +kernel
theorem dX5_readClause_52 : decode cX5_readClause 52 = .ok (.ireturn, 1) := by decide +kernel
theorem dX5_readClause_53 : decode cX5_readClause 53 = .ok (.aload_n 0, 1) := by decide +kernel
theorem dX5_readClause_54 : decode cX5_readClause 54 = .ok (.bipush 32, 2) := by decide +kernel
theorem dX5_readClause_56 : decode cX5_readClause 56 = .ok (.invokevirtual 38, 3) := by decide +kernel
theorem dX5_readClause_59 : decode cX5_readClause 59 = .ok (.ifCond .eq 11, 3) := by decide +kernel
theorem dX5_readClause_62 : decode cX5_readClause 62 = .ok (.aload_n 0, 1) := by decide +kernel
theorem dX5_readClause_63 : decode cX5_readClause 63 = .ok (.iconst 0, 1) := by decide +kernel
theorem dX5_readClause_64 : decode cX5_readClause 64 = .ok (.invokevirtual 63, 3) := by decide +kernel
theorem dX5_readClause_67 : decode cX5_readClause 67 = .ok (.ifCond .ne 5, 3) := by decide +kernel
theorem dX5_readClause_70 : decode cX5_readClause 70 = .ok (.iconst 0, 1) := by decide +kernel
theorem dX5_readClause_71 : decode cX5_readClause 71 = .ok (.ireturn, 1) := by decide +kernel
theorem dX5_readClause_72 : decode cX5_readClause 72 = .ok (.aload_n 0, 1) := by decide +kernel
theorem dX5_readClause_73 : decode cX5_readClause 73 = .ok (.iload_n 1, 1) := by decide +kernel
theorem dX5_readClause_74 : decode cX5_readClause 74 = .ok (.bipush 108, 2) := by decide +kernel
theorem dX5_readClause_76 : decode cX5_readClause 76 = .ok (.if_icmp .ne 10, 3) := by decide +kernel
theorem dX5_readClause_79 : decode cX5_readClause 79 = .ok (.bipush 100, 2) := by decide +kernel
theorem dX5_readClause_81 : decode cX5_readClause 81 = .ok (.iload_n 2, 1) := by decide +kernel
theorem dX5_readClause_82 : decode cX5_readClause 82 = .ok (.iadd, 1) := by decide +kernel
theorem dX5_readClause_83 : decode cX5_readClause 83 = .ok (.goto 8, 3) := by decide +kernel
theorem dX5_readClause_86 : decode cX5_readClause 86 = .ok (.sipush 200, 3) := by decide +kernel
theorem dX5_readClause_89 : decode cX5_readClause 89 = .ok (.iload_n 2, 1) := by decide +kernel
theorem dX5_readClause_90 : decode cX5_readClause 90 = .ok (.iadd, 1) := by decide +kernel
theorem dX5_readClause_91 : decode cX5_readClause 91 = .ok (.invokevirtual 68, 3) := by decide +kernel
theorem dX5_readClause_94 : decode cX5_readClause 94 = .ok (.iconst 1, 1) := by decide +kernel
theorem dX5_readClause_95 : decode cX5_readClause 95 = .ok (.ireturn, 1) := by decide +kernel
theorem dX5_wordFrom_0 : decode cX5_wordFrom 0 = .ok (.iload_n 0, 1) := by decide +kernel
theorem dX5_wordFrom_1 : decode cX5_wordFrom 1 = .ok (.tableswitch 55 104 110 #[52, 55, 55, 55, 43, 46, 49], 43) := by decide +kernel
theorem dX5_wordFrom_44 : decode cX5_wordFrom 44 = .ok (.ldc 72, 2) := by decide +kernel
theorem dX5_wordFrom_46 : decode cX5_wordFrom 46 = .ok (.areturn, 1) := by decide +kernel
theorem dX5_wordFrom_47 : decode cX5_wordFrom 47 = .ok (.ldc 74, 2) := by decide +kernel
theorem dX5_wordFrom_49 : decode cX5_wordFrom 49 = .ok (.areturn, 1) := by decide +kernel
theorem dX5_wordFrom_50 : decode cX5_wordFrom 50 = .ok (.ldc 76, 2) := by decide +kernel
theorem dX5_wordFrom_52 : decode cX5_wordFrom 52 = .ok (.areturn, 1) := by decide +kernel
theorem dX5_wordFrom_53 : decode cX5_wordFrom 53 = .ok (.ldc 77, 2) := by decide +kernel
theorem dX5_wordFrom_55 : decode cX5_wordFrom 55 = .ok (.areturn, 1) := by decide +kernel
theorem dX5_wordFrom_56 : decode cX5_wordFrom 56 = .ok (.ldc 78, 2) := by decide +kernel
theorem dX5_wordFrom_58 : decode cX5_wordFrom 58 = .ok (.areturn, 1) := by decide +kernel
set_option maxRecDepth 20000 in
theorem ggX5_readNumbered_J0_isEmpty_aae02 : GoodIn wsX5_readNumbered wsJ0_isEmpty_aae02 := goodIn_r _ [5, 6] (by decide +kernel) (by decide +kernel)
set_option maxRecDepth 20000 in
theorem gX5_readNumbered_J0_isEmpty_aae02 : GoodIn wsX5_readNumbered (wsV RX5 80 RJ0 yJ0_isEmpty_aae02 wsJ0_isEmpty_aae02) := goodIn_app (goodIn_of _ (by decide +kernel)) ggX5_readNumbered_J0_isEmpty_aae02
set_option maxRecDepth 20000 in
theorem ggX5_readNumbered_J0_length_8abf5 : GoodIn wsX5_readNumbered wsJ0_length_8abf5 := goodIn_r _ [10, 6, 11, 12, 13, 4, 14, 15, 16] (by decide +kernel) (by decide +kernel)
set_option maxRecDepth 20000 in
theorem gX5_readNumbered_J0_length_8abf5 : GoodIn wsX5_readNumbered (wsV RX5 85 RJ0 yJ0_length_8abf5 wsJ0_length_8abf5) := goodIn_app (goodIn_of _ (by decide +kernel)) ggX5_readNumbered_J0_length_8abf5
set_option maxRecDepth 20000 in
theorem ggX5_readNumbered_J0_charAt_5068e : GoodIn wsX5_readNumbered wsJ0_charAt_5068e := goodIn_r _ [20, 6, 21, 22, 23, 4, 24, 15, 16, 25, 26, 27, 28, 29, 30, 31, 32, 33, 34, 35, 36, 37, 38, 39, 40, 41, 42, 43, 44, 45, 46, 47, 48, 49, 50, 51, 52, 53] (by decide +kernel) (by decide +kernel)
set_option maxRecDepth 20000 in
theorem gX5_readNumbered_J0_charAt_5068e : GoodIn wsX5_readNumbered (wsV RX5 87 RJ0 yJ0_charAt_5068e wsJ0_charAt_5068e) := goodIn_app (goodIn_of _ (by decide +kernel)) ggX5_readNumbered_J0_charAt_5068e
set_option maxRecDepth 20000 in
theorem ggX5_readNumbered_X5_readSign : GoodIn wsX5_readNumbered wsX5_readSign := goodIn_r _ [58, 59, 60, 61, 62, 57, 63, 64, 65, 71, 72, 73, 74, 75, 76, 77, 78] (by decide +kernel) (by decide +kernel)
set_option maxRecDepth 20000 in
theorem gX5_readNumbered_X5_readSign : GoodIn wsX5_readNumbered (wsV RX5 38 RX5 yX5_readSign wsX5_readSign) := goodIn_app (goodIn_of _ (by decide +kernel)) ggX5_readNumbered_X5_readSign
set_option maxRecDepth 20000 in
theorem ggX5_readNumbered_X5_readNumber : GoodIn wsX5_readNumbered wsX5_readNumber := goodIn_r _ [69, 70, 59, 64, 65, 71, 72, 73, 74, 75, 76, 77, 78] (by decide +kernel) (by decide +kernel)
set_option maxRecDepth 20000 in
theorem gX5_readNumbered_X5_readNumber : GoodIn wsX5_readNumbered (wsV RX5 91 RX5 yX5_readNumber wsX5_readNumber) := goodIn_app (goodIn_of _ (by decide +kernel)) ggX5_readNumbered_X5_readNumber
theorem dX5_readNumbered_0 : decode cX5_readNumbered 0 = .ok (.aload_n 1, 1) := by decide +kernel
theorem dX5_readNumbered_1 : decode cX5_readNumbered 1 = .ok (.invokevirtual 80, 3) := by decide +kernel
theorem dX5_readNumbered_4 : decode cX5_readNumbered 4 = .ok (.ifCond .eq 5, 3) := by decide +kernel
theorem dX5_readNumbered_7 : decode cX5_readNumbered 7 = .ok (.iconst 0, 1) := by decide +kernel
theorem dX5_readNumbered_8 : decode cX5_readNumbered 8 = .ok (.ireturn, 1) := by decide +kernel
theorem dX5_readNumbered_9 : decode cX5_readNumbered 9 = .ok (.iconst 0, 1) := by decide +kernel
theorem dX5_readNumbered_10 : decode cX5_readNumbered 10 = .ok (.istore_n 2, 1) := by decide +kernel
theorem dX5_readNumbered_11 : decode cX5_readNumbered 11 = .ok (.iload_n 2, 1) := by decide +kernel
theorem dX5_readNumbered_12 : decode cX5_readNumbered 12 = .ok (.aload_n 1, 1) := by decide +kernel
theorem dX5_readNumbered_13 : decode cX5_readNumbered 13 = .ok (.invokevirtual 85, 3) := by decide +kernel
theorem dX5_readNumbered_16 : decode cX5_readNumbered 16 = .ok (.if_icmp .ge 23, 3) := by decide +kernel
theorem dX5_readNumbered_19 : decode cX5_readNumbered 19 = .ok (.aload_n 0, 1) := by decide +kernel
theorem dX5_readNumbered_20 : decode cX5_readNumbered 20 = .ok (.aload_n 1, 1) := by decide +kernel
theorem dX5_readNumbered_21 : decode cX5_readNumbered 21 = .ok (.iload_n 2, 1) := by decide +kernel
theorem dX5_readNumbered_22 : decode cX5_readNumbered 22 = .ok (.invokevirtual 87, 3) := by decide +kernel
theorem dX5_readNumbered_25 : decode cX5_readNumbered 25 = .ok (.invokevirtual 38, 3) := by decide +kernel
theorem dX5_readNumbered_28 : decode cX5_readNumbered 28 = .ok (.ifCond .ne 5, 3) := by decide +kernel
theorem dX5_readNumbered_31 : decode cX5_readNumbered 31 = .ok (.iconst 0, 1) := by decide +kernel
theorem dX5_readNumbered_32 : decode cX5_readNumbered 32 = .ok (.ireturn, 1) := by decide +kernel
theorem dX5_readNumbered_33 : decode cX5_readNumbered 33 = .ok (.iinc 2 1, 3) := by decide +kernel
theorem dX5_readNumbered_36 : decode cX5_readNumbered 36 = .ok (.goto (-25), 3) := by decide +kernel
theorem dX5_readNumbered_39 : decode cX5_readNumbered 39 = .ok (.aload_n 0, 1) := by decide +kernel
theorem dX5_readNumbered_40 : decode cX5_readNumbered 40 = .ok (.bipush 32, 2) := by decide +kernel
theorem dX5_readNumbered_42 : decode cX5_readNumbered 42 = .ok (.invokevirtual 38, 3) := by decide +kernel
theorem dX5_readNumbered_45 : decode cX5_readNumbered 45 = .ok (.ifCond .eq 14, 3) := by decide +kernel
theorem dX5_readNumbered_48 : decode cX5_readNumbered 48 = .ok (.aload_n 0, 1) := by decide +kernel
theorem dX5_readNumbered_49 : decode cX5_readNumbered 49 = .ok (.invokevirtual 91, 3) := by decide +kernel
theorem dX5_readNumbered_52 : decode cX5_readNumbered 52 = .ok (.ifCond .eq 7, 3) := by decide +kernel
theorem dX5_readNumbered_55 : decode cX5_readNumbered 55 = .ok (.iconst 1, 1) := by decide +kernel
theorem dX5_readNumbered_56 : decode cX5_readNumbered 56 = .ok (.goto 4, 3) := by decide +kernel
theorem dX5_readNumbered_59 : decode cX5_readNumbered 59 = .ok (.iconst 0, 1) := by decide +kernel
theorem dX5_readNumbered_60 : decode cX5_readNumbered 60 = .ok (.ireturn, 1) := by decide +kernel
set_option maxRecDepth 20000 in
theorem ggX5_readEither_X5_readBoth : GoodIn wsX5_readEither wsX5_readBoth := goodIn_r _ [18, 1, 19, 20, 21, 5, 6, 7, 8, 9, 10, 11, 12, 13, 14, 15, 16, 17, 0, 2, 3, 4, 22, 23, 24, 25, 26, 27, 28, 29, 30, 31, 32, 33, 34, 35, 36, 37, 38, 39, 40, 41, 42, 43, 44, 45, 46, 47, 48, 49, 50, 51, 52, 53, 54, 55, 56, 57, 58, 59, 60, 61, 62, 63, 64, 65, 66, 67, 68, 69, 70, 71, 72, 73, 74, 75, 76, 77, 78, 79, 80, 81, 82, 83, 84, 85, 86, 87, 88, 89, 90, 91, 92, 93, 94, 95, 96, 97, 98, 99, 100, 101, 102, 103, 104, 105, 106, 107, 108, 109, 110, 111, 112, 113, 114, 115, 116, 117, 118, 119, 120, 121, 122, 123, 124, 125, 126, 127, 128, 129, 130, 131, 132, 133, 134, 135] (by decide +kernel) (by decide +kernel)
set_option maxRecDepth 20000 in
theorem gX5_readEither_X5_readBoth : GoodIn wsX5_readEither (wsV RX5 94 RX5 yX5_readBoth wsX5_readBoth) := goodIn_app (goodIn_of _ (by decide +kernel)) ggX5_readEither_X5_readBoth
set_option maxRecDepth 20000 in
theorem ggX5_readEither_X5_nextSign : GoodIn wsX5_readEither wsX5_nextSign := goodIn_r _ [9, 1, 10, 11, 128, 129, 130, 131, 132, 133, 134, 135] (by decide +kernel) (by decide +kernel)
set_option maxRecDepth 20000 in
theorem gX5_readEither_X5_nextSign : GoodIn wsX5_readEither (wsV RX5 42 RX5 yX5_nextSign wsX5_nextSign) := goodIn_app (goodIn_of _ (by decide +kernel)) ggX5_readEither_X5_nextSign
set_option maxRecDepth 20000 in
theorem ggX5_readEither_X5_addStep : GoodIn wsX5_readEither wsX5_addStep := goodIn_r _ [15, 16, 17, 128, 129, 130, 131, 132, 133, 134, 135] (by decide +kernel) (by decide +kernel)
set_option maxRecDepth 20000 in
theorem gX5_readEither_X5_addStep : GoodIn wsX5_readEither (wsV RX5 68 RX5 yX5_addStep wsX5_addStep) := goodIn_app (goodIn_of _ (by decide +kernel)) ggX5_readEither_X5_addStep
theorem dX5_readEither_0 : decode cX5_readEither 0 = .ok (.aload_n 0, 1) := by decide +kernel
theorem dX5_readEither_1 : decode cX5_readEither 1 = .ok (.iload_n 1, 1) := by decide +kernel
theorem dX5_readEither_2 : decode cX5_readEither 2 = .ok (.invokevirtual 94, 3) := by decide +kernel
theorem dX5_readEither_5 : decode cX5_readEither 5 = .ok (.ifCond .ne 5, 3) := by decide +kernel
theorem dX5_readEither_8 : decode cX5_readEither 8 = .ok (.iconst 0, 1) := by decide +kernel
theorem dX5_readEither_9 : decode cX5_readEither 9 = .ok (.ireturn, 1) := by decide +kernel
theorem dX5_readEither_10 : decode cX5_readEither 10 = .ok (.iconst 0, 1) := by decide +kernel
theorem dX5_readEither_11 : decode cX5_readEither 11 = .ok (.istore_n 2, 1) := by decide +kernel
theorem dX5_readEither_12 : decode cX5_readEither 12 = .ok (.iload_n 2, 1) := by decide +kernel
theorem dX5_readEither_13 : decode cX5_readEither 13 = .ok (.bipush 100, 2) := by decide +kernel
theorem dX5_readEither_15 : decode cX5_readEither 15 = .ok (.if_icmp .ge 43, 3) := by decide +kernel
theorem dX5_readEither_18 : decode cX5_readEither 18 = .ok (.aload_n 0, 1) := by decide +kernel
theorem dX5_readEither_19 : decode cX5_readEither 19 = .ok (.invokevirtual 42, 3) := by decide +kernel
theorem dX5_readEither_22 : decode cX5_readEither 22 = .ok (.bipush 124, 2) := by decide +kernel
theorem dX5_readEither_24 : decode cX5_readEither 24 = .ok (.if_icmp .ne 34, 3) := by decide +kernel
theorem dX5_readEither_27 : decode cX5_readEither 27 = .ok (.aload_n 0, 1) := by decide +kernel
theorem dX5_readEither_28 : decode cX5_readEither 28 = .ok (.dup, 1) := by decide +kernel
theorem dX5_readEither_29 : decode cX5_readEither 29 = .ok (.getfield 22, 3) := by decide +kernel
theorem dX5_readEither_32 : decode cX5_readEither 32 = .ok (.iconst 1, 1) := by decide +kernel
theorem dX5_readEither_33 : decode cX5_readEither 33 = .ok (.iadd, 1) := by decide +kernel
theorem dX5_readEither_34 : decode cX5_readEither 34 = .ok (.putfield 22, 3) := by decide +kernel
theorem dX5_readEither_37 : decode cX5_readEither 37 = .ok (.aload_n 0, 1) := by decide +kernel
theorem dX5_readEither_38 : decode cX5_readEither 38 = .ok (.iload_n 1, 1) := by decide +kernel
theorem dX5_readEither_39 : decode cX5_readEither 39 = .ok (.invokevirtual 94, 3) := by decide +kernel
theorem dX5_readEither_42 : decode cX5_readEither 42 = .ok (.ifCond .ne 5, 3) := by decide +kernel
theorem dX5_readEither_45 : decode cX5_readEither 45 = .ok (.iconst 0, 1) := by decide +kernel
theorem dX5_readEither_46 : decode cX5_readEither 46 = .ok (.ireturn, 1) := by decide +kernel
theorem dX5_readEither_47 : decode cX5_readEither 47 = .ok (.aload_n 0, 1) := by decide +kernel
theorem dX5_readEither_48 : decode cX5_readEither 48 = .ok (.iconst 3, 1) := by decide +kernel
theorem dX5_readEither_49 : decode cX5_readEither 49 = .ok (.invokevirtual 68, 3) := by decide +kernel
theorem dX5_readEither_52 : decode cX5_readEither 52 = .ok (.iinc 2 1, 3) := by decide +kernel
theorem dX5_readEither_55 : decode cX5_readEither 55 = .ok (.goto (-43), 3) := by decide +kernel
theorem dX5_readEither_58 : decode cX5_readEither 58 = .ok (.iconst 1, 1) := by decide +kernel
theorem dX5_readEither_59 : decode cX5_readEither 59 = .ok (.ireturn, 1) := by decide +kernel
set_option maxRecDepth 20000 in
theorem ggX5_readBoth_X5_readPart : GoodIn wsX5_readBoth wsX5_readPart := goodIn_r _ [22, 1, 6, 7, 8, 5, 9, 10, 11, 23, 24, 25, 26, 27, 28, 29, 30, 31, 32, 33, 34, 35, 36, 37, 38, 39, 40, 41, 42, 43, 44, 45, 46, 47, 48, 49, 50, 51, 52, 53, 54, 55, 56, 57, 58, 59, 60, 61, 62, 63, 64, 65, 66, 67, 68, 69, 70, 71, 72, 73, 74, 75, 76, 77, 78, 79, 80, 81, 82, 83, 84, 85, 86, 87, 88, 89, 90, 91, 92, 93, 94, 95, 96, 97, 98, 99, 100, 101, 102, 103, 104, 105, 106, 107, 108, 109, 110, 111, 112, 113, 114, 115, 116, 117, 118, 119, 120, 12, 13, 14, 15, 16, 17, 121, 122, 123, 124, 125, 126, 127, 2, 3, 4, 0, 18, 19, 20, 21, 128, 129, 130, 131, 132, 133, 134, 135] (by decide +kernel) (by decide +kernel)
set_option maxRecDepth 20000 in
theorem gX5_readBoth_X5_readPart : GoodIn wsX5_readBoth (wsV RX5 97 RX5 yX5_readPart wsX5_readPart) := goodIn_app (goodIn_of _ (by decide +kernel)) ggX5_readBoth_X5_readPart
set_option maxRecDepth 20000 in
theorem ggX5_readBoth_X5_nextSign : GoodIn wsX5_readBoth wsX5_nextSign := goodIn_r _ [9, 1, 10, 11, 128, 129, 130, 131, 132, 133, 134, 135] (by decide +kernel) (by decide +kernel)
set_option maxRecDepth 20000 in
theorem gX5_readBoth_X5_nextSign : GoodIn wsX5_readBoth (wsV RX5 42 RX5 yX5_nextSign wsX5_nextSign) := goodIn_app (goodIn_of _ (by decide +kernel)) ggX5_readBoth_X5_nextSign
set_option maxRecDepth 20000 in
theorem ggX5_readBoth_X5_addStep : GoodIn wsX5_readBoth wsX5_addStep := goodIn_r _ [15, 16, 17, 128, 129, 130, 131, 132, 133, 134, 135] (by decide +kernel) (by decide +kernel)
set_option maxRecDepth 20000 in
theorem gX5_readBoth_X5_addStep : GoodIn wsX5_readBoth (wsV RX5 68 RX5 yX5_addStep wsX5_addStep) := goodIn_app (goodIn_of _ (by decide +kernel)) ggX5_readBoth_X5_addStep
theorem dX5_readBoth_0 : decode cX5_readBoth 0 = .ok (.aload_n 0, 1) := by decide +kernel
theorem dX5_readBoth_1 : decode cX5_readBoth 1 = .ok (.iload_n 1, 1) := by decide +kernel
theorem dX5_readBoth_2 : decode cX5_readBoth 2 = .ok (.invokevirtual 97, 3) := by decide +kernel
theorem dX5_readBoth_5 : decode cX5_readBoth 5 = .ok (.ifCond .ne 5, 3) := by decide +kernel
theorem dX5_readBoth_8 : decode cX5_readBoth 8 = .ok (.iconst 0, 1) := by decide +kernel
theorem dX5_readBoth_9 : decode cX5_readBoth 9 = .ok (.ireturn, 1) := by decide +kernel
theorem dX5_readBoth_10 : decode cX5_readBoth 10 = .ok (.iconst 0, 1) := by decide +kernel
theorem dX5_readBoth_11 : decode cX5_readBoth 11 = .ok (.istore_n 2, 1) := by decide +kernel
theorem dX5_readBoth_12 : decode cX5_readBoth 12 = .ok (.iload_n 2, 1) := by decide +kernel
theorem dX5_readBoth_13 : decode cX5_readBoth 13 = .ok (.bipush 100, 2) := by decide +kernel
theorem dX5_readBoth_15 : decode cX5_readBoth 15 = .ok (.if_icmp .ge 43, 3) := by decide +kernel
theorem dX5_readBoth_18 : decode cX5_readBoth 18 = .ok (.aload_n 0, 1) := by decide +kernel
theorem dX5_readBoth_19 : decode cX5_readBoth 19 = .ok (.invokevirtual 42, 3) := by decide +kernel
theorem dX5_readBoth_22 : decode cX5_readBoth 22 = .ok (.bipush 38, 2) := by decide +kernel
theorem dX5_readBoth_24 : decode cX5_readBoth 24 = .ok (.if_icmp .ne 34, 3) := by decide +kernel
theorem dX5_readBoth_27 : decode cX5_readBoth 27 = .ok (.aload_n 0, 1) := by decide +kernel
theorem dX5_readBoth_28 : decode cX5_readBoth 28 = .ok (.dup, 1) := by decide +kernel
theorem dX5_readBoth_29 : decode cX5_readBoth 29 = .ok (.getfield 22, 3) := by decide +kernel
theorem dX5_readBoth_32 : decode cX5_readBoth 32 = .ok (.iconst 1, 1) := by decide +kernel
theorem dX5_readBoth_33 : decode cX5_readBoth 33 = .ok (.iadd, 1) := by decide +kernel
theorem dX5_readBoth_34 : decode cX5_readBoth 34 = .ok (.putfield 22, 3) := by decide +kernel
theorem dX5_readBoth_37 : decode cX5_readBoth 37 = .ok (.aload_n 0, 1) := by decide +kernel
theorem dX5_readBoth_38 : decode cX5_readBoth 38 = .ok (.iload_n 1, 1) := by decide +kernel
theorem dX5_readBoth_39 : decode cX5_readBoth 39 = .ok (.invokevirtual 97, 3) := by decide +kernel
theorem dX5_readBoth_42 : decode cX5_readBoth 42 = .ok (.ifCond .ne 5, 3) := by decide +kernel
theorem dX5_readBoth_45 : decode cX5_readBoth 45 = .ok (.iconst 0, 1) := by decide +kernel
theorem dX5_readBoth_46 : decode cX5_readBoth 46 = .ok (.ireturn, 1) := by decide +kernel
theorem dX5_readBoth_47 : decode cX5_readBoth 47 = .ok (.aload_n 0, 1) := by decide +kernel
theorem dX5_readBoth_48 : decode cX5_readBoth 48 = .ok (.iconst 2, 1) := by decide +kernel
theorem dX5_readBoth_49 : decode cX5_readBoth 49 = .ok (.invokevirtual 68, 3) := by decide +kernel
theorem dX5_readBoth_52 : decode cX5_readBoth 52 = .ok (.iinc 2 1, 3) := by decide +kernel
theorem dX5_readBoth_55 : decode cX5_readBoth 55 = .ok (.goto (-43), 3) := by decide +kernel
theorem dX5_readBoth_58 : decode cX5_readBoth 58 = .ok (.iconst 1, 1) := by decide +kernel
theorem dX5_readBoth_59 : decode cX5_readBoth 59 = .ok (.ireturn, 1) := by decide +kernel
set_option maxRecDepth 20000 in
theorem ggX5_readPart_X5_nextSign : GoodIn wsX5_readPart wsX5_nextSign := goodIn_r _ [6, 1, 7, 8, 128, 129, 130, 131, 132, 133, 134, 135] (by decide +kernel) (by decide +kernel)
set_option maxRecDepth 20000 in
theorem gX5_readPart_X5_nextSign : GoodIn wsX5_readPart (wsV RX5 42 RX5 yX5_nextSign wsX5_nextSign) := goodIn_app (goodIn_of _ (by decide +kernel)) ggX5_readPart_X5_nextSign
set_option maxRecDepth 20000 in
theorem ggX5_readPart_X5_readTest : GoodIn wsX5_readPart wsX5_readTest := goodIn_r _ [12, 1, 13, 14, 15, 16, 17, 18, 19, 20, 21, 22, 23, 24, 25, 26, 27, 28, 29, 30, 31, 32, 33, 34, 35, 36, 37, 38, 39, 40, 41, 42, 43, 44, 45, 46, 47, 48, 49, 50, 51, 52, 53, 54, 55, 56, 57, 58, 59, 60, 61, 62, 63, 64, 65, 66, 67, 68, 69, 70, 71, 72, 73, 74, 75, 76, 77, 78, 79, 80, 81, 82, 83, 84, 85, 86, 87, 88, 89, 90, 91, 92, 93, 94, 95, 96, 97, 98, 99, 100, 101, 102, 2, 3, 4, 5, 6, 7, 8, 103, 104, 105, 106, 107, 108, 109, 110, 111, 112, 128, 129, 130, 131, 132, 133, 134, 135] (by decide +kernel) (by decide +kernel)
set_option maxRecDepth 20000 in
theorem gX5_readPart_X5_readTest : GoodIn wsX5_readPart (wsV RX5 100 RX5 yX5_readTest wsX5_readTest) := goodIn_app (goodIn_of _ (by decide +kernel)) ggX5_readPart_X5_readTest
set_option maxRecDepth 20000 in
theorem ggX5_readPart_X5_readEither : GoodIn wsX5_readPart wsX5_readEither := goodIn_r _ [124, 1, 125, 126, 127, 5, 2, 3, 4, 6, 7, 8, 107, 108, 109, 110, 111, 112, 123, 120, 121, 122, 0, 9, 10, 11, 12, 13, 14, 15, 16, 17, 18, 19, 20, 21, 22, 23, 24, 25, 26, 27, 28, 29, 30, 31, 32, 33, 34, 35, 36, 37, 38, 39, 40, 41, 42, 43, 44, 45, 46, 47, 48, 49, 50, 51, 52, 53, 54, 55, 56, 57, 58, 59, 60, 61, 62, 63, 64, 65, 66, 67, 68, 69, 70, 71, 72, 73, 74, 75, 76, 77, 78, 79, 80, 81, 82, 83, 84, 85, 86, 87, 88, 89, 90, 91, 92, 93, 94, 95, 96, 97, 98, 99, 100, 101, 102, 103, 104, 105, 106, 113, 114, 115, 116, 117, 118, 119, 128, 129, 130, 131, 132, 133, 134, 135] (by decide +kernel) (by decide +kernel)
set_option maxRecDepth 20000 in
theorem gX5_readPart_X5_readEither : GoodIn wsX5_readPart (wsV RX5 63 RX5 yX5_readEither wsX5_readEither) := goodIn_app (goodIn_of _ (by decide +kernel)) ggX5_readPart_X5_readEither
set_option maxRecDepth 20000 in
theorem ggX5_readPart_X5_readSign : GoodIn wsX5_readPart wsX5_readSign := goodIn_r _ [119, 1, 2, 3, 4, 5, 6, 7, 8, 128, 129, 130, 131, 132, 133, 134, 135] (by decide +kernel) (by decide +kernel)
set_option maxRecDepth 20000 in
theorem gX5_readPart_X5_readSign : GoodIn wsX5_readPart (wsV RX5 38 RX5 yX5_readSign wsX5_readSign) := goodIn_app (goodIn_of _ (by decide +kernel)) ggX5_readPart_X5_readSign
set_option maxRecDepth 20000 in
theorem ggX5_readPart_X5_readPart : GoodIn wsX5_readPart wsX5_readPart := goodIn_r _ [0, 1, 2, 3, 4, 5, 6, 7, 8, 9, 10, 11, 12, 13, 14, 15, 16, 17, 18, 19, 20, 21, 22, 23, 24, 25, 26, 27, 28, 29, 30, 31, 32, 33, 34, 35, 36, 37, 38, 39, 40, 41, 42, 43, 44, 45, 46, 47, 48, 49, 50, 51, 52, 53, 54, 55, 56, 57, 58, 59, 60, 61, 62, 63, 64, 65, 66, 67, 68, 69, 70, 71, 72, 73, 74, 75, 76, 77, 78, 79, 80, 81, 82, 83, 84, 85, 86, 87, 88, 89, 90, 91, 92, 93, 94, 95, 96, 97, 98, 99, 100, 101, 102, 103, 104, 105, 106, 107, 108, 109, 110, 111, 112, 113, 114, 115, 116, 117, 118, 119, 120, 121, 122, 123, 124, 125, 126, 127, 128, 129, 130, 131, 132, 133, 134, 135] (by decide +kernel) (by decide +kernel)
set_option maxRecDepth 20000 in
theorem gX5_readPart_X5_readPart : GoodIn wsX5_readPart (wsV RX5 97 RX5 yX5_readPart wsX5_readPart) := goodIn_app (goodIn_of _ (by decide +kernel)) ggX5_readPart_X5_readPart
set_option maxRecDepth 20000 in
theorem ggX5_readPart_X5_addStep : GoodIn wsX5_readPart wsX5_addStep := goodIn_r _ [110, 111, 112, 128, 129, 130, 131, 132, 133, 134, 135] (by decide +kernel) (by decide +kernel)
set_option maxRecDepth 20000 in
theorem gX5_readPart_X5_addStep : GoodIn wsX5_readPart (wsV RX5 68 RX5 yX5_addStep wsX5_addStep) := goodIn_app (goodIn_of _ (by decide +kernel)) ggX5_readPart_X5_addStep
theorem dX5_readPart_0 : decode cX5_readPart 0 = .ok (.aload_n 0, 1) := by decide +kernel
theorem dX5_readPart_1 : decode cX5_readPart 1 = .ok (.invokevirtual 42, 3) := by decide +kernel
theorem dX5_readPart_4 : decode cX5_readPart 4 = .ok (.istore_n 2, 1) := by decide +kernel
theorem dX5_readPart_5 : decode cX5_readPart 5 = .ok (.iload_n 2, 1) := by decide +kernel
theorem dX5_readPart_6 : decode cX5_readPart 6 = .ok (.bipush 33, 2) := by decide +kernel
theorem dX5_readPart_8 : decode cX5_readPart 8 = .ok (.if_icmp .eq 15, 3) := by decide +kernel
theorem dX5_readPart_11 : decode cX5_readPart 11 = .ok (.iload_n 2, 1) := by decide +kernel
theorem dX5_readPart_12 : decode cX5_readPart 12 = .ok (.bipush 40, 2) := by decide +kernel
theorem dX5_readPart_14 : decode cX5_readPart 14 = .ok (.if_icmp .eq 9, 3) := by decide +kernel
theorem dX5_readPart_17 : decode cX5_readPart 17 = .ok (.aload_n 0, 1) := by decide +kernel
theorem dX5_readPart_18 : decode cX5_readPart 18 = .ok (.iload_n 2, 1) := by decide +kernel
theorem dX5_readPart_19 : decode cX5_readPart 19 = .ok (.invokevirtual 100, 3) := by decide +kernel
theorem dX5_readPart_22 : decode cX5_readPart 22 = .ok (.ireturn, 1) := by decide +kernel
theorem dX5_readPart_23 : decode cX5_readPart 23 = .ok (.iload_n 1, 1) := by decide +kernel
theorem dX5_readPart_24 : decode cX5_readPart 24 = .ok (.iconst 4, 1) := by decide +kernel
theorem dX5_readPart_25 : decode cX5_readPart 25 = .ok (.if_icmp .lt 5, 3) := by decide +kernel
theorem dX5_readPart_28 : decode cX5_readPart 28 = .ok (.iconst 0, 1) := by decide +kernel
theorem dX5_readPart_29 : decode cX5_readPart 29 = .ok (.ireturn, 1) := by decide +kernel
theorem dX5_readPart_30 : decode cX5_readPart 30 = .ok (.aload_n 0, 1) := by decide +kernel
theorem dX5_readPart_31 : decode cX5_readPart 31 = .ok (.dup, 1) := by decide +kernel
theorem dX5_readPart_32 : decode cX5_readPart 32 = .ok (.getfield 22, 3) := by decide +kernel
theorem dX5_readPart_35 : decode cX5_readPart 35 = .ok (.iconst 1, 1) := by decide +kernel
theorem dX5_readPart_36 : decode cX5_readPart 36 = .ok (.iadd, 1) := by decide +kernel
theorem dX5_readPart_37 : decode cX5_readPart 37 = .ok (.putfield 22, 3) := by decide +kernel
theorem dX5_readPart_40 : decode cX5_readPart 40 = .ok (.iload_n 2, 1) := by decide +kernel
theorem dX5_readPart_41 : decode cX5_readPart 41 = .ok (.bipush 40, 2) := by decide +kernel
theorem dX5_readPart_43 : decode cX5_readPart 43 = .ok (.if_icmp .ne 28, 3) := by decide +kernel
theorem dX5_readPart_46 : decode cX5_readPart 46 = .ok (.aload_n 0, 1) := by decide +kernel
theorem dX5_readPart_47 : decode cX5_readPart 47 = .ok (.iload_n 1, 1) := by decide +kernel
theorem dX5_readPart_48 : decode cX5_readPart 48 = .ok (.iconst 1, 1) := by decide +kernel
theorem dX5_readPart_49 : decode cX5_readPart 49 = .ok (.iadd, 1) := by decide +kernel
theorem dX5_readPart_50 : decode cX5_readPart 50 = .ok (.invokevirtual 63, 3) := by decide +kernel
theorem dX5_readPart_53 : decode cX5_readPart 53 = .ok (.ifCond .eq 16, 3) := by decide +kernel
theorem dX5_readPart_56 : decode cX5_readPart 56 = .ok (.aload_n 0, 1) := by decide +kernel
theorem dX5_readPart_57 : decode cX5_readPart 57 = .ok (.bipush 41, 2) := by decide +kernel
theorem dX5_readPart_59 : decode cX5_readPart 59 = .ok (.invokevirtual 38, 3) := by decide +kernel
theorem dX5_readPart_62 : decode cX5_readPart 62 = .ok (.ifCond .eq 7, 3) := by decide +kernel
theorem dX5_readPart_65 : decode cX5_readPart 65 = .ok (.iconst 1, 1) := by decide +kernel
theorem dX5_readPart_66 : decode cX5_readPart 66 = .ok (.goto 4, 3) := by decide +kernel
theorem dX5_readPart_69 : decode cX5_readPart 69 = .ok (.iconst 0, 1) := by decide +kernel
theorem dX5_readPart_70 : decode cX5_readPart 70 = .ok (.ireturn, 1) := by decide +kernel
theorem dX5_readPart_71 : decode cX5_readPart 71 = .ok (.aload_n 0, 1) := by decide +kernel
theorem dX5_readPart_72 : decode cX5_readPart 72 = .ok (.iload_n 1, 1) := by decide +kernel
theorem dX5_readPart_73 : decode cX5_readPart 73 = .ok (.iconst 1, 1) := by decide +kernel
theorem dX5_readPart_74 : decode cX5_readPart 74 = .ok (.iadd, 1) := by decide +kernel
theorem dX5_readPart_75 : decode cX5_readPart 75 = .ok (.invokevirtual 97, 3) := by decide +kernel
theorem dX5_readPart_78 : decode cX5_readPart 78 = .ok (.ifCond .ne 5, 3) := by decide +kernel
theorem dX5_readPart_81 : decode cX5_readPart 81 = .ok (.iconst 0, 1) := by decide +kernel
theorem dX5_readPart_82 : decode cX5_readPart 82 = .ok (.ireturn, 1) := by decide +kernel
theorem dX5_readPart_83 : decode cX5_readPart 83 = .ok (.aload_n 0, 1) := by decide +kernel
theorem dX5_readPart_84 : decode cX5_readPart 84 = .ok (.iconst 1, 1) := by decide +kernel
theorem dX5_readPart_85 : decode cX5_readPart 85 = .ok (.invokevirtual 68, 3) := by decide +kernel
theorem dX5_readPart_88 : decode cX5_readPart 88 = .ok (.iconst 1, 1) := by decide +kernel
theorem dX5_readPart_89 : decode cX5_readPart 89 = .ok (.ireturn, 1) := by decide +kernel
set_option maxRecDepth 20000 in
theorem ggX5_readTest_J0_indexOf_0f7a4 : GoodIn wsX5_readTest wsJ0_indexOf_0f7a4 := goodIn_r _ [7, 8, 9, 10, 6, 11, 12, 13, 14, 15, 16, 17, 18, 19, 20, 21, 22, 23, 24, 25, 26, 27, 28, 29, 30, 31, 32, 33, 34, 35, 36, 37, 38, 39, 40, 41, 42, 43, 44, 45, 46, 47, 48, 49, 50, 51, 52, 53, 54, 55, 56, 57, 58, 59, 60, 61, 62, 63, 64, 65, 66, 67, 68, 69, 70, 71, 72, 73, 74, 75, 76, 77, 78, 79, 80, 81, 82, 83, 84, 85, 86, 87, 88, 89, 90, 91] (by decide +kernel) (by decide +kernel)
set_option maxRecDepth 20000 in
theorem gX5_readTest_J0_indexOf_0f7a4 : GoodIn wsX5_readTest (wsV RX5 105 RJ0 yJ0_indexOf_0f7a4 wsJ0_indexOf_0f7a4) := goodIn_app (goodIn_of _ (by decide +kernel)) ggX5_readTest_J0_indexOf_0f7a4
set_option maxRecDepth 20000 in
theorem ggX5_readTest_X5_nextSign : GoodIn wsX5_readTest wsX5_nextSign := goodIn_r _ [96, 1, 97, 98, 109, 110, 111, 112, 113, 114, 115, 116] (by decide +kernel) (by decide +kernel)
set_option maxRecDepth 20000 in
theorem gX5_readTest_X5_nextSign : GoodIn wsX5_readTest (wsV RX5 42 RX5 yX5_nextSign wsX5_nextSign) := goodIn_app (goodIn_of _ (by decide +kernel)) ggX5_readTest_X5_nextSign
set_option maxRecDepth 20000 in
theorem ggX5_readTest_X5_readNumber : GoodIn wsX5_readTest wsX5_readNumber := goodIn_r _ [102, 2, 1, 97, 98, 109, 110, 111, 112, 113, 114, 115, 116] (by decide +kernel) (by decide +kernel)
set_option maxRecDepth 20000 in
theorem gX5_readTest_X5_readNumber : GoodIn wsX5_readTest (wsV RX5 91 RX5 yX5_readNumber wsX5_readNumber) := goodIn_app (goodIn_of _ (by decide +kernel)) ggX5_readTest_X5_readNumber
set_option maxRecDepth 20000 in
theorem ggX5_readTest_X5_addStep : GoodIn wsX5_readTest wsX5_addStep := goodIn_r _ [106, 107, 108, 109, 110, 111, 112, 113, 114, 115, 116] (by decide +kernel) (by decide +kernel)
set_option maxRecDepth 20000 in
theorem gX5_readTest_X5_addStep : GoodIn wsX5_readTest (wsV RX5 68 RX5 yX5_addStep wsX5_addStep) := goodIn_app (goodIn_of _ (by decide +kernel)) ggX5_readTest_X5_addStep
theorem dX5_readTest_0 : decode cX5_readTest 0 = .ok (.iload_n 1, 1) := by decide +kernel
theorem dX5_readTest_1 : decode cX5_readTest 1 = .ok (.ifCond .ge 7, 3) := by decide +kernel
theorem dX5_readTest_4 : decode cX5_readTest 4 = .ok (.iconst (-1), 1) := by decide +kernel
theorem dX5_readTest_5 : decode cX5_readTest 5 = .ok (.goto 10, 3) := by decide +kernel
theorem dX5_readTest_8 : decode cX5_readTest 8 = .ok (.ldc 103, 2) := by decide +kernel
theorem dX5_readTest_10 : decode cX5_readTest 10 = .ok (.iload_n 1, 1) := by decide +kernel
theorem dX5_readTest_11 : decode cX5_readTest 11 = .ok (.i2c, 1) := by decide +kernel
theorem dX5_readTest_12 : decode cX5_readTest 12 = .ok (.invokevirtual 105, 3) := by decide +kernel
theorem dX5_readTest_15 : decode cX5_readTest 15 = .ok (.istore_n 2, 1) := by decide +kernel
theorem dX5_readTest_16 : decode cX5_readTest 16 = .ok (.iload_n 2, 1) := by decide +kernel
theorem dX5_readTest_17 : decode cX5_readTest 17 = .ok (.ifCond .ge 5, 3) := by decide +kernel
theorem dX5_readTest_20 : decode cX5_readTest 20 = .ok (.iconst 0, 1) := by decide +kernel
theorem dX5_readTest_21 : decode cX5_readTest 21 = .ok (.ireturn, 1) := by decide +kernel
theorem dX5_readTest_22 : decode cX5_readTest 22 = .ok (.aload_n 0, 1) := by decide +kernel
theorem dX5_readTest_23 : decode cX5_readTest 23 = .ok (.dup, 1) := by decide +kernel
theorem dX5_readTest_24 : decode cX5_readTest 24 = .ok (.getfield 22, 3) := by decide +kernel
theorem dX5_readTest_27 : decode cX5_readTest 27 = .ok (.iconst 1, 1) := by decide +kernel
theorem dX5_readTest_28 : decode cX5_readTest 28 = .ok (.iadd, 1) := by decide +kernel
theorem dX5_readTest_29 : decode cX5_readTest 29 = .ok (.putfield 22, 3) := by decide +kernel
theorem dX5_readTest_32 : decode cX5_readTest 32 = .ok (.aload_n 0, 1) := by decide +kernel
theorem dX5_readTest_33 : decode cX5_readTest 33 = .ok (.invokevirtual 42, 3) := by decide +kernel
theorem dX5_readTest_36 : decode cX5_readTest 36 = .ok (.istore_n 3, 1) := by decide +kernel
theorem dX5_readTest_37 : decode cX5_readTest 37 = .ok (.iload_n 3, 1) := by decide +kernel
theorem dX5_readTest_38 : decode cX5_readTest 38 = .ok (.ifCond .ge 7, 3) := by decide +kernel
theorem dX5_readTest_41 : decode cX5_readTest 41 = .ok (.iconst (-1), 1) := by decide +kernel
theorem dX5_readTest_42 : decode cX5_readTest 42 = .ok (.goto 10, 3) := by decide +kernel
theorem dX5_readTest_45 : decode cX5_readTest 45 = .ok (.ldc 109, 2) := by decide +kernel
theorem dX5_readTest_47 : decode cX5_readTest 47 = .ok (.iload_n 3, 1) := by decide +kernel
theorem dX5_readTest_48 : decode cX5_readTest 48 = .ok (.i2c, 1) := by decide +kernel
theorem dX5_readTest_49 : decode cX5_readTest 49 = .ok (.invokevirtual 105, 3) := by decide +kernel
theorem dX5_readTest_52 : decode cX5_readTest 52 = .ok (.istore 4, 2) := by decide +kernel
theorem dX5_readTest_54 : decode cX5_readTest 54 = .ok (.iload 4, 2) := by decide +kernel
theorem dX5_readTest_56 : decode cX5_readTest 56 = .ok (.ifCond .ge 5, 3) := by decide +kernel
theorem dX5_readTest_59 : decode cX5_readTest 59 = .ok (.iconst 0, 1) := by decide +kernel
theorem dX5_readTest_60 : decode cX5_readTest 60 = .ok (.ireturn, 1) := by decide +kernel
theorem dX5_readTest_61 : decode cX5_readTest 61 = .ok (.aload_n 0, 1) := by decide +kernel
theorem dX5_readTest_62 : decode cX5_readTest 62 = .ok (.dup, 1) := by decide +kernel
theorem dX5_readTest_63 : decode cX5_readTest 63 = .ok (.getfield 22, 3) := by decide +kernel
theorem dX5_readTest_66 : decode cX5_readTest 66 = .ok (.iconst 1, 1) := by decide +kernel
theorem dX5_readTest_67 : decode cX5_readTest 67 = .ok (.iadd, 1) := by decide +kernel
theorem dX5_readTest_68 : decode cX5_readTest 68 = .ok (.putfield 22, 3) := by decide +kernel
theorem dX5_readTest_71 : decode cX5_readTest 71 = .ok (.aload_n 0, 1) := by decide +kernel
theorem dX5_readTest_72 : decode cX5_readTest 72 = .ok (.invokevirtual 91, 3) := by decide +kernel
theorem dX5_readTest_75 : decode cX5_readTest 75 = .ok (.ifCond .ne 5, 3) := by decide +kernel
theorem dX5_readTest_78 : decode cX5_readTest 78 = .ok (.iconst 0, 1) := by decide +kernel
theorem dX5_readTest_79 : decode cX5_readTest 79 = .ok (.ireturn, 1) := by decide +kernel
theorem dX5_readTest_80 : decode cX5_readTest 80 = .ok (.aload_n 0, 1) := by decide +kernel
theorem dX5_readTest_81 : decode cX5_readTest 81 = .ok (.sipush 1000, 3) := by decide +kernel
theorem dX5_readTest_84 : decode cX5_readTest 84 = .ok (.iload_n 2, 1) := by decide +kernel
theorem dX5_readTest_85 : decode cX5_readTest 85 = .ok (.sipush 1000, 3) := by decide +kernel
theorem dX5_readTest_88 : decode cX5_readTest 88 = .ok (.imul, 1) := by decide +kernel
theorem dX5_readTest_89 : decode cX5_readTest 89 = .ok (.iadd, 1) := by decide +kernel
theorem dX5_readTest_90 : decode cX5_readTest 90 = .ok (.iload 4, 2) := by decide +kernel
theorem dX5_readTest_92 : decode cX5_readTest 92 = .ok (.bipush 100, 2) := by decide +kernel
theorem dX5_readTest_94 : decode cX5_readTest 94 = .ok (.imul, 1) := by decide +kernel
theorem dX5_readTest_95 : decode cX5_readTest 95 = .ok (.iadd, 1) := by decide +kernel
theorem dX5_readTest_96 : decode cX5_readTest 96 = .ok (.aload_n 0, 1) := by decide +kernel
theorem dX5_readTest_97 : decode cX5_readTest 97 = .ok (.getfield 54, 3) := by decide +kernel
theorem dX5_readTest_100 : decode cX5_readTest 100 = .ok (.iadd, 1) := by decide +kernel
theorem dX5_readTest_101 : decode cX5_readTest 101 = .ok (.invokevirtual 68, 3) := by decide +kernel
theorem dX5_readTest_104 : decode cX5_readTest 104 = .ok (.iconst 1, 1) := by decide +kernel
theorem dX5_readTest_105 : decode cX5_readTest 105 = .ok (.ireturn, 1) := by decide +kernel
theorem dX5_readNumber_0 : decode cX5_readNumber 0 = .ok (.iconst 0, 1) := by decide +kernel
theorem dX5_readNumber_1 : decode cX5_readNumber 1 = .ok (.istore_n 1, 1) := by decide +kernel
theorem dX5_readNumber_2 : decode cX5_readNumber 2 = .ok (.aload_n 0, 1) := by decide +kernel
theorem dX5_readNumber_3 : decode cX5_readNumber 3 = .ok (.iconst 0, 1) := by decide +kernel
theorem dX5_readNumber_4 : decode cX5_readNumber 4 = .ok (.putfield 54, 3) := by decide +kernel
theorem dX5_readNumber_7 : decode cX5_readNumber 7 = .ok (.iload_n 1, 1) := by decide +kernel
theorem dX5_readNumber_8 : decode cX5_readNumber 8 = .ok (.iconst 2, 1) := by decide +kernel
theorem dX5_readNumber_9 : decode cX5_readNumber 9 = .ok (.if_icmp .ge 82, 3) := by decide +kernel
theorem dX5_readNumber_12 : decode cX5_readNumber 12 = .ok (.aload_n 0, 1) := by decide +kernel
theorem dX5_readNumber_13 : decode cX5_readNumber 13 = .ok (.getfield 22, 3) := by decide +kernel
theorem dX5_readNumber_16 : decode cX5_readNumber 16 = .ok (.aload_n 0, 1) := by decide +kernel
theorem dX5_readNumber_17 : decode cX5_readNumber 17 = .ok (.getfield 18, 3) := by decide +kernel
theorem dX5_readNumber_20 : decode cX5_readNumber 20 = .ok (.if_icmp .ge 71, 3) := by decide +kernel
theorem dX5_readNumber_23 : decode cX5_readNumber 23 = .ok (.aload_n 0, 1) := by decide +kernel
theorem dX5_readNumber_24 : decode cX5_readNumber 24 = .ok (.getfield 11, 3) := by decide +kernel
theorem dX5_readNumber_27 : decode cX5_readNumber 27 = .ok (.aload_n 0, 1) := by decide +kernel
theorem dX5_readNumber_28 : decode cX5_readNumber 28 = .ok (.getfield 22, 3) := by decide +kernel
theorem dX5_readNumber_31 : decode cX5_readNumber 31 = .ok (.iaload, 1) := by decide +kernel
theorem dX5_readNumber_32 : decode cX5_readNumber 32 = .ok (.bipush 48, 2) := by decide +kernel
theorem dX5_readNumber_34 : decode cX5_readNumber 34 = .ok (.if_icmp .lt 57, 3) := by decide +kernel
theorem dX5_readNumber_37 : decode cX5_readNumber 37 = .ok (.aload_n 0, 1) := by decide +kernel
theorem dX5_readNumber_38 : decode cX5_readNumber 38 = .ok (.getfield 11, 3) := by decide +kernel
theorem dX5_readNumber_41 : decode cX5_readNumber 41 = .ok (.aload_n 0, 1) := by decide +kernel
theorem dX5_readNumber_42 : decode cX5_readNumber 42 = .ok (.getfield 22, 3) := by decide +kernel
theorem dX5_readNumber_45 : decode cX5_readNumber 45 = .ok (.iaload, 1) := by decide +kernel
theorem dX5_readNumber_46 : decode cX5_readNumber 46 = .ok (.bipush 57, 2) := by decide +kernel
theorem dX5_readNumber_48 : decode cX5_readNumber 48 = .ok (.if_icmp .gt 43, 3) := by decide +kernel
theorem dX5_readNumber_51 : decode cX5_readNumber 51 = .ok (.aload_n 0, 1) := by decide +kernel
theorem dX5_readNumber_52 : decode cX5_readNumber 52 = .ok (.aload_n 0, 1) := by decide +kernel
theorem dX5_readNumber_53 : decode cX5_readNumber 53 = .ok (.getfield 54, 3) := by decide +kernel
theorem dX5_readNumber_56 : decode cX5_readNumber 56 = .ok (.bipush 10, 2) := by decide +kernel
theorem dX5_readNumber_58 : decode cX5_readNumber 58 = .ok (.imul, 1) := by decide +kernel
theorem dX5_readNumber_59 : decode cX5_readNumber 59 = .ok (.aload_n 0, 1) := by decide +kernel
theorem dX5_readNumber_60 : decode cX5_readNumber 60 = .ok (.getfield 11, 3) := by decide +kernel
theorem dX5_readNumber_63 : decode cX5_readNumber 63 = .ok (.aload_n 0, 1) := by decide +kernel
theorem dX5_readNumber_64 : decode cX5_readNumber 64 = .ok (.getfield 22, 3) := by decide +kernel
theorem dX5_readNumber_67 : decode cX5_readNumber 67 = .ok (.iaload, 1) := by decide +kernel
theorem dX5_readNumber_68 : decode cX5_readNumber 68 = .ok (.iadd, 1) := by decide +kernel
theorem dX5_readNumber_69 : decode cX5_readNumber 69 = .ok (.bipush 48, 2) := by decide +kernel
theorem dX5_readNumber_71 : decode cX5_readNumber 71 = .ok (.isub, 1) := by decide +kernel
theorem dX5_readNumber_72 : decode cX5_readNumber 72 = .ok (.putfield 54, 3) := by decide +kernel
theorem dX5_readNumber_75 : decode cX5_readNumber 75 = .ok (.aload_n 0, 1) := by decide +kernel
theorem dX5_readNumber_76 : decode cX5_readNumber 76 = .ok (.dup, 1) := by decide +kernel
theorem dX5_readNumber_77 : decode cX5_readNumber 77 = .ok (.getfield 22, 3) := by decide +kernel
theorem dX5_readNumber_80 : decode cX5_readNumber 80 = .ok (.iconst 1, 1) := by decide +kernel
theorem dX5_readNumber_81 : decode cX5_readNumber 81 = .ok (.iadd, 1) := by decide +kernel
theorem dX5_readNumber_82 : decode cX5_readNumber 82 = .ok (.putfield 22, 3) := by decide +kernel
theorem dX5_readNumber_85 : decode cX5_readNumber 85 = .ok (.iinc 1 1, 3) := by decide +kernel
theorem dX5_readNumber_88 : decode cX5_readNumber 88 = .ok (.goto (-81), 3) := by decide +kernel
theorem dX5_readNumber_91 : decode cX5_readNumber 91 = .ok (.iload_n 1, 1) := by decide +kernel
theorem dX5_readNumber_92 : decode cX5_readNumber 92 = .ok (.ifCond .le 7, 3) := by decide +kernel
theorem dX5_readNumber_95 : decode cX5_readNumber 95 = .ok (.iconst 1, 1) := by decide +kernel
theorem dX5_readNumber_96 : decode cX5_readNumber 96 = .ok (.goto 4, 3) := by decide +kernel
theorem dX5_readNumber_99 : decode cX5_readNumber 99 = .ok (.iconst 0, 1) := by decide +kernel
theorem dX5_readNumber_100 : decode cX5_readNumber 100 = .ok (.ireturn, 1) := by decide +kernel
theorem dX5_nextSign_0 : decode cX5_nextSign 0 = .ok (.aload_n 0, 1) := by decide +kernel
theorem dX5_nextSign_1 : decode cX5_nextSign 1 = .ok (.getfield 22, 3) := by decide +kernel
theorem dX5_nextSign_4 : decode cX5_nextSign 4 = .ok (.ifCond .lt 35, 3) := by decide +kernel
theorem dX5_nextSign_7 : decode cX5_nextSign 7 = .ok (.aload_n 0, 1) := by decide +kernel
theorem dX5_nextSign_8 : decode cX5_nextSign 8 = .ok (.getfield 22, 3) := by decide +kernel
theorem dX5_nextSign_11 : decode cX5_nextSign 11 = .ok (.aload_n 0, 1) := by decide +kernel
theorem dX5_nextSign_12 : decode cX5_nextSign 12 = .ok (.getfield 18, 3) := by decide +kernel
theorem dX5_nextSign_15 : decode cX5_nextSign 15 = .ok (.if_icmp .ge 24, 3) := by decide +kernel
theorem dX5_nextSign_18 : decode cX5_nextSign 18 = .ok (.aload_n 0, 1) := by decide +kernel
theorem dX5_nextSign_19 : decode cX5_nextSign 19 = .ok (.getfield 22, 3) := by decide +kernel
theorem dX5_nextSign_22 : decode cX5_nextSign 22 = .ok (.bipush 100, 2) := by decide +kernel
theorem dX5_nextSign_24 : decode cX5_nextSign 24 = .ok (.if_icmp .ge 15, 3) := by decide +kernel
theorem dX5_nextSign_27 : decode cX5_nextSign 27 = .ok (.aload_n 0, 1) := by decide +kernel
theorem dX5_nextSign_28 : decode cX5_nextSign 28 = .ok (.getfield 11, 3) := by decide +kernel
theorem dX5_nextSign_31 : decode cX5_nextSign 31 = .ok (.aload_n 0, 1) := by decide +kernel
theorem dX5_nextSign_32 : decode cX5_nextSign 32 = .ok (.getfield 22, 3) := by decide +kernel
theorem dX5_nextSign_35 : decode cX5_nextSign 35 = .ok (.iaload, 1) := by decide +kernel
theorem dX5_nextSign_36 : decode cX5_nextSign 36 = .ok (.goto 4, 3) := by decide +kernel
theorem dX5_nextSign_39 : decode cX5_nextSign 39 = .ok (.iconst (-1), 1) := by decide +kernel
theorem dX5_nextSign_40 : decode cX5_nextSign 40 = .ok (.ireturn, 1) := by decide +kernel
set_option maxRecDepth 20000 in
theorem ggX5_readSign_X5_nextSign : GoodIn wsX5_readSign wsX5_nextSign := goodIn_r _ [6, 1, 7, 8, 9, 10, 11, 12, 13, 14, 15, 16] (by decide +kernel) (by decide +kernel)
set_option maxRecDepth 20000 in
theorem gX5_readSign_X5_nextSign : GoodIn wsX5_readSign (wsV RX5 42 RX5 yX5_nextSign wsX5_nextSign) := goodIn_app (goodIn_of _ (by decide +kernel)) ggX5_readSign_X5_nextSign
theorem dX5_readSign_0 : decode cX5_readSign 0 = .ok (.aload_n 0, 1) := by decide +kernel
theorem dX5_readSign_1 : decode cX5_readSign 1 = .ok (.invokevirtual 42, 3) := by decide +kernel
theorem dX5_readSign_4 : decode cX5_readSign 4 = .ok (.iload_n 1, 1) := by decide +kernel
theorem dX5_readSign_5 : decode cX5_readSign 5 = .ok (.if_icmp .eq 5, 3) := by decide +kernel
theorem dX5_readSign_8 : decode cX5_readSign 8 = .ok (.iconst 0, 1) := by decide +kernel
theorem dX5_readSign_9 : decode cX5_readSign 9 = .ok (.ireturn, 1) := by decide +kernel
theorem dX5_readSign_10 : decode cX5_readSign 10 = .ok (.aload_n 0, 1) := by decide +kernel
theorem dX5_readSign_11 : decode cX5_readSign 11 = .ok (.dup, 1) := by decide +kernel
theorem dX5_readSign_12 : decode cX5_readSign 12 = .ok (.getfield 22, 3) := by decide +kernel
theorem dX5_readSign_15 : decode cX5_readSign 15 = .ok (.iconst 1, 1) := by decide +kernel
theorem dX5_readSign_16 : decode cX5_readSign 16 = .ok (.iadd, 1) := by decide +kernel
theorem dX5_readSign_17 : decode cX5_readSign 17 = .ok (.putfield 22, 3) := by decide +kernel
theorem dX5_readSign_20 : decode cX5_readSign 20 = .ok (.iconst 1, 1) := by decide +kernel
theorem dX5_readSign_21 : decode cX5_readSign 21 = .ok (.ireturn, 1) := by decide +kernel
theorem dX5_addStep_0 : decode cX5_addStep 0 = .ok (.aload_n 0, 1) := by decide +kernel
theorem dX5_addStep_1 : decode cX5_addStep 1 = .ok (.getfield 25, 3) := by decide +kernel
theorem dX5_addStep_4 : decode cX5_addStep 4 = .ok (.bipush 100, 2) := by decide +kernel
theorem dX5_addStep_6 : decode cX5_addStep 6 = .ok (.if_icmp .ge 23, 3) := by decide +kernel
theorem dX5_addStep_9 : decode cX5_addStep 9 = .ok (.aload_n 0, 1) := by decide +kernel
theorem dX5_addStep_10 : decode cX5_addStep 10 = .ok (.getfield 15, 3) := by decide +kernel
theorem dX5_addStep_13 : decode cX5_addStep 13 = .ok (.aload_n 0, 1) := by decide +kernel
theorem dX5_addStep_14 : decode cX5_addStep 14 = .ok (.getfield 25, 3) := by decide +kernel
theorem dX5_addStep_17 : decode cX5_addStep 17 = .ok (.iload_n 1, 1) := by decide +kernel
theorem dX5_addStep_18 : decode cX5_addStep 18 = .ok (.iastore, 1) := by decide +kernel
theorem dX5_addStep_19 : decode cX5_addStep 19 = .ok (.aload_n 0, 1) := by decide +kernel
theorem dX5_addStep_20 : decode cX5_addStep 20 = .ok (.dup, 1) := by decide +kernel
theorem dX5_addStep_21 : decode cX5_addStep 21 = .ok (.getfield 25, 3) := by decide +kernel
theorem dX5_addStep_24 : decode cX5_addStep 24 = .ok (.iconst 1, 1) := by decide +kernel
theorem dX5_addStep_25 : decode cX5_addStep 25 = .ok (.iadd, 1) := by decide +kernel
theorem dX5_addStep_26 : decode cX5_addStep 26 = .ok (.putfield 25, 3) := by decide +kernel
theorem dX5_addStep_29 : decode cX5_addStep 29 = .ok (.return_, 1) := by decide +kernel
theorem dX6_init_0 : decode cX6_init 0 = .ok (.aload_n 0, 1) := by decide +kernel
theorem dX6_init_1 : decode cX6_init 1 = .ok (.invokespecial 1, 3) := by decide +kernel
theorem dX6_init_4 : decode cX6_init 4 = .ok (.aload_n 0, 1) := by decide +kernel
theorem dX6_init_5 : decode cX6_init 5 = .ok (.bipush 6, 2) := by decide +kernel
theorem dX6_init_7 : decode cX6_init 7 = .ok (.newarray .int, 2) := by decide +kernel
theorem dX6_init_9 : decode cX6_init 9 = .ok (.dup, 1) := by decide +kernel
theorem dX6_init_10 : decode cX6_init 10 = .ok (.iconst 0, 1) := by decide +kernel
theorem dX6_init_11 : decode cX6_init 11 = .ok (.iconst (-1), 1) := by decide +kernel
theorem dX6_init_12 : decode cX6_init 12 = .ok (.iastore, 1) := by decide +kernel
theorem dX6_init_13 : decode cX6_init 13 = .ok (.dup, 1) := by decide +kernel
theorem dX6_init_14 : decode cX6_init 14 = .ok (.iconst 1, 1) := by decide +kernel
theorem dX6_init_15 : decode cX6_init 15 = .ok (.iconst (-1), 1) := by decide +kernel
theorem dX6_init_16 : decode cX6_init 16 = .ok (.iastore, 1) := by decide +kernel
theorem dX6_init_17 : decode cX6_init 17 = .ok (.dup, 1) := by decide +kernel
theorem dX6_init_18 : decode cX6_init 18 = .ok (.iconst 2, 1) := by decide +kernel
theorem dX6_init_19 : decode cX6_init 19 = .ok (.iconst (-1), 1) := by decide +kernel
theorem dX6_init_20 : decode cX6_init 20 = .ok (.iastore, 1) := by decide +kernel
theorem dX6_init_21 : decode cX6_init 21 = .ok (.dup, 1) := by decide +kernel
theorem dX6_init_22 : decode cX6_init 22 = .ok (.iconst 3, 1) := by decide +kernel
theorem dX6_init_23 : decode cX6_init 23 = .ok (.iconst (-1), 1) := by decide +kernel
theorem dX6_init_24 : decode cX6_init 24 = .ok (.iastore, 1) := by decide +kernel
theorem dX6_init_25 : decode cX6_init 25 = .ok (.dup, 1) := by decide +kernel
theorem dX6_init_26 : decode cX6_init 26 = .ok (.iconst 4, 1) := by decide +kernel
theorem dX6_init_27 : decode cX6_init 27 = .ok (.iconst (-1), 1) := by decide +kernel
theorem dX6_init_28 : decode cX6_init 28 = .ok (.iastore, 1) := by decide +kernel
theorem dX6_init_29 : decode cX6_init 29 = .ok (.dup, 1) := by decide +kernel
theorem dX6_init_30 : decode cX6_init 30 = .ok (.iconst 5, 1) := by decide +kernel
theorem dX6_init_31 : decode cX6_init 31 = .ok (.iconst (-1), 1) := by decide +kernel
theorem dX6_init_32 : decode cX6_init 32 = .ok (.iastore, 1) := by decide +kernel
theorem dX6_init_33 : decode cX6_init 33 = .ok (.putfield 9, 3) := by decide +kernel
theorem dX6_init_36 : decode cX6_init 36 = .ok (.aload_n 0, 1) := by decide +kernel
theorem dX6_init_37 : decode cX6_init 37 = .ok (.bipush 6, 2) := by decide +kernel
theorem dX6_init_39 : decode cX6_init 39 = .ok (.newarray .int, 2) := by decide +kernel
theorem dX6_init_41 : decode cX6_init 41 = .ok (.putfield 13, 3) := by decide +kernel
theorem dX6_init_44 : decode cX6_init 44 = .ok (.aload_n 0, 1) := by decide +kernel
theorem dX6_init_45 : decode cX6_init 45 = .ok (.sipush 360, 3) := by decide +kernel
theorem dX6_init_48 : decode cX6_init 48 = .ok (.newarray .long, 2) := by decide +kernel
theorem dX6_init_50 : decode cX6_init 50 = .ok (.putfield 16, 3) := by decide +kernel
theorem dX6_init_53 : decode cX6_init 53 = .ok (.return_, 1) := by decide +kernel
theorem dX6_hasTape_0 : decode cX6_hasTape 0 = .ok (.iload_n 1, 1) := by decide +kernel
theorem dX6_hasTape_1 : decode cX6_hasTape 1 = .ok (.ifCond .lt 13, 3) := by decide +kernel
theorem dX6_hasTape_4 : decode cX6_hasTape 4 = .ok (.iload_n 1, 1) := by decide +kernel
theorem dX6_hasTape_5 : decode cX6_hasTape 5 = .ok (.bipush 6, 2) := by decide +kernel
theorem dX6_hasTape_7 : decode cX6_hasTape 7 = .ok (.if_icmp .ge 7, 3) := by decide +kernel
theorem dX6_hasTape_10 : decode cX6_hasTape 10 = .ok (.iconst 1, 1) := by decide +kernel
theorem dX6_hasTape_11 : decode cX6_hasTape 11 = .ok (.goto 4, 3) := by decide +kernel
theorem dX6_hasTape_14 : decode cX6_hasTape 14 = .ok (.iconst 0, 1) := by decide +kernel
theorem dX6_hasTape_15 : decode cX6_hasTape 15 = .ok (.ireturn, 1) := by decide +kernel
theorem dX6_hasPlace_0 : decode cX6_hasPlace 0 = .ok (.iload_n 2, 1) := by decide +kernel
theorem dX6_hasPlace_1 : decode cX6_hasPlace 1 = .ok (.ifCond .lt 17, 3) := by decide +kernel
theorem dX6_hasPlace_4 : decode cX6_hasPlace 4 = .ok (.iload_n 2, 1) := by decide +kernel
theorem dX6_hasPlace_5 : decode cX6_hasPlace 5 = .ok (.aload_n 0, 1) := by decide +kernel
theorem dX6_hasPlace_6 : decode cX6_hasPlace 6 = .ok (.getfield 13, 3) := by decide +kernel
theorem dX6_hasPlace_9 : decode cX6_hasPlace 9 = .ok (.iload_n 1, 1) := by decide +kernel
theorem dX6_hasPlace_10 : decode cX6_hasPlace 10 = .ok (.iaload, 1) := by decide +kernel
theorem dX6_hasPlace_11 : decode cX6_hasPlace 11 = .ok (.if_icmp .ge 7, 3) := by decide +kernel
theorem dX6_hasPlace_14 : decode cX6_hasPlace 14 = .ok (.iconst 1, 1) := by decide +kernel
theorem dX6_hasPlace_15 : decode cX6_hasPlace 15 = .ok (.goto 4, 3) := by decide +kernel
theorem dX6_hasPlace_18 : decode cX6_hasPlace 18 = .ok (.iconst 0, 1) := by decide +kernel
theorem dX6_hasPlace_19 : decode cX6_hasPlace 19 = .ok (.ireturn, 1) := by decide +kernel
theorem dX6_hasStretch_0 : decode cX6_hasStretch 0 = .ok (.iload_n 3, 1) := by decide +kernel
theorem dX6_hasStretch_1 : decode cX6_hasStretch 1 = .ok (.ifCond .lt 33, 3) := by decide +kernel
theorem dX6_hasStretch_4 : decode cX6_hasStretch 4 = .ok (.iload_n 2, 1) := by decide +kernel
theorem dX6_hasStretch_5 : decode cX6_hasStretch 5 = .ok (.ifCond .lt 29, 3) := by decide +kernel
theorem dX6_hasStretch_8 : decode cX6_hasStretch 8 = .ok (.iload_n 3, 1) := by decide +kernel
theorem dX6_hasStretch_9 : decode cX6_hasStretch 9 = .ok (.aload_n 0, 1) := by decide +kernel
theorem dX6_hasStretch_10 : decode cX6_hasStretch 10 = .ok (.getfield 13, 3) := by decide +kernel
theorem dX6_hasStretch_13 : decode cX6_hasStretch 13 = .ok (.iload_n 1, 1) := by decide +kernel
theorem dX6_hasStretch_14 : decode cX6_hasStretch 14 = .ok (.iaload, 1) := by decide +kernel
theorem dX6_hasStretch_15 : decode cX6_hasStretch 15 = .ok (.if_icmp .gt 19, 3) := by decide +kernel
theorem dX6_hasStretch_18 : decode cX6_hasStretch 18 = .ok (.iload_n 2, 1) := by decide +kernel
theorem dX6_hasStretch_19 : decode cX6_hasStretch 19 = .ok (.aload_n 0, 1) := by decide +kernel
theorem dX6_hasStretch_20 : decode cX6_hasStretch 20 = .ok (.getfield 13, 3) := by decide +kernel
theorem dX6_hasStretch_23 : decode cX6_hasStretch 23 = .ok (.iload_n 1, 1) := by decide +kernel
theorem dX6_hasStretch_24 : decode cX6_hasStretch 24 = .ok (.iaload, 1) := by decide +kernel
theorem dX6_hasStretch_25 : decode cX6_hasStretch 25 = .ok (.iload_n 3, 1) := by decide +kernel
theorem dX6_hasStretch_26 : decode cX6_hasStretch 26 = .ok (.isub, 1) := by decide +kernel
theorem dX6_hasStretch_27 : decode cX6_hasStretch 27 = .ok (.if_icmp .gt 7, 3) := by decide +kernel
theorem dX6_hasStretch_30 : decode cX6_hasStretch 30 = .ok (.iconst 1, 1) := by decide +kernel
theorem dX6_hasStretch_31 : decode cX6_hasStretch 31 = .ok (.goto 4, 3) := by decide +kernel
theorem dX6_hasStretch_34 : decode cX6_hasStretch 34 = .ok (.iconst 0, 1) := by decide +kernel
theorem dX6_hasStretch_35 : decode cX6_hasStretch 35 = .ok (.ireturn, 1) := by decide +kernel
theorem dX6_makeRow_0 : decode cX6_makeRow 0 = .ok (.aload_n 0, 1) := by decide +kernel
theorem dX6_makeRow_1 : decode cX6_makeRow 1 = .ok (.getfield 9, 3) := by decide +kernel
theorem dX6_makeRow_4 : decode cX6_makeRow 4 = .ok (.iload_n 1, 1) := by decide +kernel
theorem dX6_makeRow_5 : decode cX6_makeRow 5 = .ok (.iload_n 2, 1) := by decide +kernel
theorem dX6_makeRow_6 : decode cX6_makeRow 6 = .ok (.iastore, 1) := by decide +kernel
theorem dX6_makeRow_7 : decode cX6_makeRow 7 = .ok (.aload_n 0, 1) := by decide +kernel
theorem dX6_makeRow_8 : decode cX6_makeRow 8 = .ok (.getfield 13, 3) := by decide +kernel
theorem dX6_makeRow_11 : decode cX6_makeRow 11 = .ok (.iload_n 1, 1) := by decide +kernel
theorem dX6_makeRow_12 : decode cX6_makeRow 12 = .ok (.iload_n 3, 1) := by decide +kernel
theorem dX6_makeRow_13 : decode cX6_makeRow 13 = .ok (.iastore, 1) := by decide +kernel
theorem dX6_makeRow_14 : decode cX6_makeRow 14 = .ok (.iconst 0, 1) := by decide +kernel
theorem dX6_makeRow_15 : decode cX6_makeRow 15 = .ok (.istore 4, 2) := by decide +kernel
theorem dX6_makeRow_17 : decode cX6_makeRow 17 = .ok (.iload 4, 2) := by decide +kernel
theorem dX6_makeRow_19 : decode cX6_makeRow 19 = .ok (.iload_n 3, 1) := by decide +kernel
theorem dX6_makeRow_20 : decode cX6_makeRow 20 = .ok (.if_icmp .ge 22, 3) := by decide +kernel
theorem dX6_makeRow_23 : decode cX6_makeRow 23 = .ok (.aload_n 0, 1) := by decide +kernel
theorem dX6_makeRow_24 : decode cX6_makeRow 24 = .ok (.getfield 16, 3) := by decide +kernel
theorem dX6_makeRow_27 : decode cX6_makeRow 27 = .ok (.iload_n 1, 1) := by decide +kernel
theorem dX6_makeRow_28 : decode cX6_makeRow 28 = .ok (.bipush 60, 2) := by decide +kernel
theorem dX6_makeRow_30 : decode cX6_makeRow 30 = .ok (.imul, 1) := by decide +kernel
theorem dX6_makeRow_31 : decode cX6_makeRow 31 = .ok (.iload 4, 2) := by decide +kernel
theorem dX6_makeRow_33 : decode cX6_makeRow 33 = .ok (.iadd, 1) := by decide +kernel
theorem dX6_makeRow_34 : decode cX6_makeRow 34 = .ok (.lconst 0, 1) := by decide +kernel
theorem dX6_makeRow_35 : decode cX6_makeRow 35 = .ok (.lastore, 1) := by decide +kernel
theorem dX6_makeRow_36 : decode cX6_makeRow 36 = .ok (.iinc 4 1, 3) := by decide +kernel
theorem dX6_makeRow_39 : decode cX6_makeRow 39 = .ok (.goto (-22), 3) := by decide +kernel
theorem dX6_makeRow_42 : decode cX6_makeRow 42 = .ok (.return_, 1) := by decide +kernel
theorem dX6_itemAt_0 : decode cX6_itemAt 0 = .ok (.aload_n 0, 1) := by decide +kernel
theorem dX6_itemAt_1 : decode cX6_itemAt 1 = .ok (.getfield 16, 3) := by decide +kernel
theorem dX6_itemAt_4 : decode cX6_itemAt 4 = .ok (.iload_n 1, 1) := by decide +kernel
theorem dX6_itemAt_5 : decode cX6_itemAt 5 = .ok (.bipush 60, 2) := by decide +kernel
theorem dX6_itemAt_7 : decode cX6_itemAt 7 = .ok (.imul, 1) := by decide +kernel
theorem dX6_itemAt_8 : decode cX6_itemAt 8 = .ok (.iload_n 2, 1) := by decide +kernel
theorem dX6_itemAt_9 : decode cX6_itemAt 9 = .ok (.iadd, 1) := by decide +kernel
theorem dX6_itemAt_10 : decode cX6_itemAt 10 = .ok (.laload, 1) := by decide +kernel
theorem dX6_itemAt_11 : decode cX6_itemAt 11 = .ok (.lreturn, 1) := by decide +kernel
set_option maxRecDepth 20000 in
theorem ggX6_setItem_X6_cutTo : GoodIn wsX6_setItem wsX6_cutTo := goodIn_r _ [6] (by decide +kernel) (by decide +kernel)
set_option maxRecDepth 20000 in
theorem gX6_setItem_X6_cutTo : GoodIn wsX6_setItem (va_wsS RX6 20 yX6_cutTo wsX6_cutTo) := goodIn_app (goodIn_of _ (by decide +kernel)) ggX6_setItem_X6_cutTo
theorem dX6_setItem_0 : decode cX6_setItem 0 = .ok (.aload_n 0, 1) := by decide +kernel
theorem dX6_setItem_1 : decode cX6_setItem 1 = .ok (.getfield 16, 3) := by decide +kernel
theorem dX6_setItem_4 : decode cX6_setItem 4 = .ok (.iload_n 1, 1) := by decide +kernel
theorem dX6_setItem_5 : decode cX6_setItem 5 = .ok (.bipush 60, 2) := by decide +kernel
theorem dX6_setItem_7 : decode cX6_setItem 7 = .ok (.imul, 1) := by decide +kernel
theorem dX6_setItem_8 : decode cX6_setItem 8 = .ok (.iload_n 2, 1) := by decide +kernel
theorem dX6_setItem_9 : decode cX6_setItem 9 = .ok (.iadd, 1) := by decide +kernel
theorem dX6_setItem_10 : decode cX6_setItem 10 = .ok (.aload_n 0, 1) := by decide +kernel
theorem dX6_setItem_11 : decode cX6_setItem 11 = .ok (.getfield 9, 3) := by decide +kernel
theorem dX6_setItem_14 : decode cX6_setItem 14 = .ok (.iload_n 1, 1) := by decide +kernel
theorem dX6_setItem_15 : decode cX6_setItem 15 = .ok (.iaload, 1) := by decide +kernel
theorem dX6_setItem_16 : decode cX6_setItem 16 = .ok (.lload_n 3, 1) := by decide +kernel
theorem dX6_setItem_17 : decode cX6_setItem 17 = .ok (.invokestatic 20, 3) := by decide +kernel
theorem dX6_setItem_20 : decode cX6_setItem 20 = .ok (.lastore, 1) := by decide +kernel
theorem dX6_setItem_21 : decode cX6_setItem 21 = .ok (.return_, 1) := by decide +kernel
theorem dX6_cutTo_0 : decode cX6_cutTo 0 = .ok (.iload_n 0, 1) := by decide +kernel
theorem dX6_cutTo_1 : decode cX6_cutTo 1 = .ok (.tableswitch 61 0 4 #[35, 40, 45, 61, 49], 35) := by decide +kernel
theorem dX6_cutTo_36 : decode cX6_cutTo 36 = .ok (.lload_n 1, 1) := by decide +kernel
theorem dX6_cutTo_37 : decode cX6_cutTo 37 = .ok (.l2i, 1) := by decide +kernel
theorem dX6_cutTo_38 : decode cX6_cutTo 38 = .ok (.i2b, 1) := by decide +kernel
theorem dX6_cutTo_39 : decode cX6_cutTo 39 = .ok (.i2l, 1) := by decide +kernel
theorem dX6_cutTo_40 : decode cX6_cutTo 40 = .ok (.lreturn, 1) := by decide +kernel
theorem dX6_cutTo_41 : decode cX6_cutTo 41 = .ok (.lload_n 1, 1) := by decide +kernel
theorem dX6_cutTo_42 : decode cX6_cutTo 42 = .ok (.l2i, 1) := by decide +kernel
theorem dX6_cutTo_43 : decode cX6_cutTo 43 = .ok (.i2s, 1) := by decide +kernel
theorem dX6_cutTo_44 : decode cX6_cutTo 44 = .ok (.i2l, 1) := by decide +kernel
theorem dX6_cutTo_45 : decode cX6_cutTo 45 = .ok (.lreturn, 1) := by decide +kernel
theorem dX6_cutTo_46 : decode cX6_cutTo 46 = .ok (.lload_n 1, 1) := by decide +kernel
theorem dX6_cutTo_47 : decode cX6_cutTo 47 = .ok (.l2i, 1) := by decide +kernel
theorem dX6_cutTo_48 : decode cX6_cutTo 48 = .ok (.i2l, 1) := by decide +kernel
theorem dX6_cutTo_49 : decode cX6_cutTo 49 = .ok (.lreturn, 1) := by decide +kernel
theorem dX6_cutTo_50 : decode cX6_cutTo 50 = .ok (.lload_n 1, 1) := by decide +kernel
theorem dX6_cutTo_51 : decode cX6_cutTo 51 = .ok (.lconst 0, 1) := by decide +kernel
theorem dX6_cutTo_52 : decode cX6_cutTo 52 = .ok (.lcmp, 1) := by decide +kernel
theorem dX6_cutTo_53 : decode cX6_cutTo 53 = .ok (.ifCond .eq 7, 3) := by decide +kernel
theorem dX6_cutTo_56 : decode cX6_cutTo 56 = .ok (.lconst 1, 1) := by decide +kernel
theorem dX6_cutTo_57 : decode cX6_cutTo 57 = .ok (.goto 4, 3) := by decide +kernel
theorem dX6_cutTo_60 : decode cX6_cutTo 60 = .ok (.lconst 0, 1) := by decide +kernel
theorem dX6_cutTo_61 : decode cX6_cutTo 61 = .ok (.lreturn, 1) := by decide +kernel
theorem dX6_cutTo_62 : decode cX6_cutTo 62 = .ok (.lload_n 1, 1) := by decide +kernel
theorem dX6_cutTo_63 : decode cX6_cutTo 63 = .ok (.lreturn, 1) := by decide +kernel
theorem dX6_copyItems_0 : decode cX6_copyItems 0 = .ok (.aload_n 0, 1) := by decide +kernel
theorem dX6_copyItems_1 : decode cX6_copyItems 1 = .ok (.getfield 16, 3) := by decide +kernel
theorem dX6_copyItems_4 : decode cX6_copyItems 4 = .ok (.iload_n 1, 1) := by decide +kernel
theorem dX6_copyItems_5 : decode cX6_copyItems 5 = .ok (.bipush 60, 2) := by decide +kernel
theorem dX6_copyItems_7 : decode cX6_copyItems 7 = .ok (.imul, 1) := by decide +kernel
theorem dX6_copyItems_8 : decode cX6_copyItems 8 = .ok (.iload_n 2, 1) := by decide +kernel
theorem dX6_copyItems_9 : decode cX6_copyItems 9 = .ok (.iadd, 1) := by decide +kernel
theorem dX6_copyItems_10 : decode cX6_copyItems 10 = .ok (.aload_n 0, 1) := by decide +kernel
theorem dX6_copyItems_11 : decode cX6_copyItems 11 = .ok (.getfield 16, 3) := by decide +kernel
theorem dX6_copyItems_14 : decode cX6_copyItems 14 = .ok (.iload_n 3, 1) := by decide +kernel
theorem dX6_copyItems_15 : decode cX6_copyItems 15 = .ok (.bipush 60, 2) := by decide +kernel
theorem dX6_copyItems_17 : decode cX6_copyItems 17 = .ok (.imul, 1) := by decide +kernel
theorem dX6_copyItems_18 : decode cX6_copyItems 18 = .ok (.iload 4, 2) := by decide +kernel
theorem dX6_copyItems_20 : decode cX6_copyItems 20 = .ok (.iadd, 1) := by decide +kernel
theorem dX6_copyItems_21 : decode cX6_copyItems 21 = .ok (.iload 5, 2) := by decide +kernel
theorem dX6_copyItems_23 : decode cX6_copyItems 23 = .ok (.invokestatic 24, 3) := by decide +kernel
theorem dX6_copyItems_26 : decode cX6_copyItems 26 = .ok (.return_, 1) := by decide +kernel
set_option maxRecDepth 20000 in
theorem ggX7_init_X2_init : GoodIn wsX7_init wsX2_init := goodIn_r _ [32, 33, 2, 3, 34, 35, 36, 37, 38, 39, 40, 72, 73, 74, 75, 76, 77, 78, 79, 80, 81, 82] (by decide +kernel) (by decide +kernel)
set_option maxRecDepth 20000 in
theorem gX7_init_X2_init_n11 : GoodIn wsX7_init (wsX2_init) := ggX7_init_X2_init
set_option maxRecDepth 20000 in
theorem ggX7_init_X1_init : GoodIn wsX7_init wsX1_init := goodIn_r _ [42, 43, 2, 3, 34, 44, 45, 46, 47, 48, 49, 50, 94, 95, 96, 97, 98, 99, 100, 101, 102, 103] (by decide +kernel) (by decide +kernel)
set_option maxRecDepth 20000 in
theorem gX7_init_X1_init_n23 : GoodIn wsX7_init (wsX1_init) := ggX7_init_X1_init
set_option maxRecDepth 20000 in
theorem ggX7_init_X5_init : GoodIn wsX7_init wsX5_init := goodIn_r _ [52, 53, 2, 3, 34, 54, 55, 104, 105, 106, 107, 108, 109, 110, 111] (by decide +kernel) (by decide +kernel)
set_option maxRecDepth 20000 in
theorem gX7_init_X5_init_n36 : GoodIn wsX7_init (wsX5_init) := ggX7_init_X5_init
set_option maxRecDepth 20000 in
theorem ggX7_init_X3_init : GoodIn wsX7_init wsX3_init := goodIn_r _ [57, 58, 2, 3, 34, 59, 60, 112, 113, 114, 115] (by decide +kernel) (by decide +kernel)
set_option maxRecDepth 20000 in
theorem gX7_init_X3_init_n43 : GoodIn wsX7_init (wsX3_init) := ggX7_init_X3_init
set_option maxRecDepth 20000 in
theorem ggX7_init_X0_init : GoodIn wsX7_init wsX0_init := goodIn_r _ [62, 63, 2, 3, 34, 64, 116, 117, 118, 119, 120] (by decide +kernel) (by decide +kernel)
set_option maxRecDepth 20000 in
theorem gX7_init_X0_init_n50 : GoodIn wsX7_init (wsX0_init) := ggX7_init_X0_init
set_option maxRecDepth 20000 in
theorem ggX7_init_X6_init : GoodIn wsX7_init wsX6_init := goodIn_r _ [66, 67, 2, 3, 34, 68, 69, 70, 71, 121, 122, 123] (by decide +kernel) (by decide +kernel)
set_option maxRecDepth 20000 in
theorem gX7_init_X6_init_n57 : GoodIn wsX7_init (wsX6_init) := ggX7_init_X6_init
theorem dX7_init_0 : decode cX7_init 0 = .ok (.aload_n 0, 1) := by decide +kernel
theorem dX7_init_1 : decode cX7_init 1 = .ok (.invokespecial 3, 3) := by decide +kernel
theorem dX7_init_4 : decode cX7_init 4 = .ok (.aload_n 0, 1) := by decide +kernel
theorem dX7_init_5 : decode cX7_init 5 = .ok (.new 9, 3) := by decide +kernel
theorem dX7_init_8 : decode cX7_init 8 = .ok (.dup, 1) := by decide +kernel
theorem dX7_init_9 : decode cX7_init 9 = .ok (.invokespecial 11, 3) := by decide +kernel
theorem dX7_init_12 : decode cX7_init 12 = .ok (.putfield 12, 3) := by decide +kernel
theorem dX7_init_15 : decode cX7_init 15 = .ok (.aload_n 0, 1) := by decide +kernel
theorem dX7_init_16 : decode cX7_init 16 = .ok (.new 9, 3) := by decide +kernel
theorem dX7_init_19 : decode cX7_init 19 = .ok (.dup, 1) := by decide +kernel
theorem dX7_init_20 : decode cX7_init 20 = .ok (.invokespecial 11, 3) := by decide +kernel
theorem dX7_init_23 : decode cX7_init 23 = .ok (.putfield 18, 3) := by decide +kernel
theorem dX7_init_26 : decode cX7_init 26 = .ok (.aload_n 0, 1) := by decide +kernel
theorem dX7_init_27 : decode cX7_init 27 = .ok (.new 21, 3) := by decide +kernel
theorem dX7_init_30 : decode cX7_init 30 = .ok (.dup, 1) := by decide +kernel
theorem dX7_init_31 : decode cX7_init 31 = .ok (.invokespecial 23, 3) := by decide +kernel
theorem dX7_init_34 : decode cX7_init 34 = .ok (.putfield 24, 3) := by decide +kernel
theorem dX7_init_37 : decode cX7_init 37 = .ok (.aload_n 0, 1) := by decide +kernel
theorem dX7_init_38 : decode cX7_init 38 = .ok (.new 9, 3) := by decide +kernel
theorem dX7_init_41 : decode cX7_init 41 = .ok (.dup, 1) := by decide +kernel
theorem dX7_init_42 : decode cX7_init 42 = .ok (.invokespecial 11, 3) := by decide +kernel
theorem dX7_init_45 : decode cX7_init 45 = .ok (.putfield 28, 3) := by decide +kernel
theorem dX7_init_48 : decode cX7_init 48 = .ok (.aload_n 0, 1) := by decide +kernel
theorem dX7_init_49 : decode cX7_init 49 = .ok (.new 21, 3) := by decide +kernel
theorem dX7_init_52 : decode cX7_init 52 = .ok (.dup, 1) := by decide +kernel
theorem dX7_init_53 : decode cX7_init 53 = .ok (.invokespecial 23, 3) := by decide +kernel
theorem dX7_init_56 : decode cX7_init 56 = .ok (.putfield 31, 3) := by decide +kernel
theorem dX7_init_59 : decode cX7_init 59 = .ok (.aload_n 0, 1) := by decide +kernel
theorem dX7_init_60 : decode cX7_init 60 = .ok (.new 34, 3) := by decide +kernel
theorem dX7_init_63 : decode cX7_init 63 = .ok (.dup, 1) := by decide +kernel
theorem dX7_init_64 : decode cX7_init 64 = .ok (.invokespecial 36, 3) := by decide +kernel
theorem dX7_init_67 : decode cX7_init 67 = .ok (.putfield 37, 3) := by decide +kernel
theorem dX7_init_70 : decode cX7_init 70 = .ok (.aload_n 0, 1) := by decide +kernel
theorem dX7_init_71 : decode cX7_init 71 = .ok (.new 41, 3) := by decide +kernel
theorem dX7_init_74 : decode cX7_init 74 = .ok (.dup, 1) := by decide +kernel
theorem dX7_init_75 : decode cX7_init 75 = .ok (.invokespecial 43, 3) := by decide +kernel
theorem dX7_init_78 : decode cX7_init 78 = .ok (.putfield 44, 3) := by decide +kernel
theorem dX7_init_81 : decode cX7_init 81 = .ok (.aload_n 0, 1) := by decide +kernel
theorem dX7_init_82 : decode cX7_init 82 = .ok (.new 48, 3) := by decide +kernel
theorem dX7_init_85 : decode cX7_init 85 = .ok (.dup, 1) := by decide +kernel
theorem dX7_init_86 : decode cX7_init 86 = .ok (.invokespecial 50, 3) := by decide +kernel
theorem dX7_init_89 : decode cX7_init 89 = .ok (.putfield 51, 3) := by decide +kernel
theorem dX7_init_92 : decode cX7_init 92 = .ok (.aload_n 0, 1) := by decide +kernel
theorem dX7_init_93 : decode cX7_init 93 = .ok (.new 55, 3) := by decide +kernel
theorem dX7_init_96 : decode cX7_init 96 = .ok (.dup, 1) := by decide +kernel
theorem dX7_init_97 : decode cX7_init 97 = .ok (.invokespecial 57, 3) := by decide +kernel
theorem dX7_init_100 : decode cX7_init 100 = .ok (.putfield 58, 3) := by decide +kernel
theorem dX7_init_103 : decode cX7_init 103 = .ok (.return_, 1) := by decide +kernel
set_option maxRecDepth 20000 in
theorem ggX7_thing_X7_isWithin : GoodIn wsX7_thing wsX7_isWithin := goodIn_r _ [5] (by decide +kernel) (by decide +kernel)
set_option maxRecDepth 20000 in
theorem gX7_thing_X7_isWithin : GoodIn wsX7_thing (va_wsS RX7 62 yX7_isWithin wsX7_isWithin) := goodIn_app (goodIn_of _ (by decide +kernel)) ggX7_thing_X7_isWithin
set_option maxRecDepth 20000 in
theorem ggX7_thing_X2_addThing : GoodIn wsX7_thing wsX2_addThing := goodIn_r _ [9, 10, 11, 12, 13, 25, 26, 27, 28, 29, 30, 31, 32, 33, 34, 35] (by decide +kernel) (by decide +kernel)
set_option maxRecDepth 20000 in
theorem gX7_thing_X2_addThing_n70 : GoodIn wsX7_thing (wsX2_addThing) := ggX7_thing_X2_addThing
theorem dX7_thing_0 : decode cX7_thing 0 = .ok (.iload_n 1, 1) := by decide +kernel
theorem dX7_thing_1 : decode cX7_thing 1 = .ok (.iconst 0, 1) := by decide +kernel
theorem dX7_thing_2 : decode cX7_thing 2 = .ok (.bipush 6, 2) := by decide +kernel
theorem dX7_thing_4 : decode cX7_thing 4 = .ok (.invokestatic 62, 3) := by decide +kernel
theorem dX7_thing_7 : decode cX7_thing 7 = .ok (.ifCond .ne 5, 3) := by decide +kernel
theorem dX7_thing_10 : decode cX7_thing 10 = .ok (.iconst (-1), 1) := by decide +kernel
theorem dX7_thing_11 : decode cX7_thing 11 = .ok (.ireturn, 1) := by decide +kernel
theorem dX7_thing_12 : decode cX7_thing 12 = .ok (.iload_n 2, 1) := by decide +kernel
theorem dX7_thing_13 : decode cX7_thing 13 = .ok (.iconst 0, 1) := by decide +kernel
theorem dX7_thing_14 : decode cX7_thing 14 = .ok (.bipush 9, 2) := by decide +kernel
theorem dX7_thing_16 : decode cX7_thing 16 = .ok (.invokestatic 62, 3) := by decide +kernel
theorem dX7_thing_19 : decode cX7_thing 19 = .ok (.ifCond .eq 14, 3) := by decide +kernel
theorem dX7_thing_22 : decode cX7_thing 22 = .ok (.iload_n 3, 1) := by decide +kernel
theorem dX7_thing_23 : decode cX7_thing 23 = .ok (.iconst 0, 1) := by decide +kernel
theorem dX7_thing_24 : decode cX7_thing 24 = .ok (.sipush 255, 3) := by decide +kernel
theorem dX7_thing_27 : decode cX7_thing 27 = .ok (.invokestatic 62, 3) := by decide +kernel
theorem dX7_thing_30 : decode cX7_thing 30 = .ok (.ifCond .ne 6, 3) := by decide +kernel
theorem dX7_thing_33 : decode cX7_thing 33 = .ok (.bipush (-2), 2) := by decide +kernel
theorem dX7_thing_35 : decode cX7_thing 35 = .ok (.ireturn, 1) := by decide +kernel
theorem dX7_thing_36 : decode cX7_thing 36 = .ok (.aload_n 0, 1) := by decide +kernel
theorem dX7_thing_37 : decode cX7_thing 37 = .ok (.getfield 12, 3) := by decide +kernel
theorem dX7_thing_40 : decode cX7_thing 40 = .ok (.getfield 66, 3) := by decide +kernel
theorem dX7_thing_43 : decode cX7_thing 43 = .ok (.bipush 6, 2) := by decide +kernel
theorem dX7_thing_45 : decode cX7_thing 45 = .ok (.if_icmp .lt 6, 3) := by decide +kernel
theorem dX7_thing_48 : decode cX7_thing 48 = .ok (.bipush (-4), 2) := by decide +kernel
theorem dX7_thing_50 : decode cX7_thing 50 = .ok (.ireturn, 1) := by decide +kernel
theorem dX7_thing_51 : decode cX7_thing 51 = .ok (.aload_n 0, 1) := by decide +kernel
theorem dX7_thing_52 : decode cX7_thing 52 = .ok (.getfield 12, 3) := by decide +kernel
theorem dX7_thing_55 : decode cX7_thing 55 = .ok (.iload_n 1, 1) := by decide +kernel
theorem dX7_thing_56 : decode cX7_thing 56 = .ok (.iload_n 2, 1) := by decide +kernel
theorem dX7_thing_57 : decode cX7_thing 57 = .ok (.iload_n 3, 1) := by decide +kernel
theorem dX7_thing_58 : decode cX7_thing 58 = .ok (.invokevirtual 70, 3) := by decide +kernel
theorem dX7_thing_61 : decode cX7_thing 61 = .ok (.ireturn, 1) := by decide +kernel
set_option maxRecDepth 20000 in
theorem ggX7_of_X2_hasThing : GoodIn wsX7_of wsX2_hasThing := goodIn_r _ [5, 6, 81, 82, 83, 84, 85, 86, 87, 88, 89, 90, 91] (by decide +kernel) (by decide +kernel)
set_option maxRecDepth 20000 in
theorem gX7_of_X2_hasThing_n74 : GoodIn wsX7_of (wsX2_hasThing) := ggX7_of_X2_hasThing
set_option maxRecDepth 20000 in
theorem ggX7_of_X2_placeInHad : GoodIn wsX7_of wsX2_placeInHad := goodIn_r _ [9, 10, 11, 81, 82, 83, 84, 85, 86, 87, 88, 89, 90, 91] (by decide +kernel) (by decide +kernel)
set_option maxRecDepth 20000 in
theorem gX7_of_X2_placeInHad_n88 : GoodIn wsX7_of (wsX2_placeInHad) := ggX7_of_X2_placeInHad
set_option maxRecDepth 20000 in
theorem ggX7_of_X2_tasteOf : GoodIn wsX7_of wsX2_tasteOf := goodIn_r _ [14, 15, 16, 17, 18, 19, 10, 20, 21, 22, 23, 24, 25, 26, 27, 28, 29, 30, 31, 32, 33, 34, 35, 81, 82, 83, 84, 85, 86, 87, 88, 89, 90, 91, 92, 93, 94] (by decide +kernel) (by decide +kernel)
set_option maxRecDepth 20000 in
theorem gX7_of_X2_tasteOf_n92 : GoodIn wsX7_of (wsX2_tasteOf) := ggX7_of_X2_tasteOf
set_option maxRecDepth 20000 in
theorem ggX7_of_X2_alikeOf : GoodIn wsX7_of wsX2_alikeOf := goodIn_r _ [38, 19, 39, 40, 41, 42, 3, 43, 6, 21, 22, 23, 24, 25, 26, 27, 81, 82, 83, 84, 85, 86, 87, 88, 89, 90, 91] (by decide +kernel) (by decide +kernel)
set_option maxRecDepth 20000 in
theorem gX7_of_X2_alikeOf_n95 : GoodIn wsX7_of (wsX2_alikeOf) := ggX7_of_X2_alikeOf
set_option maxRecDepth 20000 in
theorem ggX7_of_X2_goesNow : GoodIn wsX7_of wsX2_goesNow := goodIn_r _ [46, 10, 11, 17, 19, 18, 20, 47, 48, 49, 50, 3, 51, 39, 52, 53, 54, 55, 15, 56, 36, 37, 38, 40, 41, 42, 43, 6, 21, 22, 23, 24, 25, 26, 27, 57, 12, 13, 14, 16, 28, 29, 30, 31, 32, 33, 34, 35, 58, 59, 60, 61, 62, 63, 64, 65, 66, 67, 68, 69, 81, 82, 83, 84, 85, 86, 87, 88, 89, 90, 91, 92, 93, 94] (by decide +kernel) (by decide +kernel)
set_option maxRecDepth 20000 in
theorem gX7_of_X2_goesNow_n98 : GoodIn wsX7_of (wsX2_goesNow) := ggX7_of_X2_goesNow
theorem dX7_of_0 : decode cX7_of 0 = .ok (.aload_n 0, 1) := by decide +kernel
theorem dX7_of_1 : decode cX7_of 1 = .ok (.getfield 12, 3) := by decide +kernel
theorem dX7_of_4 : decode cX7_of 4 = .ok (.iload_n 1, 1) := by decide +kernel
theorem dX7_of_5 : decode cX7_of 5 = .ok (.invokevirtual 74, 3) := by decide +kernel
theorem dX7_of_8 : decode cX7_of 8 = .ok (.ifCond .ne 7, 3) := by decide +kernel
theorem dX7_of_11 : decode cX7_of 11 = .ok (.sipush (-1001), 3) := by decide +kernel
theorem dX7_of_14 : decode cX7_of 14 = .ok (.ireturn, 1) := by decide +kernel
theorem dX7_of_15 : decode cX7_of 15 = .ok (.iload_n 2, 1) := by decide +kernel
theorem dX7_of_16 : decode cX7_of 16 = .ok (.tableswitch 118 0 6 #[44, 54, 64, 74, 83, 92, 101], 44) := by decide +kernel
theorem dX7_of_60 : decode cX7_of 60 = .ok (.aload_n 0, 1) := by decide +kernel
theorem dX7_of_61 : decode cX7_of 61 = .ok (.getfield 12, 3) := by decide +kernel
theorem dX7_of_64 : decode cX7_of 64 = .ok (.getfield 78, 3) := by decide +kernel
theorem dX7_of_67 : decode cX7_of 67 = .ok (.iload_n 1, 1) := by decide +kernel
theorem dX7_of_68 : decode cX7_of 68 = .ok (.iaload, 1) := by decide +kernel
theorem dX7_of_69 : decode cX7_of 69 = .ok (.ireturn, 1) := by decide +kernel
theorem dX7_of_70 : decode cX7_of 70 = .ok (.aload_n 0, 1) := by decide +kernel
theorem dX7_of_71 : decode cX7_of 71 = .ok (.getfield 12, 3) := by decide +kernel
theorem dX7_of_74 : decode cX7_of 74 = .ok (.getfield 82, 3) := by decide +kernel
theorem dX7_of_77 : decode cX7_of 77 = .ok (.iload_n 1, 1) := by decide +kernel
theorem dX7_of_78 : decode cX7_of 78 = .ok (.iaload, 1) := by decide +kernel
theorem dX7_of_79 : decode cX7_of 79 = .ok (.ireturn, 1) := by decide +kernel
theorem dX7_of_80 : decode cX7_of 80 = .ok (.aload_n 0, 1) := by decide +kernel
theorem dX7_of_81 : decode cX7_of 81 = .ok (.getfield 12, 3) := by decide +kernel
theorem dX7_of_84 : decode cX7_of 84 = .ok (.getfield 85, 3) := by decide +kernel
theorem dX7_of_87 : decode cX7_of 87 = .ok (.iload_n 1, 1) := by decide +kernel
theorem dX7_of_88 : decode cX7_of 88 = .ok (.iaload, 1) := by decide +kernel
theorem dX7_of_89 : decode cX7_of 89 = .ok (.ireturn, 1) := by decide +kernel
theorem dX7_of_90 : decode cX7_of 90 = .ok (.aload_n 0, 1) := by decide +kernel
theorem dX7_of_91 : decode cX7_of 91 = .ok (.getfield 12, 3) := by decide +kernel
theorem dX7_of_94 : decode cX7_of 94 = .ok (.iload_n 1, 1) := by decide +kernel
theorem dX7_of_95 : decode cX7_of 95 = .ok (.invokevirtual 88, 3) := by decide +kernel
theorem dX7_of_98 : decode cX7_of 98 = .ok (.ireturn, 1) := by decide +kernel
theorem dX7_of_99 : decode cX7_of 99 = .ok (.aload_n 0, 1) := by decide +kernel
theorem dX7_of_100 : decode cX7_of 100 = .ok (.getfield 12, 3) := by decide +kernel
theorem dX7_of_103 : decode cX7_of 103 = .ok (.iload_n 1, 1) := by decide +kernel
theorem dX7_of_104 : decode cX7_of 104 = .ok (.invokevirtual 92, 3) := by decide +kernel
theorem dX7_of_107 : decode cX7_of 107 = .ok (.ireturn, 1) := by decide +kernel
theorem dX7_of_108 : decode cX7_of 108 = .ok (.aload_n 0, 1) := by decide +kernel
theorem dX7_of_109 : decode cX7_of 109 = .ok (.getfield 12, 3) := by decide +kernel
theorem dX7_of_112 : decode cX7_of 112 = .ok (.iload_n 1, 1) := by decide +kernel
theorem dX7_of_113 : decode cX7_of 113 = .ok (.invokevirtual 95, 3) := by decide +kernel
theorem dX7_of_116 : decode cX7_of 116 = .ok (.ireturn, 1) := by decide +kernel
theorem dX7_of_117 : decode cX7_of 117 = .ok (.aload_n 0, 1) := by decide +kernel
theorem dX7_of_118 : decode cX7_of 118 = .ok (.getfield 12, 3) := by decide +kernel
theorem dX7_of_121 : decode cX7_of 121 = .ok (.iload_n 1, 1) := by decide +kernel
theorem dX7_of_122 : decode cX7_of 122 = .ok (.invokevirtual 98, 3) := by decide +kernel
theorem dX7_of_125 : decode cX7_of 125 = .ok (.ifCond .eq 7, 3) := by decide +kernel
theorem dX7_of_128 : decode cX7_of 128 = .ok (.iconst 1, 1) := by decide +kernel
theorem dX7_of_129 : decode cX7_of 129 = .ok (.goto 4, 3) := by decide +kernel
theorem dX7_of_132 : decode cX7_of 132 = .ok (.iconst 0, 1) := by decide +kernel
theorem dX7_of_133 : decode cX7_of 133 = .ok (.ireturn, 1) := by decide +kernel
theorem dX7_of_134 : decode cX7_of 134 = .ok (.sipush (-1001), 3) := by decide +kernel
theorem dX7_of_137 : decode cX7_of 137 = .ok (.ireturn, 1) := by decide +kernel
set_option maxRecDepth 20000 in
theorem ggX7_mark_X2_hasThing : GoodIn wsX7_mark wsX2_hasThing := goodIn_r _ [5, 6, 22, 23, 24, 25, 26, 27, 28, 29, 30, 31, 32] (by decide +kernel) (by decide +kernel)
set_option maxRecDepth 20000 in
theorem gX7_mark_X2_hasThing_n74 : GoodIn wsX7_mark (wsX2_hasThing) := ggX7_mark_X2_hasThing
set_option maxRecDepth 20000 in
theorem ggX7_mark_X7_isWithin : GoodIn wsX7_mark wsX7_isWithin := goodIn_r _ [10] (by decide +kernel) (by decide +kernel)
set_option maxRecDepth 20000 in
theorem gX7_mark_X7_isWithin : GoodIn wsX7_mark (va_wsS RX7 62 yX7_isWithin wsX7_isWithin) := goodIn_app (goodIn_of _ (by decide +kernel)) ggX7_mark_X7_isWithin
theorem dX7_mark_0 : decode cX7_mark 0 = .ok (.aload_n 0, 1) := by decide +kernel
theorem dX7_mark_1 : decode cX7_mark 1 = .ok (.getfield 12, 3) := by decide +kernel
theorem dX7_mark_4 : decode cX7_mark 4 = .ok (.iload_n 1, 1) := by decide +kernel
theorem dX7_mark_5 : decode cX7_mark 5 = .ok (.invokevirtual 74, 3) := by decide +kernel
theorem dX7_mark_8 : decode cX7_mark 8 = .ok (.ifCond .ne 5, 3) := by decide +kernel
theorem dX7_mark_11 : decode cX7_mark 11 = .ok (.iconst (-1), 1) := by decide +kernel
theorem dX7_mark_12 : decode cX7_mark 12 = .ok (.ireturn, 1) := by decide +kernel
theorem dX7_mark_13 : decode cX7_mark 13 = .ok (.iload_n 2, 1) := by decide +kernel
theorem dX7_mark_14 : decode cX7_mark 14 = .ok (.iconst 0, 1) := by decide +kernel
theorem dX7_mark_15 : decode cX7_mark 15 = .ok (.sipush 255, 3) := by decide +kernel
theorem dX7_mark_18 : decode cX7_mark 18 = .ok (.invokestatic 62, 3) := by decide +kernel
theorem dX7_mark_21 : decode cX7_mark 21 = .ok (.ifCond .ne 6, 3) := by decide +kernel
theorem dX7_mark_24 : decode cX7_mark 24 = .ok (.bipush (-2), 2) := by decide +kernel
theorem dX7_mark_26 : decode cX7_mark 26 = .ok (.ireturn, 1) := by decide +kernel
theorem dX7_mark_27 : decode cX7_mark 27 = .ok (.aload_n 0, 1) := by decide +kernel
theorem dX7_mark_28 : decode cX7_mark 28 = .ok (.getfield 12, 3) := by decide +kernel
theorem dX7_mark_31 : decode cX7_mark 31 = .ok (.getfield 85, 3) := by decide +kernel
theorem dX7_mark_34 : decode cX7_mark 34 = .ok (.iload_n 1, 1) := by decide +kernel
theorem dX7_mark_35 : decode cX7_mark 35 = .ok (.iaload, 1) := by decide +kernel
theorem dX7_mark_36 : decode cX7_mark 36 = .ok (.istore_n 3, 1) := by decide +kernel
theorem dX7_mark_37 : decode cX7_mark 37 = .ok (.aload_n 0, 1) := by decide +kernel
theorem dX7_mark_38 : decode cX7_mark 38 = .ok (.getfield 12, 3) := by decide +kernel
theorem dX7_mark_41 : decode cX7_mark 41 = .ok (.getfield 85, 3) := by decide +kernel
theorem dX7_mark_44 : decode cX7_mark 44 = .ok (.iload_n 1, 1) := by decide +kernel
theorem dX7_mark_45 : decode cX7_mark 45 = .ok (.iload_n 2, 1) := by decide +kernel
theorem dX7_mark_46 : decode cX7_mark 46 = .ok (.iastore, 1) := by decide +kernel
theorem dX7_mark_47 : decode cX7_mark 47 = .ok (.iload_n 3, 1) := by decide +kernel
theorem dX7_mark_48 : decode cX7_mark 48 = .ok (.ireturn, 1) := by decide +kernel
set_option maxRecDepth 20000 in
theorem ggX7_row_X2_hasThing : GoodIn wsX7_row wsX2_hasThing := goodIn_r _ [5, 6, 22, 23, 24, 25, 26, 27, 28, 29, 30, 31, 32] (by decide +kernel) (by decide +kernel)
set_option maxRecDepth 20000 in
theorem gX7_row_X2_hasThing_n74 : GoodIn wsX7_row (wsX2_hasThing) := ggX7_row_X2_hasThing
set_option maxRecDepth 20000 in
theorem ggX7_row_X7_isWithin : GoodIn wsX7_row wsX7_isWithin := goodIn_r _ [10] (by decide +kernel) (by decide +kernel)
set_option maxRecDepth 20000 in
theorem gX7_row_X7_isWithin : GoodIn wsX7_row (va_wsS RX7 62 yX7_isWithin wsX7_isWithin) := goodIn_app (goodIn_of _ (by decide +kernel)) ggX7_row_X7_isWithin
theorem dX7_row_0 : decode cX7_row 0 = .ok (.aload_n 0, 1) := by decide +kernel
theorem dX7_row_1 : decode cX7_row 1 = .ok (.getfield 12, 3) := by decide +kernel
theorem dX7_row_4 : decode cX7_row 4 = .ok (.iload_n 1, 1) := by decide +kernel
theorem dX7_row_5 : decode cX7_row 5 = .ok (.invokevirtual 74, 3) := by decide +kernel
theorem dX7_row_8 : decode cX7_row 8 = .ok (.ifCond .eq 12, 3) := by decide +kernel
theorem dX7_row_11 : decode cX7_row 11 = .ok (.iload_n 2, 1) := by decide +kernel
theorem dX7_row_12 : decode cX7_row 12 = .ok (.iconst 0, 1) := by decide +kernel
theorem dX7_row_13 : decode cX7_row 13 = .ok (.iconst 3, 1) := by decide +kernel
theorem dX7_row_14 : decode cX7_row 14 = .ok (.invokestatic 62, 3) := by decide +kernel
theorem dX7_row_17 : decode cX7_row 17 = .ok (.ifCond .ne 5, 3) := by decide +kernel
theorem dX7_row_20 : decode cX7_row 20 = .ok (.iconst (-1), 1) := by decide +kernel
theorem dX7_row_21 : decode cX7_row 21 = .ok (.ireturn, 1) := by decide +kernel
theorem dX7_row_22 : decode cX7_row 22 = .ok (.iload_n 3, 1) := by decide +kernel
theorem dX7_row_23 : decode cX7_row 23 = .ok (.iconst 0, 1) := by decide +kernel
theorem dX7_row_24 : decode cX7_row 24 = .ok (.bipush 9, 2) := by decide +kernel
theorem dX7_row_26 : decode cX7_row 26 = .ok (.invokestatic 62, 3) := by decide +kernel
theorem dX7_row_29 : decode cX7_row 29 = .ok (.ifCond .ne 6, 3) := by decide +kernel
theorem dX7_row_32 : decode cX7_row 32 = .ok (.bipush (-2), 2) := by decide +kernel
theorem dX7_row_34 : decode cX7_row 34 = .ok (.ireturn, 1) := by decide +kernel
theorem dX7_row_35 : decode cX7_row 35 = .ok (.aload_n 0, 1) := by decide +kernel
theorem dX7_row_36 : decode cX7_row 36 = .ok (.getfield 12, 3) := by decide +kernel
theorem dX7_row_39 : decode cX7_row 39 = .ok (.getfield 78, 3) := by decide +kernel
theorem dX7_row_42 : decode cX7_row 42 = .ok (.iload_n 1, 1) := by decide +kernel
theorem dX7_row_43 : decode cX7_row 43 = .ok (.iaload, 1) := by decide +kernel
theorem dX7_row_44 : decode cX7_row 44 = .ok (.bipush 6, 2) := by decide +kernel
theorem dX7_row_46 : decode cX7_row 46 = .ok (.if_icmp .eq 6, 3) := by decide +kernel
theorem dX7_row_49 : decode cX7_row 49 = .ok (.bipush (-3), 2) := by decide +kernel
theorem dX7_row_51 : decode cX7_row 51 = .ok (.ireturn, 1) := by decide +kernel
theorem dX7_row_52 : decode cX7_row 52 = .ok (.iload_n 1, 1) := by decide +kernel
theorem dX7_row_53 : decode cX7_row 53 = .ok (.iconst 4, 1) := by decide +kernel
theorem dX7_row_54 : decode cX7_row 54 = .ok (.imul, 1) := by decide +kernel
theorem dX7_row_55 : decode cX7_row 55 = .ok (.iload_n 2, 1) := by decide +kernel
theorem dX7_row_56 : decode cX7_row 56 = .ok (.iadd, 1) := by decide +kernel
theorem dX7_row_57 : decode cX7_row 57 = .ok (.istore 4, 2) := by decide +kernel
theorem dX7_row_59 : decode cX7_row 59 = .ok (.aload_n 0, 1) := by decide +kernel
theorem dX7_row_60 : decode cX7_row 60 = .ok (.getfield 12, 3) := by decide +kernel
theorem dX7_row_63 : decode cX7_row 63 = .ok (.getfield 101, 3) := by decide +kernel
theorem dX7_row_66 : decode cX7_row 66 = .ok (.iload 4, 2) := by decide +kernel
theorem dX7_row_68 : decode cX7_row 68 = .ok (.iaload, 1) := by decide +kernel
theorem dX7_row_69 : decode cX7_row 69 = .ok (.istore 5, 2) := by decide +kernel
theorem dX7_row_71 : decode cX7_row 71 = .ok (.aload_n 0, 1) := by decide +kernel
theorem dX7_row_72 : decode cX7_row 72 = .ok (.getfield 12, 3) := by decide +kernel
theorem dX7_row_75 : decode cX7_row 75 = .ok (.getfield 101, 3) := by decide +kernel
theorem dX7_row_78 : decode cX7_row 78 = .ok (.iload 4, 2) := by decide +kernel
theorem dX7_row_80 : decode cX7_row 80 = .ok (.iload_n 3, 1) := by decide +kernel
theorem dX7_row_81 : decode cX7_row 81 = .ok (.iastore, 1) := by decide +kernel
theorem dX7_row_82 : decode cX7_row 82 = .ok (.iload 5, 2) := by decide +kernel
theorem dX7_row_84 : decode cX7_row 84 = .ok (.ireturn, 1) := by decide +kernel
set_option maxRecDepth 20000 in
theorem ggX7_take_X2_hasThing : GoodIn wsX7_take wsX2_hasThing := goodIn_r _ [5, 6, 81, 82, 83, 84, 85, 86, 87, 88, 89, 90, 91] (by decide +kernel) (by decide +kernel)
set_option maxRecDepth 20000 in
theorem gX7_take_X2_hasThing_n74 : GoodIn wsX7_take (wsX2_hasThing) := ggX7_take_X2_hasThing
set_option maxRecDepth 20000 in
theorem ggX7_take_X2_goesNow : GoodIn wsX7_take wsX2_goesNow := goodIn_r _ [9, 10, 11, 12, 13, 14, 15, 16, 17, 18, 19, 3, 20, 21, 22, 23, 24, 25, 26, 27, 28, 29, 30, 31, 32, 33, 34, 6, 35, 36, 37, 38, 39, 40, 41, 42, 43, 44, 45, 46, 47, 48, 49, 50, 51, 52, 53, 54, 55, 56, 57, 58, 59, 60, 61, 62, 63, 64, 65, 66, 81, 82, 83, 84, 85, 86, 87, 88, 89, 90, 91, 92, 93, 94] (by decide +kernel) (by decide +kernel)
set_option maxRecDepth 20000 in
theorem gX7_take_X2_goesNow_n98 : GoodIn wsX7_take (wsX2_goesNow) := ggX7_take_X2_goesNow
set_option maxRecDepth 20000 in
theorem ggX7_take_X2_pickUp : GoodIn wsX7_take wsX2_pickUp := goodIn_r _ [69, 10, 11, 21, 17, 18, 19, 3, 20, 81, 82, 83, 84, 85, 86, 87, 88, 89, 90, 91] (by decide +kernel) (by decide +kernel)
set_option maxRecDepth 20000 in
theorem gX7_take_X2_pickUp_n104 : GoodIn wsX7_take (wsX2_pickUp) := ggX7_take_X2_pickUp
theorem dX7_take_0 : decode cX7_take 0 = .ok (.aload_n 0, 1) := by decide +kernel
theorem dX7_take_1 : decode cX7_take 1 = .ok (.getfield 12, 3) := by decide +kernel
theorem dX7_take_4 : decode cX7_take 4 = .ok (.iload_n 1, 1) := by decide +kernel
theorem dX7_take_5 : decode cX7_take 5 = .ok (.invokevirtual 74, 3) := by decide +kernel
theorem dX7_take_8 : decode cX7_take 8 = .ok (.ifCond .ne 5, 3) := by decide +kernel
theorem dX7_take_11 : decode cX7_take 11 = .ok (.iconst (-1), 1) := by decide +kernel
theorem dX7_take_12 : decode cX7_take 12 = .ok (.ireturn, 1) := by decide +kernel
theorem dX7_take_13 : decode cX7_take 13 = .ok (.aload_n 0, 1) := by decide +kernel
theorem dX7_take_14 : decode cX7_take 14 = .ok (.getfield 12, 3) := by decide +kernel
theorem dX7_take_17 : decode cX7_take 17 = .ok (.iload_n 1, 1) := by decide +kernel
theorem dX7_take_18 : decode cX7_take 18 = .ok (.invokevirtual 98, 3) := by decide +kernel
theorem dX7_take_21 : decode cX7_take 21 = .ok (.ifCond .ne 6, 3) := by decide +kernel
theorem dX7_take_24 : decode cX7_take 24 = .ok (.bipush (-3), 2) := by decide +kernel
theorem dX7_take_26 : decode cX7_take 26 = .ok (.ireturn, 1) := by decide +kernel
theorem dX7_take_27 : decode cX7_take 27 = .ok (.aload_n 0, 1) := by decide +kernel
theorem dX7_take_28 : decode cX7_take 28 = .ok (.getfield 12, 3) := by decide +kernel
theorem dX7_take_31 : decode cX7_take 31 = .ok (.iload_n 1, 1) := by decide +kernel
theorem dX7_take_32 : decode cX7_take 32 = .ok (.invokevirtual 104, 3) := by decide +kernel
theorem dX7_take_35 : decode cX7_take 35 = .ok (.aload_n 0, 1) := by decide +kernel
theorem dX7_take_36 : decode cX7_take 36 = .ok (.getfield 12, 3) := by decide +kernel
theorem dX7_take_39 : decode cX7_take 39 = .ok (.getfield 108, 3) := by decide +kernel
theorem dX7_take_42 : decode cX7_take 42 = .ok (.ireturn, 1) := by decide +kernel
set_option maxRecDepth 20000 in
theorem ggX7_put_X2_layDownNewest : GoodIn wsX7_put wsX2_layDownNewest := goodIn_r _ [5, 6, 7, 8, 20, 21, 22, 23, 24, 25, 26, 27, 28, 29, 30] (by decide +kernel) (by decide +kernel)
set_option maxRecDepth 20000 in
theorem gX7_put_X2_layDownNewest_n111 : GoodIn wsX7_put (wsX2_layDownNewest) := ggX7_put_X2_layDownNewest
theorem dX7_put_0 : decode cX7_put 0 = .ok (.aload_n 0, 1) := by decide +kernel
theorem dX7_put_1 : decode cX7_put 1 = .ok (.getfield 12, 3) := by decide +kernel
theorem dX7_put_4 : decode cX7_put 4 = .ok (.getfield 108, 3) := by decide +kernel
theorem dX7_put_7 : decode cX7_put 7 = .ok (.ifCond .ne 6, 3) := by decide +kernel
theorem dX7_put_10 : decode cX7_put 10 = .ok (.bipush (-3), 2) := by decide +kernel
theorem dX7_put_12 : decode cX7_put 12 = .ok (.ireturn, 1) := by decide +kernel
theorem dX7_put_13 : decode cX7_put 13 = .ok (.aload_n 0, 1) := by decide +kernel
theorem dX7_put_14 : decode cX7_put 14 = .ok (.getfield 12, 3) := by decide +kernel
theorem dX7_put_17 : decode cX7_put 17 = .ok (.invokevirtual 111, 3) := by decide +kernel
theorem dX7_put_20 : decode cX7_put 20 = .ok (.ireturn, 1) := by decide +kernel
set_option maxRecDepth 20000 in
theorem ggX7_feed_X7_isWithin : GoodIn wsX7_feed wsX7_isWithin := goodIn_r _ [5] (by decide +kernel) (by decide +kernel)
set_option maxRecDepth 20000 in
theorem gX7_feed_X7_isWithin : GoodIn wsX7_feed (va_wsS RX7 62 yX7_isWithin wsX7_isWithin) := goodIn_app (goodIn_of _ (by decide +kernel)) ggX7_feed_X7_isWithin
set_option maxRecDepth 20000 in
theorem ggX7_feed_X5_addSign : GoodIn wsX7_feed wsX5_addSign := goodIn_r _ [9, 10, 11, 23, 24, 25, 26, 27, 28, 29, 30] (by decide +kernel) (by decide +kernel)
set_option maxRecDepth 20000 in
theorem gX7_feed_X5_addSign_n118 : GoodIn wsX7_feed (wsX5_addSign) := ggX7_feed_X5_addSign
theorem dX7_feed_0 : decode cX7_feed 0 = .ok (.iload_n 1, 1) := by decide +kernel
theorem dX7_feed_1 : decode cX7_feed 1 = .ok (.iconst 0, 1) := by decide +kernel
theorem dX7_feed_2 : decode cX7_feed 2 = .ok (.bipush 127, 2) := by decide +kernel
theorem dX7_feed_4 : decode cX7_feed 4 = .ok (.invokestatic 62, 3) := by decide +kernel
theorem dX7_feed_7 : decode cX7_feed 7 = .ok (.ifCond .ne 6, 3) := by decide +kernel
theorem dX7_feed_10 : decode cX7_feed 10 = .ok (.bipush (-2), 2) := by decide +kernel
theorem dX7_feed_12 : decode cX7_feed 12 = .ok (.ireturn, 1) := by decide +kernel
theorem dX7_feed_13 : decode cX7_feed 13 = .ok (.aload_n 0, 1) := by decide +kernel
theorem dX7_feed_14 : decode cX7_feed 14 = .ok (.getfield 37, 3) := by decide +kernel
theorem dX7_feed_17 : decode cX7_feed 17 = .ok (.getfield 115, 3) := by decide +kernel
theorem dX7_feed_20 : decode cX7_feed 20 = .ok (.bipush 100, 2) := by decide +kernel
theorem dX7_feed_22 : decode cX7_feed 22 = .ok (.if_icmp .lt 6, 3) := by decide +kernel
theorem dX7_feed_25 : decode cX7_feed 25 = .ok (.bipush (-4), 2) := by decide +kernel
theorem dX7_feed_27 : decode cX7_feed 27 = .ok (.ireturn, 1) := by decide +kernel
theorem dX7_feed_28 : decode cX7_feed 28 = .ok (.aload_n 0, 1) := by decide +kernel
theorem dX7_feed_29 : decode cX7_feed 29 = .ok (.getfield 37, 3) := by decide +kernel
theorem dX7_feed_32 : decode cX7_feed 32 = .ok (.iload_n 1, 1) := by decide +kernel
theorem dX7_feed_33 : decode cX7_feed 33 = .ok (.invokevirtual 118, 3) := by decide +kernel
theorem dX7_feed_36 : decode cX7_feed 36 = .ok (.ireturn, 1) := by decide +kernel
set_option maxRecDepth 20000 in
theorem ggX7_street_X5_readStreet : GoodIn wsX7_street wsX5_readStreet := goodIn_r _ [10, 11, 12, 13, 14, 15, 16, 17, 18, 8, 19, 20, 21, 22, 23, 24, 25, 26, 27, 28, 29, 30, 31, 32, 33, 34, 35, 36, 37, 38, 39, 40, 41, 42, 43, 44, 45, 46, 47, 48, 49, 50, 51, 52, 53, 54, 55, 56, 57, 58, 59, 60, 61, 62, 63, 64, 65, 66, 67, 68, 69, 70, 71, 72, 73, 74, 75, 76, 77, 78, 79, 80, 81, 82, 83, 84, 85, 86, 87, 88, 89, 90, 91, 92, 93, 94, 95, 96, 97, 98, 99, 100, 101, 102, 103, 104, 105, 106, 107, 108, 109, 110, 111, 112, 113, 114, 115, 116, 117, 118, 119, 120, 121, 122, 123, 124, 125, 126, 127, 128, 129, 130, 131, 132, 133, 134, 135, 136, 137, 138, 139, 140, 141, 142, 143, 144, 145, 146, 147, 148, 149, 150, 151, 152, 153, 154, 155, 156, 157, 158, 159, 160, 161, 162, 163, 164, 165, 166, 167, 168, 169, 170, 171, 172, 173, 174, 175, 176, 203, 204, 205, 206, 207, 208, 209, 210] (by decide +kernel) (by decide +kernel)
set_option maxRecDepth 20000 in
theorem gX7_street_X5_readStreet_n124 : GoodIn wsX7_street (wsX5_readStreet) := ggX7_street_X5_readStreet
set_option maxRecDepth 20000 in
theorem ggX7_street_X4_init : GoodIn wsX7_street wsX4_init := goodIn_r _ [178, 179, 180, 181, 182, 133, 23, 134, 183, 22, 24, 184, 185, 186, 187, 188, 189, 190, 191, 211, 212, 213] (by decide +kernel) (by decide +kernel)
set_option maxRecDepth 20000 in
theorem gX7_street_X4_init_n145 : GoodIn wsX7_street (wsX4_init) := ggX7_street_X4_init
theorem dX7_street_0 : decode cX7_street 0 = .ok (.aload_n 0, 1) := by decide +kernel
theorem dX7_street_1 : decode cX7_street 1 = .ok (.getfield 121, 3) := by decide +kernel
theorem dX7_street_4 : decode cX7_street 4 = .ok (.bipush 6, 2) := by decide +kernel
theorem dX7_street_6 : decode cX7_street 6 = .ok (.if_icmp .lt 6, 3) := by decide +kernel
theorem dX7_street_9 : decode cX7_street 9 = .ok (.bipush (-4), 2) := by decide +kernel
theorem dX7_street_11 : decode cX7_street 11 = .ok (.ireturn, 1) := by decide +kernel
theorem dX7_street_12 : decode cX7_street 12 = .ok (.aload_n 0, 1) := by decide +kernel
theorem dX7_street_13 : decode cX7_street 13 = .ok (.getfield 37, 3) := by decide +kernel
theorem dX7_street_16 : decode cX7_street 16 = .ok (.invokevirtual 124, 3) := by decide +kernel
theorem dX7_street_19 : decode cX7_street 19 = .ok (.istore_n 1, 1) := by decide +kernel
theorem dX7_street_20 : decode cX7_street 20 = .ok (.aload_n 0, 1) := by decide +kernel
theorem dX7_street_21 : decode cX7_street 21 = .ok (.getfield 37, 3) := by decide +kernel
theorem dX7_street_24 : decode cX7_street 24 = .ok (.iconst 0, 1) := by decide +kernel
theorem dX7_street_25 : decode cX7_street 25 = .ok (.putfield 115, 3) := by decide +kernel
theorem dX7_street_28 : decode cX7_street 28 = .ok (.iload_n 1, 1) := by decide +kernel
theorem dX7_street_29 : decode cX7_street 29 = .ok (.ifCond .ne 14, 3) := by decide +kernel
theorem dX7_street_32 : decode cX7_street 32 = .ok (.bipush (-10), 2) := by decide +kernel
theorem dX7_street_34 : decode cX7_street 34 = .ok (.aload_n 0, 1) := by decide +kernel
theorem dX7_street_35 : decode cX7_street 35 = .ok (.getfield 37, 3) := by decide +kernel
theorem dX7_street_38 : decode cX7_street 38 = .ok (.getfield 128, 3) := by decide +kernel
theorem dX7_street_41 : decode cX7_street 41 = .ok (.isub, 1) := by decide +kernel
theorem dX7_street_42 : decode cX7_street 42 = .ok (.ireturn, 1) := by decide +kernel
theorem dX7_street_43 : decode cX7_street 43 = .ok (.aload_n 0, 1) := by decide +kernel
theorem dX7_street_44 : decode cX7_street 44 = .ok (.getfield 12, 3) := by decide +kernel
theorem dX7_street_47 : decode cX7_street 47 = .ok (.new 131, 3) := by decide +kernel
theorem dX7_street_50 : decode cX7_street 50 = .ok (.dup, 1) := by decide +kernel
theorem dX7_street_51 : decode cX7_street 51 = .ok (.aload_n 0, 1) := by decide +kernel
theorem dX7_street_52 : decode cX7_street 52 = .ok (.getfield 37, 3) := by decide +kernel
theorem dX7_street_55 : decode cX7_street 55 = .ok (.getfield 133, 3) := by decide +kernel
theorem dX7_street_58 : decode cX7_street 58 = .ok (.aload_n 0, 1) := by decide +kernel
theorem dX7_street_59 : decode cX7_street 59 = .ok (.getfield 37, 3) := by decide +kernel
theorem dX7_street_62 : decode cX7_street 62 = .ok (.getfield 136, 3) := by decide +kernel
theorem dX7_street_65 : decode cX7_street 65 = .ok (.aload_n 0, 1) := by decide +kernel
theorem dX7_street_66 : decode cX7_street 66 = .ok (.getfield 37, 3) := by decide +kernel
theorem dX7_street_69 : decode cX7_street 69 = .ok (.getfield 139, 3) := by decide +kernel
theorem dX7_street_72 : decode cX7_street 72 = .ok (.aload_n 0, 1) := by decide +kernel
theorem dX7_street_73 : decode cX7_street 73 = .ok (.getfield 37, 3) := by decide +kernel
theorem dX7_street_76 : decode cX7_street 76 = .ok (.getfield 142, 3) := by decide +kernel
theorem dX7_street_79 : decode cX7_street 79 = .ok (.invokespecial 145, 3) := by decide +kernel
theorem dX7_street_82 : decode cX7_street 82 = .ok (.putfield 148, 3) := by decide +kernel
theorem dX7_street_85 : decode cX7_street 85 = .ok (.aload_n 0, 1) := by decide +kernel
theorem dX7_street_86 : decode cX7_street 86 = .ok (.dup, 1) := by decide +kernel
theorem dX7_street_87 : decode cX7_street 87 = .ok (.getfield 121, 3) := by decide +kernel
theorem dX7_street_90 : decode cX7_street 90 = .ok (.iconst 1, 1) := by decide +kernel
theorem dX7_street_91 : decode cX7_street 91 = .ok (.iadd, 1) := by decide +kernel
theorem dX7_street_92 : decode cX7_street 92 = .ok (.putfield 121, 3) := by decide +kernel
theorem dX7_street_95 : decode cX7_street 95 = .ok (.aload_n 0, 1) := by decide +kernel
theorem dX7_street_96 : decode cX7_street 96 = .ok (.getfield 121, 3) := by decide +kernel
theorem dX7_street_99 : decode cX7_street 99 = .ok (.iconst 1, 1) := by decide +kernel
theorem dX7_street_100 : decode cX7_street 100 = .ok (.isub, 1) := by decide +kernel
theorem dX7_street_101 : decode cX7_street 101 = .ok (.ireturn, 1) := by decide +kernel
set_option maxRecDepth 20000 in
theorem ggX7_told_X2_needNow : GoodIn wsX7_told wsX2_needNow := goodIn_r _ [5, 6, 89, 90, 91, 92, 93, 94, 95, 96, 97, 98, 99, 100, 101, 102] (by decide +kernel) (by decide +kernel)
set_option maxRecDepth 20000 in
theorem gX7_told_X2_needNow_n155 : GoodIn wsX7_told (wsX2_needNow) := ggX7_told_X2_needNow
set_option maxRecDepth 20000 in
theorem ggX7_told_X2_holdNow : GoodIn wsX7_told wsX2_holdNow := goodIn_r _ [9, 6, 89, 90, 91, 92, 93, 94, 95, 96, 97, 98, 99, 100, 101, 102] (by decide +kernel) (by decide +kernel)
set_option maxRecDepth 20000 in
theorem gX7_told_X2_holdNow_n158 : GoodIn wsX7_told (wsX2_holdNow) := ggX7_told_X2_holdNow
set_option maxRecDepth 20000 in
theorem ggX7_told_X2_goingBits : GoodIn wsX7_told wsX2_goingBits := goodIn_r _ [12, 13, 14, 15, 16, 3, 17, 18, 19, 20, 21, 22, 23, 24, 25, 26, 27, 28, 29, 30, 7, 8, 9, 6, 31, 32, 33, 34, 35, 36, 37, 38, 39, 40, 41, 42, 43, 44, 45, 46, 47, 48, 49, 50, 51, 52, 53, 54, 55, 56, 57, 58, 59, 2, 4, 5, 60, 61, 62, 63, 64, 65, 66, 67, 89, 90, 91, 92, 93, 94, 95, 96, 97, 98, 99, 100, 101, 102] (by decide +kernel) (by decide +kernel)
set_option maxRecDepth 20000 in
theorem gX7_told_X2_goingBits_n164 : GoodIn wsX7_told (wsX2_goingBits) := ggX7_told_X2_goingBits
set_option maxRecDepth 20000 in
theorem ggX7_told_X2_marksOf : GoodIn wsX7_told wsX2_marksOf := goodIn_r _ [38, 13, 21, 89, 90, 91, 92, 93, 94, 95, 96, 97, 98, 99] (by decide +kernel) (by decide +kernel)
set_option maxRecDepth 20000 in
theorem gX7_told_X2_marksOf_n167 : GoodIn wsX7_told (wsX2_marksOf) := ggX7_told_X2_marksOf
set_option maxRecDepth 20000 in
theorem ggX7_told_X7_twinsNow : GoodIn wsX7_told wsX7_twinsNow := goodIn_r _ [72, 1, 73, 40, 41, 42, 43, 44, 45, 78, 79, 80, 81, 82, 83, 84, 85, 86, 87, 88, 89, 90, 91, 92, 93, 94, 95, 96, 97, 98, 99] (by decide +kernel) (by decide +kernel)
set_option maxRecDepth 20000 in
theorem gX7_told_X7_twinsNow : GoodIn wsX7_told (wsV RX7 170 RX7 yX7_twinsNow wsX7_twinsNow) := goodIn_app (goodIn_of _ (by decide +kernel)) ggX7_told_X7_twinsNow
set_option maxRecDepth 20000 in
theorem ggX7_told_X7_coverNow : GoodIn wsX7_told wsX7_coverNow := goodIn_r _ [77, 1, 36, 3, 37, 38, 13, 21, 73, 40, 41, 42, 43, 44, 45, 78, 79, 80, 81, 82, 83, 84, 85, 86, 87, 88, 89, 90, 91, 92, 93, 94, 95, 96, 97, 98, 99] (by decide +kernel) (by decide +kernel)
set_option maxRecDepth 20000 in
theorem gX7_told_X7_coverNow : GoodIn wsX7_told (wsV RX7 173 RX7 yX7_coverNow wsX7_coverNow) := goodIn_app (goodIn_of _ (by decide +kernel)) ggX7_told_X7_coverNow
theorem dX7_told_0 : decode cX7_told 0 = .ok (.iload_n 1, 1) := by decide +kernel
theorem dX7_told_1 : decode cX7_told 1 = .ok (.tableswitch 112 0 7 #[47, 55, 63, 71, 79, 87, 102, 107], 47) := by decide +kernel
theorem dX7_told_48 : decode cX7_told 48 = .ok (.aload_n 0, 1) := by decide +kernel
theorem dX7_told_49 : decode cX7_told 49 = .ok (.getfield 12, 3) := by decide +kernel
theorem dX7_told_52 : decode cX7_told 52 = .ok (.getfield 152, 3) := by decide +kernel
theorem dX7_told_55 : decode cX7_told 55 = .ok (.ireturn, 1) := by decide +kernel
theorem dX7_told_56 : decode cX7_told 56 = .ok (.aload_n 0, 1) := by decide +kernel
theorem dX7_told_57 : decode cX7_told 57 = .ok (.getfield 12, 3) := by decide +kernel
theorem dX7_told_60 : decode cX7_told 60 = .ok (.invokevirtual 155, 3) := by decide +kernel
theorem dX7_told_63 : decode cX7_told 63 = .ok (.ireturn, 1) := by decide +kernel
theorem dX7_told_64 : decode cX7_told 64 = .ok (.aload_n 0, 1) := by decide +kernel
theorem dX7_told_65 : decode cX7_told 65 = .ok (.getfield 12, 3) := by decide +kernel
theorem dX7_told_68 : decode cX7_told 68 = .ok (.invokevirtual 158, 3) := by decide +kernel
theorem dX7_told_71 : decode cX7_told 71 = .ok (.ireturn, 1) := by decide +kernel
theorem dX7_told_72 : decode cX7_told 72 = .ok (.aload_n 0, 1) := by decide +kernel
theorem dX7_told_73 : decode cX7_told 73 = .ok (.getfield 12, 3) := by decide +kernel
theorem dX7_told_76 : decode cX7_told 76 = .ok (.getfield 161, 3) := by decide +kernel
theorem dX7_told_79 : decode cX7_told 79 = .ok (.ireturn, 1) := by decide +kernel
theorem dX7_told_80 : decode cX7_told 80 = .ok (.aload_n 0, 1) := by decide +kernel
theorem dX7_told_81 : decode cX7_told 81 = .ok (.getfield 12, 3) := by decide +kernel
theorem dX7_told_84 : decode cX7_told 84 = .ok (.invokevirtual 164, 3) := by decide +kernel
theorem dX7_told_87 : decode cX7_told 87 = .ok (.ireturn, 1) := by decide +kernel
theorem dX7_told_88 : decode cX7_told 88 = .ok (.aload_n 0, 1) := by decide +kernel
theorem dX7_told_89 : decode cX7_told 89 = .ok (.getfield 12, 3) := by decide +kernel
theorem dX7_told_92 : decode cX7_told 92 = .ok (.aload_n 0, 1) := by decide +kernel
theorem dX7_told_93 : decode cX7_told 93 = .ok (.getfield 12, 3) := by decide +kernel
theorem dX7_told_96 : decode cX7_told 96 = .ok (.getfield 161, 3) := by decide +kernel
theorem dX7_told_99 : decode cX7_told 99 = .ok (.invokevirtual 167, 3) := by decide +kernel
theorem dX7_told_102 : decode cX7_told 102 = .ok (.ireturn, 1) := by decide +kernel
theorem dX7_told_103 : decode cX7_told 103 = .ok (.aload_n 0, 1) := by decide +kernel
theorem dX7_told_104 : decode cX7_told 104 = .ok (.invokevirtual 170, 3) := by decide +kernel
theorem dX7_told_107 : decode cX7_told 107 = .ok (.ireturn, 1) := by decide +kernel
theorem dX7_told_108 : decode cX7_told 108 = .ok (.aload_n 0, 1) := by decide +kernel
theorem dX7_told_109 : decode cX7_told 109 = .ok (.invokevirtual 173, 3) := by decide +kernel
theorem dX7_told_112 : decode cX7_told 112 = .ok (.ireturn, 1) := by decide +kernel
theorem dX7_told_113 : decode cX7_told 113 = .ok (.iconst (-1), 1) := by decide +kernel
theorem dX7_told_114 : decode cX7_told 114 = .ok (.ireturn, 1) := by decide +kernel
set_option maxRecDepth 20000 in
theorem ggX7_pass_X7_isWithin : GoodIn wsX7_pass wsX7_isWithin := goodIn_r _ [5] (by decide +kernel) (by decide +kernel)
set_option maxRecDepth 20000 in
theorem gX7_pass_X7_isWithin : GoodIn wsX7_pass (va_wsS RX7 62 yX7_isWithin wsX7_isWithin) := goodIn_app (goodIn_of _ (by decide +kernel)) ggX7_pass_X7_isWithin
set_option maxRecDepth 20000 in
theorem ggX7_pass_X2_daysGo : GoodIn wsX7_pass wsX2_daysGo := goodIn_r _ [9, 10, 11, 12, 7, 13, 14, 15, 16, 17, 18, 19, 20, 21, 22, 23, 24, 25, 26, 27, 28, 29, 30, 31, 32, 33, 34, 35, 36, 37, 38, 39, 40, 41, 42, 43, 44, 45, 46, 47, 48, 49, 50, 51, 52, 53, 54, 55, 56, 57, 58, 59, 60, 61, 62, 63, 64, 65, 66, 67, 68, 69, 70, 71, 72, 73, 74, 75, 76, 77, 78, 79, 91, 92, 93, 94, 95, 96, 97, 98, 99, 100, 101, 102, 103, 104] (by decide +kernel) (by decide +kernel)
set_option maxRecDepth 20000 in
theorem gX7_pass_X2_daysGo_n176 : GoodIn wsX7_pass (wsX2_daysGo) := ggX7_pass_X2_daysGo
theorem dX7_pass_0 : decode cX7_pass 0 = .ok (.iload_n 1, 1) := by decide +kernel
theorem dX7_pass_1 : decode cX7_pass 1 = .ok (.iconst 0, 1) := by decide +kernel
theorem dX7_pass_2 : decode cX7_pass 2 = .ok (.bipush 60, 2) := by decide +kernel
theorem dX7_pass_4 : decode cX7_pass 4 = .ok (.invokestatic 62, 3) := by decide +kernel
theorem dX7_pass_7 : decode cX7_pass 7 = .ok (.ifCond .ne 6, 3) := by decide +kernel
theorem dX7_pass_10 : decode cX7_pass 10 = .ok (.bipush (-2), 2) := by decide +kernel
theorem dX7_pass_12 : decode cX7_pass 12 = .ok (.ireturn, 1) := by decide +kernel
theorem dX7_pass_13 : decode cX7_pass 13 = .ok (.aload_n 0, 1) := by decide +kernel
theorem dX7_pass_14 : decode cX7_pass 14 = .ok (.getfield 12, 3) := by decide +kernel
theorem dX7_pass_17 : decode cX7_pass 17 = .ok (.getfield 152, 3) := by decide +kernel
theorem dX7_pass_20 : decode cX7_pass 20 = .ok (.iload_n 1, 1) := by decide +kernel
theorem dX7_pass_21 : decode cX7_pass 21 = .ok (.iadd, 1) := by decide +kernel
theorem dX7_pass_22 : decode cX7_pass 22 = .ok (.sipush 9999, 3) := by decide +kernel
theorem dX7_pass_25 : decode cX7_pass 25 = .ok (.if_icmp .le 6, 3) := by decide +kernel
theorem dX7_pass_28 : decode cX7_pass 28 = .ok (.bipush (-3), 2) := by decide +kernel
theorem dX7_pass_30 : decode cX7_pass 30 = .ok (.ireturn, 1) := by decide +kernel
theorem dX7_pass_31 : decode cX7_pass 31 = .ok (.aload_n 0, 1) := by decide +kernel
theorem dX7_pass_32 : decode cX7_pass 32 = .ok (.getfield 12, 3) := by decide +kernel
theorem dX7_pass_35 : decode cX7_pass 35 = .ok (.iload_n 1, 1) := by decide +kernel
theorem dX7_pass_36 : decode cX7_pass 36 = .ok (.invokevirtual 176, 3) := by decide +kernel
theorem dX7_pass_39 : decode cX7_pass 39 = .ok (.aload_n 0, 1) := by decide +kernel
theorem dX7_pass_40 : decode cX7_pass 40 = .ok (.getfield 12, 3) := by decide +kernel
theorem dX7_pass_43 : decode cX7_pass 43 = .ok (.getfield 108, 3) := by decide +kernel
theorem dX7_pass_46 : decode cX7_pass 46 = .ok (.ireturn, 1) := by decide +kernel
set_option maxRecDepth 20000 in
theorem ggX7_on_X7_isWithin : GoodIn wsX7_on wsX7_isWithin := goodIn_r _ [6] (by decide +kernel) (by decide +kernel)
set_option maxRecDepth 20000 in
theorem gX7_on_X7_isWithin : GoodIn wsX7_on (va_wsS RX7 62 yX7_isWithin wsX7_isWithin) := goodIn_app (goodIn_of _ (by decide +kernel)) ggX7_on_X7_isWithin
set_option maxRecDepth 20000 in
theorem ggX7_on_X2_becomeAs : GoodIn wsX7_on wsX2_becomeAs := goodIn_r _ [10, 11, 12, 13, 14, 15, 16, 17, 18, 19, 20, 21, 22, 23, 24, 99, 100, 101, 102, 103, 104, 105, 106, 107, 108, 109] (by decide +kernel) (by decide +kernel)
set_option maxRecDepth 20000 in
theorem gX7_on_X2_becomeAs_n179 : GoodIn wsX7_on (wsX2_becomeAs) := ggX7_on_X2_becomeAs
set_option maxRecDepth 20000 in
theorem ggX7_on_X2_daysGo : GoodIn wsX7_on wsX2_daysGo := goodIn_r _ [27, 28, 29, 30, 8, 31, 11, 23, 32, 33, 34, 35, 21, 20, 12, 18, 17, 19, 36, 37, 38, 39, 22, 40, 41, 42, 43, 24, 44, 45, 46, 47, 48, 49, 50, 51, 52, 53, 54, 55, 56, 57, 58, 59, 60, 61, 62, 63, 64, 65, 66, 67, 68, 69, 70, 71, 72, 73, 74, 75, 76, 77, 78, 79, 80, 81, 82, 83, 84, 85, 86, 87, 99, 100, 101, 102, 103, 104, 105, 106, 107, 108, 109, 110, 111, 112] (by decide +kernel) (by decide +kernel)
set_option maxRecDepth 20000 in
theorem gX7_on_X2_daysGo_n176 : GoodIn wsX7_on (wsX2_daysGo) := ggX7_on_X2_daysGo
theorem dX7_on_0 : decode cX7_on 0 = .ok (.iload_n 2, 1) := by decide +kernel
theorem dX7_on_1 : decode cX7_on 1 = .ok (.iconst 0, 1) := by decide +kernel
theorem dX7_on_2 : decode cX7_on 2 = .ok (.iconst 1, 1) := by decide +kernel
theorem dX7_on_3 : decode cX7_on 3 = .ok (.invokestatic 62, 3) := by decide +kernel
theorem dX7_on_6 : decode cX7_on 6 = .ok (.ifCond .ne 5, 3) := by decide +kernel
theorem dX7_on_9 : decode cX7_on 9 = .ok (.iconst (-1), 1) := by decide +kernel
theorem dX7_on_10 : decode cX7_on 10 = .ok (.ireturn, 1) := by decide +kernel
theorem dX7_on_11 : decode cX7_on 11 = .ok (.iload_n 1, 1) := by decide +kernel
theorem dX7_on_12 : decode cX7_on 12 = .ok (.iconst 0, 1) := by decide +kernel
theorem dX7_on_13 : decode cX7_on 13 = .ok (.bipush 60, 2) := by decide +kernel
theorem dX7_on_15 : decode cX7_on 15 = .ok (.invokestatic 62, 3) := by decide +kernel
theorem dX7_on_18 : decode cX7_on 18 = .ok (.ifCond .ne 6, 3) := by decide +kernel
theorem dX7_on_21 : decode cX7_on 21 = .ok (.bipush (-2), 2) := by decide +kernel
theorem dX7_on_23 : decode cX7_on 23 = .ok (.ireturn, 1) := by decide +kernel
theorem dX7_on_24 : decode cX7_on 24 = .ok (.aload_n 0, 1) := by decide +kernel
theorem dX7_on_25 : decode cX7_on 25 = .ok (.getfield 18, 3) := by decide +kernel
theorem dX7_on_28 : decode cX7_on 28 = .ok (.aload_n 0, 1) := by decide +kernel
theorem dX7_on_29 : decode cX7_on 29 = .ok (.getfield 12, 3) := by decide +kernel
theorem dX7_on_32 : decode cX7_on 32 = .ok (.invokevirtual 179, 3) := by decide +kernel
theorem dX7_on_35 : decode cX7_on 35 = .ok (.aload_n 0, 1) := by decide +kernel
theorem dX7_on_36 : decode cX7_on 36 = .ok (.getfield 18, 3) := by decide +kernel
theorem dX7_on_39 : decode cX7_on 39 = .ok (.iload_n 1, 1) := by decide +kernel
theorem dX7_on_40 : decode cX7_on 40 = .ok (.invokevirtual 176, 3) := by decide +kernel
theorem dX7_on_43 : decode cX7_on 43 = .ok (.iload_n 2, 1) := by decide +kernel
theorem dX7_on_44 : decode cX7_on 44 = .ok (.ifCond .ne 13, 3) := by decide +kernel
theorem dX7_on_47 : decode cX7_on 47 = .ok (.aload_n 0, 1) := by decide +kernel
theorem dX7_on_48 : decode cX7_on 48 = .ok (.getfield 18, 3) := by decide +kernel
theorem dX7_on_51 : decode cX7_on 51 = .ok (.getfield 161, 3) := by decide +kernel
theorem dX7_on_54 : decode cX7_on 54 = .ok (.goto 10, 3) := by decide +kernel
theorem dX7_on_57 : decode cX7_on 57 = .ok (.aload_n 0, 1) := by decide +kernel
theorem dX7_on_58 : decode cX7_on 58 = .ok (.getfield 18, 3) := by decide +kernel
theorem dX7_on_61 : decode cX7_on 61 = .ok (.getfield 108, 3) := by decide +kernel
theorem dX7_on_64 : decode cX7_on 64 = .ok (.ireturn, 1) := by decide +kernel
set_option maxRecDepth 20000 in
theorem ggX7_soon_X7_isWithin : GoodIn wsX7_soon wsX7_isWithin := goodIn_r _ [6] (by decide +kernel) (by decide +kernel)
set_option maxRecDepth 20000 in
theorem gX7_soon_X7_isWithin : GoodIn wsX7_soon (va_wsS RX7 62 yX7_isWithin wsX7_isWithin) := goodIn_app (goodIn_of _ (by decide +kernel)) ggX7_soon_X7_isWithin
set_option maxRecDepth 20000 in
theorem ggX7_soon_X2_becomeAs : GoodIn wsX7_soon wsX2_becomeAs := goodIn_r _ [10, 11, 12, 13, 14, 15, 16, 17, 18, 19, 20, 21, 22, 23, 24, 95, 96, 97, 98, 99, 100, 101, 102, 103, 104, 105] (by decide +kernel) (by decide +kernel)
set_option maxRecDepth 20000 in
theorem gX7_soon_X2_becomeAs_n179 : GoodIn wsX7_soon (wsX2_becomeAs) := ggX7_soon_X2_becomeAs
set_option maxRecDepth 20000 in
theorem ggX7_soon_X2_dayGoes : GoodIn wsX7_soon wsX2_dayGoes := goodIn_r _ [27, 11, 23, 28, 29, 30, 8, 31, 21, 20, 12, 18, 17, 19, 32, 33, 34, 35, 22, 36, 37, 38, 39, 24, 40, 41, 42, 43, 44, 45, 46, 47, 48, 49, 50, 51, 52, 53, 54, 55, 56, 57, 58, 59, 60, 61, 62, 63, 64, 65, 66, 67, 68, 69, 70, 71, 72, 73, 74, 75, 76, 77, 78, 79, 80, 81, 82, 83, 95, 96, 97, 98, 99, 100, 101, 102, 103, 104, 105, 106, 107, 108] (by decide +kernel) (by decide +kernel)
set_option maxRecDepth 20000 in
theorem gX7_soon_X2_dayGoes_n183 : GoodIn wsX7_soon (wsX2_dayGoes) := ggX7_soon_X2_dayGoes
theorem dX7_soon_0 : decode cX7_soon 0 = .ok (.iload_n 1, 1) := by decide +kernel
theorem dX7_soon_1 : decode cX7_soon 1 = .ok (.iconst 0, 1) := by decide +kernel
theorem dX7_soon_2 : decode cX7_soon 2 = .ok (.bipush 6, 2) := by decide +kernel
theorem dX7_soon_4 : decode cX7_soon 4 = .ok (.invokestatic 62, 3) := by decide +kernel
theorem dX7_soon_7 : decode cX7_soon 7 = .ok (.ifCond .ne 6, 3) := by decide +kernel
theorem dX7_soon_10 : decode cX7_soon 10 = .ok (.bipush (-2), 2) := by decide +kernel
theorem dX7_soon_12 : decode cX7_soon 12 = .ok (.ireturn, 1) := by decide +kernel
theorem dX7_soon_13 : decode cX7_soon 13 = .ok (.aload_n 0, 1) := by decide +kernel
theorem dX7_soon_14 : decode cX7_soon 14 = .ok (.getfield 18, 3) := by decide +kernel
theorem dX7_soon_17 : decode cX7_soon 17 = .ok (.aload_n 0, 1) := by decide +kernel
theorem dX7_soon_18 : decode cX7_soon 18 = .ok (.getfield 12, 3) := by decide +kernel
theorem dX7_soon_21 : decode cX7_soon 21 = .ok (.invokevirtual 179, 3) := by decide +kernel
theorem dX7_soon_24 : decode cX7_soon 24 = .ok (.iconst 0, 1) := by decide +kernel
theorem dX7_soon_25 : decode cX7_soon 25 = .ok (.istore_n 2, 1) := by decide +kernel
theorem dX7_soon_26 : decode cX7_soon 26 = .ok (.iload_n 2, 1) := by decide +kernel
theorem dX7_soon_27 : decode cX7_soon 27 = .ok (.bipush 60, 2) := by decide +kernel
theorem dX7_soon_29 : decode cX7_soon 29 = .ok (.if_icmp .gt 29, 3) := by decide +kernel
theorem dX7_soon_32 : decode cX7_soon 32 = .ok (.aload_n 0, 1) := by decide +kernel
theorem dX7_soon_33 : decode cX7_soon 33 = .ok (.getfield 18, 3) := by decide +kernel
theorem dX7_soon_36 : decode cX7_soon 36 = .ok (.getfield 108, 3) := by decide +kernel
theorem dX7_soon_39 : decode cX7_soon 39 = .ok (.iload_n 1, 1) := by decide +kernel
theorem dX7_soon_40 : decode cX7_soon 40 = .ok (.if_icmp .lt 5, 3) := by decide +kernel
theorem dX7_soon_43 : decode cX7_soon 43 = .ok (.iload_n 2, 1) := by decide +kernel
theorem dX7_soon_44 : decode cX7_soon 44 = .ok (.ireturn, 1) := by decide +kernel
theorem dX7_soon_45 : decode cX7_soon 45 = .ok (.aload_n 0, 1) := by decide +kernel
theorem dX7_soon_46 : decode cX7_soon 46 = .ok (.getfield 18, 3) := by decide +kernel
theorem dX7_soon_49 : decode cX7_soon 49 = .ok (.invokevirtual 183, 3) := by decide +kernel
theorem dX7_soon_52 : decode cX7_soon 52 = .ok (.iinc 2 1, 3) := by decide +kernel
theorem dX7_soon_55 : decode cX7_soon 55 = .ok (.goto (-29), 3) := by decide +kernel
theorem dX7_soon_58 : decode cX7_soon 58 = .ok (.bipush (-5), 2) := by decide +kernel
theorem dX7_soon_60 : decode cX7_soon 60 = .ok (.ireturn, 1) := by decide +kernel
set_option maxRecDepth 20000 in
theorem ggX7_when_X2_hasThing : GoodIn wsX7_when wsX2_hasThing := goodIn_r _ [6, 7, 94, 95, 96, 97, 98, 99, 100, 101, 102, 103, 104] (by decide +kernel) (by decide +kernel)
set_option maxRecDepth 20000 in
theorem gX7_when_X2_hasThing_n74 : GoodIn wsX7_when (wsX2_hasThing) := ggX7_when_X2_hasThing
set_option maxRecDepth 20000 in
theorem ggX7_when_X2_becomeAs : GoodIn wsX7_when wsX2_becomeAs := goodIn_r _ [10, 7, 11, 12, 13, 14, 15, 16, 17, 18, 19, 20, 21, 22, 23, 94, 95, 96, 97, 98, 99, 100, 101, 102, 103, 104] (by decide +kernel) (by decide +kernel)
set_option maxRecDepth 20000 in
theorem gX7_when_X2_becomeAs_n179 : GoodIn wsX7_when (wsX2_becomeAs) := ggX7_when_X2_becomeAs
set_option maxRecDepth 20000 in
theorem ggX7_when_X2_isHad : GoodIn wsX7_when wsX2_isHad := goodIn_r _ [26, 21, 94, 95, 96, 97, 98, 99, 100, 101, 102, 103, 104] (by decide +kernel) (by decide +kernel)
set_option maxRecDepth 20000 in
theorem gX7_when_X2_isHad_n186 : GoodIn wsX7_when (wsX2_isHad) := ggX7_when_X2_isHad
set_option maxRecDepth 20000 in
theorem ggX7_when_X2_dayGoes : GoodIn wsX7_when wsX2_dayGoes := goodIn_r _ [29, 7, 22, 30, 31, 32, 4, 33, 20, 19, 11, 17, 16, 18, 34, 24, 25, 26, 21, 35, 36, 37, 38, 23, 39, 40, 41, 42, 43, 44, 45, 46, 47, 48, 49, 50, 51, 52, 53, 54, 55, 56, 57, 58, 59, 60, 61, 62, 63, 64, 65, 66, 67, 68, 69, 70, 71, 72, 73, 74, 75, 76, 77, 78, 79, 80, 81, 82, 94, 95, 96, 97, 98, 99, 100, 101, 102, 103, 104, 105, 106, 107] (by decide +kernel) (by decide +kernel)
set_option maxRecDepth 20000 in
theorem gX7_when_X2_dayGoes_n183 : GoodIn wsX7_when (wsX2_dayGoes) := ggX7_when_X2_dayGoes
theorem dX7_when_0 : decode cX7_when 0 = .ok (.aload_n 0, 1) := by decide +kernel
theorem dX7_when_1 : decode cX7_when 1 = .ok (.getfield 12, 3) := by decide +kernel
theorem dX7_when_4 : decode cX7_when 4 = .ok (.iload_n 1, 1) := by decide +kernel
theorem dX7_when_5 : decode cX7_when 5 = .ok (.invokevirtual 74, 3) := by decide +kernel
theorem dX7_when_8 : decode cX7_when 8 = .ok (.ifCond .ne 5, 3) := by decide +kernel
theorem dX7_when_11 : decode cX7_when 11 = .ok (.iconst (-1), 1) := by decide +kernel
theorem dX7_when_12 : decode cX7_when 12 = .ok (.ireturn, 1) := by decide +kernel
theorem dX7_when_13 : decode cX7_when 13 = .ok (.aload_n 0, 1) := by decide +kernel
theorem dX7_when_14 : decode cX7_when 14 = .ok (.getfield 18, 3) := by decide +kernel
theorem dX7_when_17 : decode cX7_when 17 = .ok (.aload_n 0, 1) := by decide +kernel
theorem dX7_when_18 : decode cX7_when 18 = .ok (.getfield 12, 3) := by decide +kernel
theorem dX7_when_21 : decode cX7_when 21 = .ok (.invokevirtual 179, 3) := by decide +kernel
theorem dX7_when_24 : decode cX7_when 24 = .ok (.iconst 0, 1) := by decide +kernel
theorem dX7_when_25 : decode cX7_when 25 = .ok (.istore_n 2, 1) := by decide +kernel
theorem dX7_when_26 : decode cX7_when 26 = .ok (.iload_n 2, 1) := by decide +kernel
theorem dX7_when_27 : decode cX7_when 27 = .ok (.bipush 60, 2) := by decide +kernel
theorem dX7_when_29 : decode cX7_when 29 = .ok (.if_icmp .gt 29, 3) := by decide +kernel
theorem dX7_when_32 : decode cX7_when 32 = .ok (.aload_n 0, 1) := by decide +kernel
theorem dX7_when_33 : decode cX7_when 33 = .ok (.getfield 18, 3) := by decide +kernel
theorem dX7_when_36 : decode cX7_when 36 = .ok (.iload_n 1, 1) := by decide +kernel
theorem dX7_when_37 : decode cX7_when 37 = .ok (.invokevirtual 186, 3) := by decide +kernel
theorem dX7_when_40 : decode cX7_when 40 = .ok (.ifCond .eq 5, 3) := by decide +kernel
theorem dX7_when_43 : decode cX7_when 43 = .ok (.iload_n 2, 1) := by decide +kernel
theorem dX7_when_44 : decode cX7_when 44 = .ok (.ireturn, 1) := by decide +kernel
theorem dX7_when_45 : decode cX7_when 45 = .ok (.aload_n 0, 1) := by decide +kernel
theorem dX7_when_46 : decode cX7_when 46 = .ok (.getfield 18, 3) := by decide +kernel
theorem dX7_when_49 : decode cX7_when 49 = .ok (.invokevirtual 183, 3) := by decide +kernel
theorem dX7_when_52 : decode cX7_when 52 = .ok (.iinc 2 1, 3) := by decide +kernel
theorem dX7_when_55 : decode cX7_when 55 = .ok (.goto (-29), 3) := by decide +kernel
theorem dX7_when_58 : decode cX7_when 58 = .ok (.bipush (-5), 2) := by decide +kernel
theorem dX7_when_60 : decode cX7_when 60 = .ok (.ireturn, 1) := by decide +kernel
set_option maxRecDepth 20000 in
theorem ggX7_most_X7_isWithin : GoodIn wsX7_most wsX7_isWithin := goodIn_r _ [7] (by decide +kernel) (by decide +kernel)
set_option maxRecDepth 20000 in
theorem gX7_most_X7_isWithin : GoodIn wsX7_most (va_wsS RX7 62 yX7_isWithin wsX7_isWithin) := goodIn_app (goodIn_of _ (by decide +kernel)) ggX7_most_X7_isWithin
set_option maxRecDepth 20000 in
theorem ggX7_most_X2_becomeAs : GoodIn wsX7_most wsX2_becomeAs := goodIn_r _ [11, 12, 13, 14, 15, 16, 17, 18, 19, 20, 21, 22, 23, 24, 25, 118, 119, 120, 121, 122, 123, 124, 125, 126, 127, 128] (by decide +kernel) (by decide +kernel)
set_option maxRecDepth 20000 in
theorem gX7_most_X2_becomeAs_n179 : GoodIn wsX7_most (wsX2_becomeAs) := ggX7_most_X2_becomeAs
set_option maxRecDepth 20000 in
theorem ggX7_most_X3_longestRow : GoodIn wsX7_most wsX3_longestRow := goodIn_r _ [29, 30, 31, 32, 33, 34, 35, 9, 36, 37, 25, 38, 39, 40, 27, 41, 42, 43, 44, 45, 22, 21, 13, 19, 18, 24, 20, 46, 47, 48, 49, 23, 50, 51, 52, 53, 54, 55, 56, 57, 58, 12, 59, 60, 61, 62, 63, 64, 65, 66, 67, 68, 69, 70, 71, 72, 73, 74, 75, 76, 77, 78, 79, 80, 81, 82, 83, 84, 85, 86, 87, 88, 89, 90, 91, 92, 93, 94, 95, 96, 15, 16, 17, 97, 98, 99, 100, 101, 102, 114, 115, 116, 117, 118, 119, 120, 121, 122, 123, 124, 125, 126, 127, 128, 129, 130, 131] (by decide +kernel) (by decide +kernel)
set_option maxRecDepth 20000 in
theorem gX7_most_X3_longestRow_n189 : GoodIn wsX7_most (wsX3_longestRow) := ggX7_most_X3_longestRow
theorem dX7_most_0 : decode cX7_most 0 = .ok (.iload_n 1, 1) := by decide +kernel
theorem dX7_most_1 : decode cX7_most 1 = .ok (.iconst (-1), 1) := by decide +kernel
theorem dX7_most_2 : decode cX7_most 2 = .ok (.iconst 5, 1) := by decide +kernel
theorem dX7_most_3 : decode cX7_most 3 = .ok (.invokestatic 62, 3) := by decide +kernel
theorem dX7_most_6 : decode cX7_most 6 = .ok (.ifCond .ne 5, 3) := by decide +kernel
theorem dX7_most_9 : decode cX7_most 9 = .ok (.iconst (-1), 1) := by decide +kernel
theorem dX7_most_10 : decode cX7_most 10 = .ok (.ireturn, 1) := by decide +kernel
theorem dX7_most_11 : decode cX7_most 11 = .ok (.aload_n 0, 1) := by decide +kernel
theorem dX7_most_12 : decode cX7_most 12 = .ok (.getfield 18, 3) := by decide +kernel
theorem dX7_most_15 : decode cX7_most 15 = .ok (.aload_n 0, 1) := by decide +kernel
theorem dX7_most_16 : decode cX7_most 16 = .ok (.getfield 12, 3) := by decide +kernel
theorem dX7_most_19 : decode cX7_most 19 = .ok (.invokevirtual 179, 3) := by decide +kernel
theorem dX7_most_22 : decode cX7_most 22 = .ok (.aload_n 0, 1) := by decide +kernel
theorem dX7_most_23 : decode cX7_most 23 = .ok (.getfield 44, 3) := by decide +kernel
theorem dX7_most_26 : decode cX7_most 26 = .ok (.aload_n 0, 1) := by decide +kernel
theorem dX7_most_27 : decode cX7_most 27 = .ok (.getfield 18, 3) := by decide +kernel
theorem dX7_most_30 : decode cX7_most 30 = .ok (.invokevirtual 189, 3) := by decide +kernel
theorem dX7_most_33 : decode cX7_most 33 = .ok (.istore_n 2, 1) := by decide +kernel
theorem dX7_most_34 : decode cX7_most 34 = .ok (.iload_n 1, 1) := by decide +kernel
theorem dX7_most_35 : decode cX7_most 35 = .ok (.ifCond .ge 5, 3) := by decide +kernel
theorem dX7_most_38 : decode cX7_most 38 = .ok (.iload_n 2, 1) := by decide +kernel
theorem dX7_most_39 : decode cX7_most 39 = .ok (.ireturn, 1) := by decide +kernel
theorem dX7_most_40 : decode cX7_most 40 = .ok (.iload_n 1, 1) := by decide +kernel
theorem dX7_most_41 : decode cX7_most 41 = .ok (.iload_n 2, 1) := by decide +kernel
theorem dX7_most_42 : decode cX7_most 42 = .ok (.if_icmp .ge 15, 3) := by decide +kernel
theorem dX7_most_45 : decode cX7_most 45 = .ok (.aload_n 0, 1) := by decide +kernel
theorem dX7_most_46 : decode cX7_most 46 = .ok (.getfield 44, 3) := by decide +kernel
theorem dX7_most_49 : decode cX7_most 49 = .ok (.getfield 193, 3) := by decide +kernel
theorem dX7_most_52 : decode cX7_most 52 = .ok (.iload_n 1, 1) := by decide +kernel
theorem dX7_most_53 : decode cX7_most 53 = .ok (.iaload, 1) := by decide +kernel
theorem dX7_most_54 : decode cX7_most 54 = .ok (.goto 5, 3) := by decide +kernel
theorem dX7_most_57 : decode cX7_most 57 = .ok (.bipush (-5), 2) := by decide +kernel
theorem dX7_most_59 : decode cX7_most 59 = .ok (.ireturn, 1) := by decide +kernel
set_option maxRecDepth 20000 in
theorem ggX7_best_X7_bestStart : GoodIn wsX7_best wsX7_bestStart := goodIn_r _ [5, 6, 7, 8, 9, 10, 11, 12, 13, 14, 15, 16, 17, 18, 19, 20, 21, 22, 23, 24, 25, 26, 27, 28, 29, 30, 31, 32, 33, 34, 35, 36, 37, 38, 39, 40, 41, 42, 43, 44, 45, 46, 47, 48, 49, 50, 51, 52, 53, 54, 55, 56, 57, 58, 59, 60, 61, 62, 63, 64, 65, 66, 67, 68, 69, 70, 71, 72, 73, 74, 75, 76, 77, 78, 79, 80, 81, 82, 83, 84, 85, 86, 87, 88, 89, 90, 91, 92, 93, 94, 95, 96, 97, 98, 99, 100, 101, 102, 103, 111, 112, 113, 114, 115, 116, 117, 118, 119, 120, 121, 122, 123, 124, 125, 126, 127, 128, 129, 130, 131, 132, 133, 134, 135, 136, 137, 138, 139] (by decide +kernel) (by decide +kernel)
set_option maxRecDepth 20000 in
theorem gX7_best_X7_bestStart : GoodIn wsX7_best (wsV RX7 196 RX7 yX7_bestStart wsX7_bestStart) := goodIn_app (goodIn_of _ (by decide +kernel)) ggX7_best_X7_bestStart
set_option maxRecDepth 20000 in
theorem ggX7_best_X7_bestBack : GoodIn wsX7_best wsX7_bestBack := goodIn_r _ [107, 6, 7, 8, 9, 10, 11, 12, 13, 14, 15, 16, 17, 18, 19, 20, 21, 22, 23, 24, 25, 26, 27, 28, 29, 30, 31, 32, 33, 34, 35, 36, 37, 38, 39, 40, 41, 42, 43, 44, 45, 46, 47, 48, 49, 50, 51, 52, 53, 54, 55, 56, 57, 58, 59, 60, 61, 62, 63, 64, 65, 66, 67, 68, 69, 70, 71, 72, 73, 74, 75, 76, 77, 78, 79, 80, 81, 82, 83, 84, 85, 86, 87, 88, 89, 90, 91, 92, 93, 94, 95, 96, 97, 98, 99, 100, 101, 102, 103, 108, 109, 110, 111, 112, 113, 114, 115, 116, 117, 118, 119, 120, 121, 126, 127, 128, 129, 130, 131, 132, 133, 134, 135, 136, 122, 123, 124, 125, 137, 138, 139] (by decide +kernel) (by decide +kernel)
set_option maxRecDepth 20000 in
theorem gX7_best_X7_bestBack : GoodIn wsX7_best (wsV RX7 199 RX7 yX7_bestBack wsX7_bestBack) := goodIn_app (goodIn_of _ (by decide +kernel)) ggX7_best_X7_bestBack
theorem dX7_best_0 : decode cX7_best 0 = .ok (.iload_n 1, 1) := by decide +kernel
theorem dX7_best_1 : decode cX7_best 1 = .ok (.ifCond .ne 8, 3) := by decide +kernel
theorem dX7_best_4 : decode cX7_best 4 = .ok (.aload_n 0, 1) := by decide +kernel
theorem dX7_best_5 : decode cX7_best 5 = .ok (.invokevirtual 196, 3) := by decide +kernel
theorem dX7_best_8 : decode cX7_best 8 = .ok (.ireturn, 1) := by decide +kernel
theorem dX7_best_9 : decode cX7_best 9 = .ok (.iload_n 1, 1) := by decide +kernel
theorem dX7_best_10 : decode cX7_best 10 = .ok (.iconst 1, 1) := by decide +kernel
theorem dX7_best_11 : decode cX7_best 11 = .ok (.if_icmp .ne 8, 3) := by decide +kernel
theorem dX7_best_14 : decode cX7_best 14 = .ok (.aload_n 0, 1) := by decide +kernel
theorem dX7_best_15 : decode cX7_best 15 = .ok (.invokevirtual 199, 3) := by decide +kernel
theorem dX7_best_18 : decode cX7_best 18 = .ok (.ireturn, 1) := by decide +kernel
theorem dX7_best_19 : decode cX7_best 19 = .ok (.iconst (-1), 1) := by decide +kernel
theorem dX7_best_20 : decode cX7_best 20 = .ok (.ireturn, 1) := by decide +kernel
set_option maxRecDepth 20000 in
theorem ggX7_reach_X2_hasThing : GoodIn wsX7_reach wsX2_hasThing := goodIn_r _ [7, 8, 102, 103, 104, 105, 106, 107, 108, 109, 110, 111, 112] (by decide +kernel) (by decide +kernel)
set_option maxRecDepth 20000 in
theorem gX7_reach_X2_hasThing_n74 : GoodIn wsX7_reach (wsX2_hasThing) := ggX7_reach_X2_hasThing
set_option maxRecDepth 20000 in
theorem ggX7_reach_X2_isHad : GoodIn wsX7_reach wsX2_isHad := goodIn_r _ [11, 12, 102, 103, 104, 105, 106, 107, 108, 109, 110, 111, 112] (by decide +kernel) (by decide +kernel)
set_option maxRecDepth 20000 in
theorem gX7_reach_X2_isHad_n186 : GoodIn wsX7_reach (wsX2_isHad) := ggX7_reach_X2_isHad
set_option maxRecDepth 20000 in
theorem ggX7_reach_X2_becomeAs : GoodIn wsX7_reach wsX2_becomeAs := goodIn_r _ [15, 8, 16, 17, 18, 19, 20, 21, 22, 23, 24, 25, 12, 26, 27, 102, 103, 104, 105, 106, 107, 108, 109, 110, 111, 112] (by decide +kernel) (by decide +kernel)
set_option maxRecDepth 20000 in
theorem gX7_reach_X2_becomeAs_n179 : GoodIn wsX7_reach (wsX2_becomeAs) := ggX7_reach_X2_becomeAs
set_option maxRecDepth 20000 in
theorem ggX7_reach_X3_fewestAhead : GoodIn wsX7_reach wsX3_fewestAhead := goodIn_r _ [31, 32, 33, 34, 35, 29, 36, 37, 5, 38, 39, 25, 24, 16, 22, 21, 26, 23, 40, 9, 10, 11, 12, 41, 42, 43, 44, 27, 45, 46, 47, 48, 49, 50, 51, 52, 8, 53, 54, 55, 56, 57, 58, 59, 60, 61, 62, 63, 64, 65, 66, 67, 68, 69, 70, 71, 72, 73, 74, 75, 76, 77, 78, 79, 80, 81, 82, 83, 84, 85, 86, 87, 88, 89, 90, 113, 114, 115, 116, 102, 103, 104, 105, 106, 107, 108, 109, 110, 111, 112, 117, 118, 119] (by decide +kernel) (by decide +kernel)
set_option maxRecDepth 20000 in
theorem gX7_reach_X3_fewestAhead_n202 : GoodIn wsX7_reach (wsX3_fewestAhead) := ggX7_reach_X3_fewestAhead
theorem dX7_reach_0 : decode cX7_reach 0 = .ok (.aload_n 0, 1) := by decide +kernel
theorem dX7_reach_1 : decode cX7_reach 1 = .ok (.getfield 12, 3) := by decide +kernel
theorem dX7_reach_4 : decode cX7_reach 4 = .ok (.iload_n 1, 1) := by decide +kernel
theorem dX7_reach_5 : decode cX7_reach 5 = .ok (.invokevirtual 74, 3) := by decide +kernel
theorem dX7_reach_8 : decode cX7_reach 8 = .ok (.ifCond .ne 5, 3) := by decide +kernel
theorem dX7_reach_11 : decode cX7_reach 11 = .ok (.iconst (-1), 1) := by decide +kernel
theorem dX7_reach_12 : decode cX7_reach 12 = .ok (.ireturn, 1) := by decide +kernel
theorem dX7_reach_13 : decode cX7_reach 13 = .ok (.aload_n 0, 1) := by decide +kernel
theorem dX7_reach_14 : decode cX7_reach 14 = .ok (.getfield 12, 3) := by decide +kernel
theorem dX7_reach_17 : decode cX7_reach 17 = .ok (.iload_n 1, 1) := by decide +kernel
theorem dX7_reach_18 : decode cX7_reach 18 = .ok (.invokevirtual 186, 3) := by decide +kernel
theorem dX7_reach_21 : decode cX7_reach 21 = .ok (.ifCond .eq 6, 3) := by decide +kernel
theorem dX7_reach_24 : decode cX7_reach 24 = .ok (.bipush (-5), 2) := by decide +kernel
theorem dX7_reach_26 : decode cX7_reach 26 = .ok (.ireturn, 1) := by decide +kernel
theorem dX7_reach_27 : decode cX7_reach 27 = .ok (.aload_n 0, 1) := by decide +kernel
theorem dX7_reach_28 : decode cX7_reach 28 = .ok (.getfield 18, 3) := by decide +kernel
theorem dX7_reach_31 : decode cX7_reach 31 = .ok (.aload_n 0, 1) := by decide +kernel
theorem dX7_reach_32 : decode cX7_reach 32 = .ok (.getfield 12, 3) := by decide +kernel
theorem dX7_reach_35 : decode cX7_reach 35 = .ok (.invokevirtual 179, 3) := by decide +kernel
theorem dX7_reach_38 : decode cX7_reach 38 = .ok (.aload_n 0, 1) := by decide +kernel
theorem dX7_reach_39 : decode cX7_reach 39 = .ok (.getfield 44, 3) := by decide +kernel
theorem dX7_reach_42 : decode cX7_reach 42 = .ok (.aload_n 0, 1) := by decide +kernel
theorem dX7_reach_43 : decode cX7_reach 43 = .ok (.getfield 18, 3) := by decide +kernel
theorem dX7_reach_46 : decode cX7_reach 46 = .ok (.iload_n 1, 1) := by decide +kernel
theorem dX7_reach_47 : decode cX7_reach 47 = .ok (.invokevirtual 202, 3) := by decide +kernel
theorem dX7_reach_50 : decode cX7_reach 50 = .ok (.ireturn, 1) := by decide +kernel
set_option maxRecDepth 20000 in
theorem ggX7_fitting_X2_hasThing : GoodIn wsX7_fitting wsX2_hasThing := goodIn_r _ [6, 7, 90, 91, 92, 93, 94, 95, 96, 97, 98, 99, 100] (by decide +kernel) (by decide +kernel)
set_option maxRecDepth 20000 in
theorem gX7_fitting_X2_hasThing_n74 : GoodIn wsX7_fitting (wsX2_hasThing) := ggX7_fitting_X2_hasThing
set_option maxRecDepth 20000 in
theorem ggX7_fitting_X7_isWithin : GoodIn wsX7_fitting wsX7_isWithin := goodIn_r _ [11] (by decide +kernel) (by decide +kernel)
set_option maxRecDepth 20000 in
theorem gX7_fitting_X7_isWithin : GoodIn wsX7_fitting (va_wsS RX7 62 yX7_isWithin wsX7_isWithin) := goodIn_app (goodIn_of _ (by decide +kernel)) ggX7_fitting_X7_isWithin
set_option maxRecDepth 20000 in
theorem ggX7_fitting_X2_becomeAs : GoodIn wsX7_fitting wsX2_becomeAs := goodIn_r _ [14, 7, 15, 16, 17, 18, 19, 20, 21, 22, 23, 24, 25, 26, 27, 90, 91, 92, 93, 94, 95, 96, 97, 98, 99, 100] (by decide +kernel) (by decide +kernel)
set_option maxRecDepth 20000 in
theorem gX7_fitting_X2_becomeAs_n179 : GoodIn wsX7_fitting (wsX2_becomeAs) := ggX7_fitting_X2_becomeAs
set_option maxRecDepth 20000 in
theorem ggX7_fitting_X2_goesNow : GoodIn wsX7_fitting wsX2_goesNow := goodIn_r _ [30, 24, 23, 15, 21, 20, 26, 22, 31, 32, 33, 4, 34, 25, 35, 36, 37, 38, 27, 39, 40, 41, 42, 43, 44, 45, 46, 7, 47, 48, 49, 50, 51, 52, 53, 54, 55, 56, 57, 58, 59, 60, 61, 62, 63, 64, 65, 66, 67, 68, 69, 70, 71, 72, 73, 74, 75, 76, 77, 78, 90, 91, 92, 93, 94, 95, 96, 97, 98, 99, 100, 101, 102, 103] (by decide +kernel) (by decide +kernel)
set_option maxRecDepth 20000 in
theorem gX7_fitting_X2_goesNow_n98 : GoodIn wsX7_fitting (wsX2_goesNow) := ggX7_fitting_X2_goesNow
theorem dX7_fitting_0 : decode cX7_fitting 0 = .ok (.aload_n 0, 1) := by decide +kernel
theorem dX7_fitting_1 : decode cX7_fitting 1 = .ok (.getfield 12, 3) := by decide +kernel
theorem dX7_fitting_4 : decode cX7_fitting 4 = .ok (.iload_n 1, 1) := by decide +kernel
theorem dX7_fitting_5 : decode cX7_fitting 5 = .ok (.invokevirtual 74, 3) := by decide +kernel
theorem dX7_fitting_8 : decode cX7_fitting 8 = .ok (.ifCond .eq 12, 3) := by decide +kernel
theorem dX7_fitting_11 : decode cX7_fitting 11 = .ok (.iload_n 2, 1) := by decide +kernel
theorem dX7_fitting_12 : decode cX7_fitting 12 = .ok (.iconst 0, 1) := by decide +kernel
theorem dX7_fitting_13 : decode cX7_fitting 13 = .ok (.iconst 1, 1) := by decide +kernel
theorem dX7_fitting_14 : decode cX7_fitting 14 = .ok (.invokestatic 62, 3) := by decide +kernel
theorem dX7_fitting_17 : decode cX7_fitting 17 = .ok (.ifCond .ne 5, 3) := by decide +kernel
theorem dX7_fitting_20 : decode cX7_fitting 20 = .ok (.iconst (-1), 1) := by decide +kernel
theorem dX7_fitting_21 : decode cX7_fitting 21 = .ok (.ireturn, 1) := by decide +kernel
theorem dX7_fitting_22 : decode cX7_fitting 22 = .ok (.iconst 0, 1) := by decide +kernel
theorem dX7_fitting_23 : decode cX7_fitting 23 = .ok (.istore_n 3, 1) := by decide +kernel
theorem dX7_fitting_24 : decode cX7_fitting 24 = .ok (.bipush (-5), 2) := by decide +kernel
theorem dX7_fitting_26 : decode cX7_fitting 26 = .ok (.istore 4, 2) := by decide +kernel
theorem dX7_fitting_28 : decode cX7_fitting 28 = .ok (.aload_n 0, 1) := by decide +kernel
theorem dX7_fitting_29 : decode cX7_fitting 29 = .ok (.getfield 18, 3) := by decide +kernel
theorem dX7_fitting_32 : decode cX7_fitting 32 = .ok (.aload_n 0, 1) := by decide +kernel
theorem dX7_fitting_33 : decode cX7_fitting 33 = .ok (.getfield 12, 3) := by decide +kernel
theorem dX7_fitting_36 : decode cX7_fitting 36 = .ok (.invokevirtual 179, 3) := by decide +kernel
theorem dX7_fitting_39 : decode cX7_fitting 39 = .ok (.iconst 0, 1) := by decide +kernel
theorem dX7_fitting_40 : decode cX7_fitting 40 = .ok (.istore 5, 2) := by decide +kernel
theorem dX7_fitting_42 : decode cX7_fitting 42 = .ok (.iload 5, 2) := by decide +kernel
theorem dX7_fitting_44 : decode cX7_fitting 44 = .ok (.sipush 255, 3) := by decide +kernel
theorem dX7_fitting_47 : decode cX7_fitting 47 = .ok (.if_icmp .gt 47, 3) := by decide +kernel
theorem dX7_fitting_50 : decode cX7_fitting 50 = .ok (.aload_n 0, 1) := by decide +kernel
theorem dX7_fitting_51 : decode cX7_fitting 51 = .ok (.getfield 18, 3) := by decide +kernel
theorem dX7_fitting_54 : decode cX7_fitting 54 = .ok (.getfield 85, 3) := by decide +kernel
theorem dX7_fitting_57 : decode cX7_fitting 57 = .ok (.iload_n 1, 1) := by decide +kernel
theorem dX7_fitting_58 : decode cX7_fitting 58 = .ok (.iload 5, 2) := by decide +kernel
theorem dX7_fitting_60 : decode cX7_fitting 60 = .ok (.iastore, 1) := by decide +kernel
theorem dX7_fitting_61 : decode cX7_fitting 61 = .ok (.aload_n 0, 1) := by decide +kernel
theorem dX7_fitting_62 : decode cX7_fitting 62 = .ok (.getfield 18, 3) := by decide +kernel
theorem dX7_fitting_65 : decode cX7_fitting 65 = .ok (.iload_n 1, 1) := by decide +kernel
theorem dX7_fitting_66 : decode cX7_fitting 66 = .ok (.invokevirtual 98, 3) := by decide +kernel
theorem dX7_fitting_69 : decode cX7_fitting 69 = .ok (.ifCond .eq 19, 3) := by decide +kernel
theorem dX7_fitting_72 : decode cX7_fitting 72 = .ok (.iload_n 3, 1) := by decide +kernel
theorem dX7_fitting_73 : decode cX7_fitting 73 = .ok (.ifCond .ne 8, 3) := by decide +kernel
theorem dX7_fitting_76 : decode cX7_fitting 76 = .ok (.iload 5, 2) := by decide +kernel
theorem dX7_fitting_78 : decode cX7_fitting 78 = .ok (.goto 5, 3) := by decide +kernel
theorem dX7_fitting_81 : decode cX7_fitting 81 = .ok (.iload 4, 2) := by decide +kernel
theorem dX7_fitting_83 : decode cX7_fitting 83 = .ok (.istore 4, 2) := by decide +kernel
theorem dX7_fitting_85 : decode cX7_fitting 85 = .ok (.iinc 3 1, 3) := by decide +kernel
theorem dX7_fitting_88 : decode cX7_fitting 88 = .ok (.iinc 5 1, 3) := by decide +kernel
theorem dX7_fitting_91 : decode cX7_fitting 91 = .ok (.goto (-49), 3) := by decide +kernel
theorem dX7_fitting_94 : decode cX7_fitting 94 = .ok (.iload_n 2, 1) := by decide +kernel
theorem dX7_fitting_95 : decode cX7_fitting 95 = .ok (.ifCond .ne 7, 3) := by decide +kernel
theorem dX7_fitting_98 : decode cX7_fitting 98 = .ok (.iload_n 3, 1) := by decide +kernel
theorem dX7_fitting_99 : decode cX7_fitting 99 = .ok (.goto 5, 3) := by decide +kernel
theorem dX7_fitting_102 : decode cX7_fitting 102 = .ok (.iload 4, 2) := by decide +kernel
theorem dX7_fitting_104 : decode cX7_fitting 104 = .ok (.ireturn, 1) := by decide +kernel
set_option maxRecDepth 20000 in
theorem ggX7_see_X2_hasThing : GoodIn wsX7_see wsX2_hasThing := goodIn_r _ [6, 7, 41, 42, 43, 44, 45, 46, 47, 48, 49, 50, 51] (by decide +kernel) (by decide +kernel)
set_option maxRecDepth 20000 in
theorem gX7_see_X2_hasThing_n74 : GoodIn wsX7_see (wsX2_hasThing) := ggX7_see_X2_hasThing
set_option maxRecDepth 20000 in
theorem ggX7_see_X7_isWithin : GoodIn wsX7_see wsX7_isWithin := goodIn_r _ [11] (by decide +kernel) (by decide +kernel)
set_option maxRecDepth 20000 in
theorem gX7_see_X7_isWithin : GoodIn wsX7_see (va_wsS RX7 62 yX7_isWithin wsX7_isWithin) := goodIn_app (goodIn_of _ (by decide +kernel)) ggX7_see_X7_isWithin
set_option maxRecDepth 20000 in
theorem ggX7_see_X1_addSeen : GoodIn wsX7_see wsX1_addSeen := goodIn_r _ [15, 16, 17, 18, 19, 31, 32, 33, 34, 35, 36, 37, 38, 39, 40] (by decide +kernel) (by decide +kernel)
set_option maxRecDepth 20000 in
theorem gX7_see_X1_addSeen_n209 : GoodIn wsX7_see (wsX1_addSeen) := ggX7_see_X1_addSeen
theorem dX7_see_0 : decode cX7_see 0 = .ok (.iload_n 1, 1) := by decide +kernel
theorem dX7_see_1 : decode cX7_see 1 = .ok (.iconst (-1), 1) := by decide +kernel
theorem dX7_see_2 : decode cX7_see 2 = .ok (.if_icmp .ne 13, 3) := by decide +kernel
theorem dX7_see_5 : decode cX7_see 5 = .ok (.aload_n 0, 1) := by decide +kernel
theorem dX7_see_6 : decode cX7_see 6 = .ok (.getfield 24, 3) := by decide +kernel
theorem dX7_see_9 : decode cX7_see 9 = .ok (.iconst 0, 1) := by decide +kernel
theorem dX7_see_10 : decode cX7_see 10 = .ok (.putfield 206, 3) := by decide +kernel
theorem dX7_see_13 : decode cX7_see 13 = .ok (.iconst 0, 1) := by decide +kernel
theorem dX7_see_14 : decode cX7_see 14 = .ok (.ireturn, 1) := by decide +kernel
theorem dX7_see_15 : decode cX7_see 15 = .ok (.aload_n 0, 1) := by decide +kernel
theorem dX7_see_16 : decode cX7_see 16 = .ok (.getfield 12, 3) := by decide +kernel
theorem dX7_see_19 : decode cX7_see 19 = .ok (.iload_n 1, 1) := by decide +kernel
theorem dX7_see_20 : decode cX7_see 20 = .ok (.invokevirtual 74, 3) := by decide +kernel
theorem dX7_see_23 : decode cX7_see 23 = .ok (.ifCond .ne 5, 3) := by decide +kernel
theorem dX7_see_26 : decode cX7_see 26 = .ok (.iconst (-1), 1) := by decide +kernel
theorem dX7_see_27 : decode cX7_see 27 = .ok (.ireturn, 1) := by decide +kernel
theorem dX7_see_28 : decode cX7_see 28 = .ok (.iload_n 3, 1) := by decide +kernel
theorem dX7_see_29 : decode cX7_see 29 = .ok (.iconst 0, 1) := by decide +kernel
theorem dX7_see_30 : decode cX7_see 30 = .ok (.bipush 20, 2) := by decide +kernel
theorem dX7_see_32 : decode cX7_see 32 = .ok (.invokestatic 62, 3) := by decide +kernel
theorem dX7_see_35 : decode cX7_see 35 = .ok (.ifCond .ne 6, 3) := by decide +kernel
theorem dX7_see_38 : decode cX7_see 38 = .ok (.bipush (-2), 2) := by decide +kernel
theorem dX7_see_40 : decode cX7_see 40 = .ok (.ireturn, 1) := by decide +kernel
theorem dX7_see_41 : decode cX7_see 41 = .ok (.aload_n 0, 1) := by decide +kernel
theorem dX7_see_42 : decode cX7_see 42 = .ok (.getfield 24, 3) := by decide +kernel
theorem dX7_see_45 : decode cX7_see 45 = .ok (.getfield 206, 3) := by decide +kernel
theorem dX7_see_48 : decode cX7_see 48 = .ok (.iconst 5, 1) := by decide +kernel
theorem dX7_see_49 : decode cX7_see 49 = .ok (.if_icmp .lt 6, 3) := by decide +kernel
theorem dX7_see_52 : decode cX7_see 52 = .ok (.bipush (-4), 2) := by decide +kernel
theorem dX7_see_54 : decode cX7_see 54 = .ok (.ireturn, 1) := by decide +kernel
theorem dX7_see_55 : decode cX7_see 55 = .ok (.aload_n 0, 1) := by decide +kernel
theorem dX7_see_56 : decode cX7_see 56 = .ok (.getfield 24, 3) := by decide +kernel
theorem dX7_see_59 : decode cX7_see 59 = .ok (.iload_n 1, 1) := by decide +kernel
theorem dX7_see_60 : decode cX7_see 60 = .ok (.iload_n 2, 1) := by decide +kernel
theorem dX7_see_61 : decode cX7_see 61 = .ok (.iload_n 3, 1) := by decide +kernel
theorem dX7_see_62 : decode cX7_see 62 = .ok (.invokevirtual 209, 3) := by decide +kernel
theorem dX7_see_65 : decode cX7_see 65 = .ok (.ireturn, 1) := by decide +kernel
set_option maxRecDepth 20000 in
theorem ggX7_marked_X2_hasThing : GoodIn wsX7_marked wsX2_hasThing := goodIn_r _ [7, 8, 115, 116, 117, 118, 119, 120, 121, 122, 123, 124, 125] (by decide +kernel) (by decide +kernel)
set_option maxRecDepth 20000 in
theorem gX7_marked_X2_hasThing_n74 : GoodIn wsX7_marked (wsX2_hasThing) := ggX7_marked_X2_hasThing
set_option maxRecDepth 20000 in
theorem ggX7_marked_X7_isWithin : GoodIn wsX7_marked wsX7_isWithin := goodIn_r _ [12] (by decide +kernel) (by decide +kernel)
set_option maxRecDepth 20000 in
theorem gX7_marked_X7_isWithin : GoodIn wsX7_marked (va_wsS RX7 62 yX7_isWithin wsX7_isWithin) := goodIn_app (goodIn_of _ (by decide +kernel)) ggX7_marked_X7_isWithin
set_option maxRecDepth 20000 in
theorem ggX7_marked_X2_becomeAs : GoodIn wsX7_marked wsX2_becomeAs := goodIn_r _ [15, 8, 16, 17, 18, 19, 20, 21, 22, 23, 24, 25, 26, 27, 28, 115, 116, 117, 118, 119, 120, 121, 122, 123, 124, 125] (by decide +kernel) (by decide +kernel)
set_option maxRecDepth 20000 in
theorem gX7_marked_X2_becomeAs_n179 : GoodIn wsX7_marked (wsX2_becomeAs) := ggX7_marked_X2_becomeAs
set_option maxRecDepth 20000 in
theorem ggX7_marked_X1_isAllSeen : GoodIn wsX7_marked wsX1_isAllSeen := goodIn_r _ [32, 33, 34, 35, 36, 37, 38, 39, 40, 41, 30, 42, 43, 44, 45, 5, 46, 47, 26, 48, 49, 50, 8, 27, 51, 52, 53, 54, 25, 24, 16, 22, 21, 23, 55, 56, 57, 58, 59, 28, 60, 61, 62, 63, 64, 65, 66, 67, 68, 69, 70, 71, 72, 73, 74, 75, 76, 77, 78, 79, 80, 81, 82, 83, 84, 85, 86, 87, 88, 89, 90, 91, 92, 93, 94, 95, 96, 97, 98, 99, 100, 101, 102, 103, 126, 127, 128, 129, 130, 131, 132, 133, 134, 135, 115, 116, 117, 118, 119, 120, 121, 122, 123, 124, 125, 136, 137, 138] (by decide +kernel) (by decide +kernel)
set_option maxRecDepth 20000 in
theorem gX7_marked_X1_isAllSeen_n213 : GoodIn wsX7_marked (wsX1_isAllSeen) := ggX7_marked_X1_isAllSeen
theorem dX7_marked_0 : decode cX7_marked 0 = .ok (.aload_n 0, 1) := by decide +kernel
theorem dX7_marked_1 : decode cX7_marked 1 = .ok (.getfield 12, 3) := by decide +kernel
theorem dX7_marked_4 : decode cX7_marked 4 = .ok (.iload_n 1, 1) := by decide +kernel
theorem dX7_marked_5 : decode cX7_marked 5 = .ok (.invokevirtual 74, 3) := by decide +kernel
theorem dX7_marked_8 : decode cX7_marked 8 = .ok (.ifCond .eq 12, 3) := by decide +kernel
theorem dX7_marked_11 : decode cX7_marked 11 = .ok (.iload_n 2, 1) := by decide +kernel
theorem dX7_marked_12 : decode cX7_marked 12 = .ok (.iconst 0, 1) := by decide +kernel
theorem dX7_marked_13 : decode cX7_marked 13 = .ok (.iconst 1, 1) := by decide +kernel
theorem dX7_marked_14 : decode cX7_marked 14 = .ok (.invokestatic 62, 3) := by decide +kernel
theorem dX7_marked_17 : decode cX7_marked 17 = .ok (.ifCond .ne 5, 3) := by decide +kernel
theorem dX7_marked_20 : decode cX7_marked 20 = .ok (.iconst (-1), 1) := by decide +kernel
theorem dX7_marked_21 : decode cX7_marked 21 = .ok (.ireturn, 1) := by decide +kernel
theorem dX7_marked_22 : decode cX7_marked 22 = .ok (.iconst 0, 1) := by decide +kernel
theorem dX7_marked_23 : decode cX7_marked 23 = .ok (.istore_n 3, 1) := by decide +kernel
theorem dX7_marked_24 : decode cX7_marked 24 = .ok (.bipush (-5), 2) := by decide +kernel
theorem dX7_marked_26 : decode cX7_marked 26 = .ok (.istore 4, 2) := by decide +kernel
theorem dX7_marked_28 : decode cX7_marked 28 = .ok (.iconst 0, 1) := by decide +kernel
theorem dX7_marked_29 : decode cX7_marked 29 = .ok (.istore 5, 2) := by decide +kernel
theorem dX7_marked_31 : decode cX7_marked 31 = .ok (.iload 5, 2) := by decide +kernel
theorem dX7_marked_33 : decode cX7_marked 33 = .ok (.sipush 255, 3) := by decide +kernel
theorem dX7_marked_36 : decode cX7_marked 36 = .ok (.if_icmp .gt 61, 3) := by decide +kernel
theorem dX7_marked_39 : decode cX7_marked 39 = .ok (.aload_n 0, 1) := by decide +kernel
theorem dX7_marked_40 : decode cX7_marked 40 = .ok (.getfield 18, 3) := by decide +kernel
theorem dX7_marked_43 : decode cX7_marked 43 = .ok (.aload_n 0, 1) := by decide +kernel
theorem dX7_marked_44 : decode cX7_marked 44 = .ok (.getfield 12, 3) := by decide +kernel
theorem dX7_marked_47 : decode cX7_marked 47 = .ok (.invokevirtual 179, 3) := by decide +kernel
theorem dX7_marked_50 : decode cX7_marked 50 = .ok (.aload_n 0, 1) := by decide +kernel
theorem dX7_marked_51 : decode cX7_marked 51 = .ok (.getfield 18, 3) := by decide +kernel
theorem dX7_marked_54 : decode cX7_marked 54 = .ok (.getfield 85, 3) := by decide +kernel
theorem dX7_marked_57 : decode cX7_marked 57 = .ok (.iload_n 1, 1) := by decide +kernel
theorem dX7_marked_58 : decode cX7_marked 58 = .ok (.iload 5, 2) := by decide +kernel
theorem dX7_marked_60 : decode cX7_marked 60 = .ok (.iastore, 1) := by decide +kernel
theorem dX7_marked_61 : decode cX7_marked 61 = .ok (.aload_n 0, 1) := by decide +kernel
theorem dX7_marked_62 : decode cX7_marked 62 = .ok (.getfield 24, 3) := by decide +kernel
theorem dX7_marked_65 : decode cX7_marked 65 = .ok (.aload_n 0, 1) := by decide +kernel
theorem dX7_marked_66 : decode cX7_marked 66 = .ok (.getfield 18, 3) := by decide +kernel
theorem dX7_marked_69 : decode cX7_marked 69 = .ok (.invokevirtual 213, 3) := by decide +kernel
theorem dX7_marked_72 : decode cX7_marked 72 = .ok (.ifCond .eq 19, 3) := by decide +kernel
theorem dX7_marked_75 : decode cX7_marked 75 = .ok (.iload_n 3, 1) := by decide +kernel
theorem dX7_marked_76 : decode cX7_marked 76 = .ok (.ifCond .ne 8, 3) := by decide +kernel
theorem dX7_marked_79 : decode cX7_marked 79 = .ok (.iload 5, 2) := by decide +kernel
theorem dX7_marked_81 : decode cX7_marked 81 = .ok (.goto 5, 3) := by decide +kernel
theorem dX7_marked_84 : decode cX7_marked 84 = .ok (.iload 4, 2) := by decide +kernel
theorem dX7_marked_86 : decode cX7_marked 86 = .ok (.istore 4, 2) := by decide +kernel
theorem dX7_marked_88 : decode cX7_marked 88 = .ok (.iinc 3 1, 3) := by decide +kernel
theorem dX7_marked_91 : decode cX7_marked 91 = .ok (.iinc 5 1, 3) := by decide +kernel
theorem dX7_marked_94 : decode cX7_marked 94 = .ok (.goto (-63), 3) := by decide +kernel
theorem dX7_marked_97 : decode cX7_marked 97 = .ok (.iload_n 2, 1) := by decide +kernel
theorem dX7_marked_98 : decode cX7_marked 98 = .ok (.ifCond .ne 7, 3) := by decide +kernel
theorem dX7_marked_101 : decode cX7_marked 101 = .ok (.iload_n 3, 1) := by decide +kernel
theorem dX7_marked_102 : decode cX7_marked 102 = .ok (.goto 5, 3) := by decide +kernel
theorem dX7_marked_105 : decode cX7_marked 105 = .ok (.iload 4, 2) := by decide +kernel
theorem dX7_marked_107 : decode cX7_marked 107 = .ok (.ireturn, 1) := by decide +kernel
set_option maxRecDepth 20000 in
theorem ggX7_can_X2_hasThing : GoodIn wsX7_can wsX2_hasThing := goodIn_r _ [7, 8, 115, 116, 117, 118, 119, 120, 121, 122, 123, 124, 125] (by decide +kernel) (by decide +kernel)
set_option maxRecDepth 20000 in
theorem gX7_can_X2_hasThing_n74 : GoodIn wsX7_can (wsX2_hasThing) := ggX7_can_X2_hasThing
set_option maxRecDepth 20000 in
theorem ggX7_can_X7_isWithin : GoodIn wsX7_can wsX7_isWithin := goodIn_r _ [12] (by decide +kernel) (by decide +kernel)
set_option maxRecDepth 20000 in
theorem gX7_can_X7_isWithin : GoodIn wsX7_can (va_wsS RX7 62 yX7_isWithin wsX7_isWithin) := goodIn_app (goodIn_of _ (by decide +kernel)) ggX7_can_X7_isWithin
set_option maxRecDepth 20000 in
theorem ggX7_can_X2_becomeAs : GoodIn wsX7_can wsX2_becomeAs := goodIn_r _ [15, 8, 16, 17, 18, 19, 20, 21, 22, 23, 24, 25, 26, 27, 28, 115, 116, 117, 118, 119, 120, 121, 122, 123, 124, 125] (by decide +kernel) (by decide +kernel)
set_option maxRecDepth 20000 in
theorem gX7_can_X2_becomeAs_n179 : GoodIn wsX7_can (wsX2_becomeAs) := ggX7_can_X2_becomeAs
set_option maxRecDepth 20000 in
theorem ggX7_can_X1_isAllSeen : GoodIn wsX7_can wsX1_isAllSeen := goodIn_r _ [32, 33, 34, 35, 36, 37, 38, 39, 40, 41, 30, 42, 43, 44, 45, 5, 46, 47, 26, 48, 49, 50, 8, 27, 51, 52, 53, 54, 25, 24, 16, 22, 21, 23, 55, 56, 57, 58, 59, 28, 60, 61, 62, 63, 64, 65, 66, 67, 68, 69, 70, 71, 72, 73, 74, 75, 76, 77, 78, 79, 80, 81, 82, 83, 84, 85, 86, 87, 88, 89, 90, 91, 92, 93, 94, 95, 96, 97, 98, 99, 100, 101, 102, 103, 126, 127, 128, 129, 130, 131, 132, 133, 134, 135, 115, 116, 117, 118, 119, 120, 121, 122, 123, 124, 125, 136, 137, 138] (by decide +kernel) (by decide +kernel)
set_option maxRecDepth 20000 in
theorem gX7_can_X1_isAllSeen_n213 : GoodIn wsX7_can (wsX1_isAllSeen) := ggX7_can_X1_isAllSeen
theorem dX7_can_0 : decode cX7_can 0 = .ok (.aload_n 0, 1) := by decide +kernel
theorem dX7_can_1 : decode cX7_can 1 = .ok (.getfield 12, 3) := by decide +kernel
theorem dX7_can_4 : decode cX7_can 4 = .ok (.iload_n 1, 1) := by decide +kernel
theorem dX7_can_5 : decode cX7_can 5 = .ok (.invokevirtual 74, 3) := by decide +kernel
theorem dX7_can_8 : decode cX7_can 8 = .ok (.ifCond .eq 12, 3) := by decide +kernel
theorem dX7_can_11 : decode cX7_can 11 = .ok (.iload_n 2, 1) := by decide +kernel
theorem dX7_can_12 : decode cX7_can 12 = .ok (.iconst 0, 1) := by decide +kernel
theorem dX7_can_13 : decode cX7_can 13 = .ok (.iconst 1, 1) := by decide +kernel
theorem dX7_can_14 : decode cX7_can 14 = .ok (.invokestatic 62, 3) := by decide +kernel
theorem dX7_can_17 : decode cX7_can 17 = .ok (.ifCond .ne 5, 3) := by decide +kernel
theorem dX7_can_20 : decode cX7_can 20 = .ok (.iconst (-1), 1) := by decide +kernel
theorem dX7_can_21 : decode cX7_can 21 = .ok (.ireturn, 1) := by decide +kernel
theorem dX7_can_22 : decode cX7_can 22 = .ok (.iconst 0, 1) := by decide +kernel
theorem dX7_can_23 : decode cX7_can 23 = .ok (.istore_n 3, 1) := by decide +kernel
theorem dX7_can_24 : decode cX7_can 24 = .ok (.bipush (-5), 2) := by decide +kernel
theorem dX7_can_26 : decode cX7_can 26 = .ok (.istore 4, 2) := by decide +kernel
theorem dX7_can_28 : decode cX7_can 28 = .ok (.iconst 0, 1) := by decide +kernel
theorem dX7_can_29 : decode cX7_can 29 = .ok (.istore 5, 2) := by decide +kernel
theorem dX7_can_31 : decode cX7_can 31 = .ok (.iload 5, 2) := by decide +kernel
theorem dX7_can_33 : decode cX7_can 33 = .ok (.bipush 9, 2) := by decide +kernel
theorem dX7_can_35 : decode cX7_can 35 = .ok (.if_icmp .gt 61, 3) := by decide +kernel
theorem dX7_can_38 : decode cX7_can 38 = .ok (.aload_n 0, 1) := by decide +kernel
theorem dX7_can_39 : decode cX7_can 39 = .ok (.getfield 18, 3) := by decide +kernel
theorem dX7_can_42 : decode cX7_can 42 = .ok (.aload_n 0, 1) := by decide +kernel
theorem dX7_can_43 : decode cX7_can 43 = .ok (.getfield 12, 3) := by decide +kernel
theorem dX7_can_46 : decode cX7_can 46 = .ok (.invokevirtual 179, 3) := by decide +kernel
theorem dX7_can_49 : decode cX7_can 49 = .ok (.aload_n 0, 1) := by decide +kernel
theorem dX7_can_50 : decode cX7_can 50 = .ok (.getfield 18, 3) := by decide +kernel
theorem dX7_can_53 : decode cX7_can 53 = .ok (.getfield 82, 3) := by decide +kernel
theorem dX7_can_56 : decode cX7_can 56 = .ok (.iload_n 1, 1) := by decide +kernel
theorem dX7_can_57 : decode cX7_can 57 = .ok (.iload 5, 2) := by decide +kernel
theorem dX7_can_59 : decode cX7_can 59 = .ok (.iastore, 1) := by decide +kernel
theorem dX7_can_60 : decode cX7_can 60 = .ok (.aload_n 0, 1) := by decide +kernel
theorem dX7_can_61 : decode cX7_can 61 = .ok (.getfield 24, 3) := by decide +kernel
theorem dX7_can_64 : decode cX7_can 64 = .ok (.aload_n 0, 1) := by decide +kernel
