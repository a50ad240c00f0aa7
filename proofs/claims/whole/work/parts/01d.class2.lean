theorem dX6_noPlayer_0 : decode cX6_noPlayer 0 = .ok (.aload_n 0, 1) := by decide +kernel
theorem dX6_noPlayer_1 : decode cX6_noPlayer 1 = .ok (.getfield 19, 3) := by decide +kernel
theorem dX6_noPlayer_4 : decode cX6_noPlayer 4 = .ok (.getfield 93, 3) := by decide +kernel
theorem dX6_noPlayer_7 : decode cX6_noPlayer 7 = .ok (.ifCond .ne 7, 3) := by decide +kernel
theorem dX6_noPlayer_10 : decode cX6_noPlayer 10 = .ok (.iconst 1, 1) := by decide +kernel
theorem dX6_noPlayer_11 : decode cX6_noPlayer 11 = .ok (.goto 4, 3) := by decide +kernel
theorem dX6_noPlayer_14 : decode cX6_noPlayer 14 = .ok (.iconst 0, 1) := by decide +kernel
theorem dX6_noPlayer_15 : decode cX6_noPlayer 15 = .ok (.ireturn, 1) := by decide +kernel
set_option maxRecDepth 20000 in
theorem ggX6_mayNow_X0_mayCome : GoodIn wsX6_mayNow wsX0_mayCome := goodIn_r _ [7, 8, 9, 10, 6, 11, 12, 13, 14, 15, 16, 17, 18, 19, 20, 21, 22, 23, 24, 43, 44, 45, 46, 47, 48] (by decide +kernel) (by decide +kernel)
set_option maxRecDepth 20000 in
theorem gX6_mayNow_X0_mayCome : GoodIn wsX6_mayNow (wsV RX6 222 RX0 yX0_mayCome wsX0_mayCome) := goodIn_app (goodIn_of _ (by decide +kernel)) ggX6_mayNow_X0_mayCome
theorem dX6_mayNow_0 : decode cX6_mayNow 0 = .ok (.aload_n 0, 1) := by decide +kernel
theorem dX6_mayNow_1 : decode cX6_mayNow 1 = .ok (.getfield 19, 3) := by decide +kernel
theorem dX6_mayNow_4 : decode cX6_mayNow 4 = .ok (.aload_n 0, 1) := by decide +kernel
theorem dX6_mayNow_5 : decode cX6_mayNow 5 = .ok (.getfield 26, 3) := by decide +kernel
theorem dX6_mayNow_8 : decode cX6_mayNow 8 = .ok (.getfield 111, 3) := by decide +kernel
theorem dX6_mayNow_11 : decode cX6_mayNow 11 = .ok (.aload_n 0, 1) := by decide +kernel
theorem dX6_mayNow_12 : decode cX6_mayNow 12 = .ok (.getfield 26, 3) := by decide +kernel
theorem dX6_mayNow_15 : decode cX6_mayNow 15 = .ok (.getfield 120, 3) := by decide +kernel
theorem dX6_mayNow_18 : decode cX6_mayNow 18 = .ok (.aload_n 0, 1) := by decide +kernel
theorem dX6_mayNow_19 : decode cX6_mayNow 19 = .ok (.getfield 26, 3) := by decide +kernel
theorem dX6_mayNow_22 : decode cX6_mayNow 22 = .ok (.getfield 126, 3) := by decide +kernel
theorem dX6_mayNow_25 : decode cX6_mayNow 25 = .ok (.invokevirtual 222, 3) := by decide +kernel
theorem dX6_mayNow_28 : decode cX6_mayNow 28 = .ok (.ireturn, 1) := by decide +kernel
set_option maxRecDepth 20000 in
theorem ggX6_songFact_X5_at : GoodIn wsX6_songFact wsX5_at := goodIn_r _ [7, 8, 100] (by decide +kernel) (by decide +kernel)
set_option maxRecDepth 20000 in
theorem gX6_songFact_X5_at : GoodIn wsX6_songFact (wsV RX6 216 RX5 yX5_at wsX5_at) := goodIn_app (goodIn_of _ (by decide +kernel)) ggX6_songFact_X5_at
set_option maxRecDepth 20000 in
theorem ggX6_songFact_X6_weight : GoodIn wsX6_songFact wsX6_weight := goodIn_r _ [13, 1, 2, 14, 15, 16, 17, 3, 4, 5, 6, 7, 8, 75, 76, 77, 78, 79, 80, 81, 82, 83, 84, 85, 86, 87, 88, 89, 90, 91, 92, 93, 94, 95, 96, 97, 100] (by decide +kernel) (by decide +kernel)
set_option maxRecDepth 20000 in
theorem gX6_songFact_X6_weight : GoodIn wsX6_songFact (wsV RX6 150 RX6 yX6_weight wsX6_weight) := goodIn_app (goodIn_of _ (by decide +kernel)) ggX6_songFact_X6_weight
set_option maxRecDepth 20000 in
theorem ggX6_songFact_X6_holds : GoodIn wsX6_songFact wsX6_holds := goodIn_r _ [20] (by decide +kernel) (by decide +kernel)
set_option maxRecDepth 20000 in
theorem gX6_songFact_X6_holds : GoodIn wsX6_songFact (va_wsS RX6 117 yX6_holds wsX6_holds) := goodIn_app (goodIn_of _ (by decide +kernel)) ggX6_songFact_X6_holds
set_option maxRecDepth 20000 in
theorem ggX6_songFact_X6_mayNow : GoodIn wsX6_songFact wsX6_mayNow := goodIn_r _ [24, 1, 2, 25, 26, 27, 28, 29, 30, 31, 32, 33, 34, 35, 36, 37, 38, 39, 40, 41, 4, 5, 6, 7, 8, 75, 76, 77, 78, 79, 80, 81, 82, 83, 84, 90, 91, 92, 93, 94, 95, 96, 97, 85, 86, 87, 88, 89, 100] (by decide +kernel) (by decide +kernel)
set_option maxRecDepth 20000 in
theorem gX6_songFact_X6_mayNow : GoodIn wsX6_songFact (wsV RX6 114 RX6 yX6_mayNow wsX6_mayNow) := goodIn_app (goodIn_of _ (by decide +kernel)) ggX6_songFact_X6_mayNow
set_option maxRecDepth 20000 in
theorem ggX6_songFact_X6_chanceNow : GoodIn wsX6_songFact wsX6_chanceNow := goodIn_r _ [45, 46, 21, 22, 23, 12, 24, 1, 2, 25, 26, 27, 28, 29, 30, 31, 32, 33, 34, 35, 36, 37, 38, 39, 40, 41, 4, 5, 6, 7, 8, 47, 48, 49, 50, 18, 19, 20, 9, 10, 11, 13, 14, 15, 16, 17, 3, 51, 52, 53, 54, 55, 56, 57, 58, 59, 60, 61, 62, 63, 64, 65, 66, 67, 68, 69, 70, 71, 72, 73, 74, 75, 76, 77, 78, 79, 80, 81, 82, 83, 84, 90, 91, 92, 93, 94, 95, 96, 97, 85, 86, 87, 88, 89, 100, 98, 99] (by decide +kernel) (by decide +kernel)
set_option maxRecDepth 20000 in
theorem gX6_songFact_X6_chanceNow : GoodIn wsX6_songFact (wsV RX6 234 RX6 yX6_chanceNow wsX6_chanceNow) := goodIn_app (goodIn_of _ (by decide +kernel)) ggX6_songFact_X6_chanceNow
theorem dX6_songFact_0 : decode cX6_songFact 0 = .ok (.iload_n 2, 1) := by decide +kernel
theorem dX6_songFact_1 : decode cX6_songFact 1 = .ok (.tableswitch 164 0 8 #[51, 63, 75, 81, 93, 105, 117, 137, 154], 51) := by decide +kernel
theorem dX6_songFact_52 : decode cX6_songFact 52 = .ok (.aload_n 0, 1) := by decide +kernel
theorem dX6_songFact_53 : decode cX6_songFact 53 = .ok (.getfield 19, 3) := by decide +kernel
theorem dX6_songFact_56 : decode cX6_songFact 56 = .ok (.getfield 225, 3) := by decide +kernel
theorem dX6_songFact_59 : decode cX6_songFact 59 = .ok (.iload_n 1, 1) := by decide +kernel
theorem dX6_songFact_60 : decode cX6_songFact 60 = .ok (.invokevirtual 216, 3) := by decide +kernel
theorem dX6_songFact_63 : decode cX6_songFact 63 = .ok (.ireturn, 1) := by decide +kernel
theorem dX6_songFact_64 : decode cX6_songFact 64 = .ok (.aload_n 0, 1) := by decide +kernel
theorem dX6_songFact_65 : decode cX6_songFact 65 = .ok (.getfield 19, 3) := by decide +kernel
theorem dX6_songFact_68 : decode cX6_songFact 68 = .ok (.getfield 228, 3) := by decide +kernel
theorem dX6_songFact_71 : decode cX6_songFact 71 = .ok (.iload_n 1, 1) := by decide +kernel
theorem dX6_songFact_72 : decode cX6_songFact 72 = .ok (.invokevirtual 216, 3) := by decide +kernel
theorem dX6_songFact_75 : decode cX6_songFact 75 = .ok (.ireturn, 1) := by decide +kernel
theorem dX6_songFact_76 : decode cX6_songFact 76 = .ok (.aload_n 0, 1) := by decide +kernel
theorem dX6_songFact_77 : decode cX6_songFact 77 = .ok (.iload_n 1, 1) := by decide +kernel
theorem dX6_songFact_78 : decode cX6_songFact 78 = .ok (.invokevirtual 150, 3) := by decide +kernel
theorem dX6_songFact_81 : decode cX6_songFact 81 = .ok (.ireturn, 1) := by decide +kernel
theorem dX6_songFact_82 : decode cX6_songFact 82 = .ok (.aload_n 0, 1) := by decide +kernel
theorem dX6_songFact_83 : decode cX6_songFact 83 = .ok (.getfield 19, 3) := by decide +kernel
theorem dX6_songFact_86 : decode cX6_songFact 86 = .ok (.getfield 231, 3) := by decide +kernel
theorem dX6_songFact_89 : decode cX6_songFact 89 = .ok (.iload_n 1, 1) := by decide +kernel
theorem dX6_songFact_90 : decode cX6_songFact 90 = .ok (.invokevirtual 216, 3) := by decide +kernel
theorem dX6_songFact_93 : decode cX6_songFact 93 = .ok (.ireturn, 1) := by decide +kernel
theorem dX6_songFact_94 : decode cX6_songFact 94 = .ok (.aload_n 0, 1) := by decide +kernel
theorem dX6_songFact_95 : decode cX6_songFact 95 = .ok (.getfield 26, 3) := by decide +kernel
theorem dX6_songFact_98 : decode cX6_songFact 98 = .ok (.getfield 132, 3) := by decide +kernel
theorem dX6_songFact_101 : decode cX6_songFact 101 = .ok (.iload_n 1, 1) := by decide +kernel
theorem dX6_songFact_102 : decode cX6_songFact 102 = .ok (.invokevirtual 216, 3) := by decide +kernel
theorem dX6_songFact_105 : decode cX6_songFact 105 = .ok (.ireturn, 1) := by decide +kernel
theorem dX6_songFact_106 : decode cX6_songFact 106 = .ok (.aload_n 0, 1) := by decide +kernel
theorem dX6_songFact_107 : decode cX6_songFact 107 = .ok (.getfield 26, 3) := by decide +kernel
theorem dX6_songFact_110 : decode cX6_songFact 110 = .ok (.getfield 147, 3) := by decide +kernel
theorem dX6_songFact_113 : decode cX6_songFact 113 = .ok (.iload_n 1, 1) := by decide +kernel
theorem dX6_songFact_114 : decode cX6_songFact 114 = .ok (.invokevirtual 216, 3) := by decide +kernel
theorem dX6_songFact_117 : decode cX6_songFact 117 = .ok (.ireturn, 1) := by decide +kernel
theorem dX6_songFact_118 : decode cX6_songFact 118 = .ok (.aload_n 0, 1) := by decide +kernel
theorem dX6_songFact_119 : decode cX6_songFact 119 = .ok (.getfield 26, 3) := by decide +kernel
theorem dX6_songFact_122 : decode cX6_songFact 122 = .ok (.getfield 120, 3) := by decide +kernel
theorem dX6_songFact_125 : decode cX6_songFact 125 = .ok (.iload_n 1, 1) := by decide +kernel
theorem dX6_songFact_126 : decode cX6_songFact 126 = .ok (.invokestatic 117, 3) := by decide +kernel
theorem dX6_songFact_129 : decode cX6_songFact 129 = .ok (.ifCond .eq 7, 3) := by decide +kernel
theorem dX6_songFact_132 : decode cX6_songFact 132 = .ok (.iconst 1, 1) := by decide +kernel
theorem dX6_songFact_133 : decode cX6_songFact 133 = .ok (.goto 4, 3) := by decide +kernel
theorem dX6_songFact_136 : decode cX6_songFact 136 = .ok (.iconst 0, 1) := by decide +kernel
theorem dX6_songFact_137 : decode cX6_songFact 137 = .ok (.ireturn, 1) := by decide +kernel
theorem dX6_songFact_138 : decode cX6_songFact 138 = .ok (.aload_n 0, 1) := by decide +kernel
theorem dX6_songFact_139 : decode cX6_songFact 139 = .ok (.invokevirtual 114, 3) := by decide +kernel
theorem dX6_songFact_142 : decode cX6_songFact 142 = .ok (.iload_n 1, 1) := by decide +kernel
theorem dX6_songFact_143 : decode cX6_songFact 143 = .ok (.invokestatic 117, 3) := by decide +kernel
theorem dX6_songFact_146 : decode cX6_songFact 146 = .ok (.ifCond .eq 7, 3) := by decide +kernel
theorem dX6_songFact_149 : decode cX6_songFact 149 = .ok (.iconst 1, 1) := by decide +kernel
theorem dX6_songFact_150 : decode cX6_songFact 150 = .ok (.goto 4, 3) := by decide +kernel
theorem dX6_songFact_153 : decode cX6_songFact 153 = .ok (.iconst 0, 1) := by decide +kernel
theorem dX6_songFact_154 : decode cX6_songFact 154 = .ok (.ireturn, 1) := by decide +kernel
theorem dX6_songFact_155 : decode cX6_songFact 155 = .ok (.aload_n 0, 1) := by decide +kernel
theorem dX6_songFact_156 : decode cX6_songFact 156 = .ok (.iload_n 1, 1) := by decide +kernel
theorem dX6_songFact_157 : decode cX6_songFact 157 = .ok (.invokevirtual 234, 3) := by decide +kernel
theorem dX6_songFact_160 : decode cX6_songFact 160 = .ok (.getfield 160, 3) := by decide +kernel
theorem dX6_songFact_163 : decode cX6_songFact 163 = .ok (.l2i, 1) := by decide +kernel
theorem dX6_songFact_164 : decode cX6_songFact 164 = .ok (.ireturn, 1) := by decide +kernel
theorem dX6_songFact_165 : decode cX6_songFact 165 = .ok (.aload_n 0, 1) := by decide +kernel
theorem dX6_songFact_166 : decode cX6_songFact 166 = .ok (.iload_n 1, 1) := by decide +kernel
theorem dX6_songFact_167 : decode cX6_songFact 167 = .ok (.invokevirtual 234, 3) := by decide +kernel
theorem dX6_songFact_170 : decode cX6_songFact 170 = .ok (.getfield 164, 3) := by decide +kernel
theorem dX6_songFact_173 : decode cX6_songFact 173 = .ok (.l2i, 1) := by decide +kernel
theorem dX6_songFact_174 : decode cX6_songFact 174 = .ok (.ireturn, 1) := by decide +kernel
set_option maxRecDepth 20000 in
theorem ggX6_chanceNow_X6_mayNow : GoodIn wsX6_chanceNow wsX6_mayNow := goodIn_r _ [6, 7, 8, 9, 10, 11, 12, 13, 14, 15, 16, 17, 18, 19, 20, 21, 22, 23, 24, 25, 26, 27, 28, 29, 30, 71, 72, 73, 74, 75, 76, 77, 78, 79, 80, 81, 82, 83, 84, 85, 86, 87, 88, 89, 90, 91, 92, 93, 94] (by decide +kernel) (by decide +kernel)
set_option maxRecDepth 20000 in
theorem gX6_chanceNow_X6_mayNow : GoodIn wsX6_chanceNow (wsV RX6 114 RX6 yX6_mayNow wsX6_mayNow) := goodIn_app (goodIn_of _ (by decide +kernel)) ggX6_chanceNow_X6_mayNow
set_option maxRecDepth 20000 in
theorem ggX6_chanceNow_X6_weightTogether : GoodIn wsX6_chanceNow wsX6_weightTogether := goodIn_r _ [34, 7, 35, 36, 5, 37, 38, 39, 40, 41, 8, 42, 43, 44, 45, 46, 26, 27, 28, 29, 30, 71, 72, 73, 74, 75, 76, 77, 78, 79, 80, 89, 90, 91, 92, 93, 81, 82, 83, 84, 85, 86, 87, 88, 94] (by decide +kernel) (by decide +kernel)
set_option maxRecDepth 20000 in
theorem gX6_chanceNow_X6_weightTogether : GoodIn wsX6_chanceNow (wsV RX6 238 RX6 yX6_weightTogether wsX6_weightTogether) := goodIn_app (goodIn_of _ (by decide +kernel)) ggX6_chanceNow_X6_weightTogether
set_option maxRecDepth 20000 in
theorem ggX6_chanceNow_X6_share : GoodIn wsX6_chanceNow wsX6_share := goodIn_r _ [50, 35, 36, 5, 37, 38, 39, 40, 41, 7, 8, 42, 43, 44, 45, 46, 26, 27, 28, 29, 30, 71, 72, 73, 74, 75, 76, 77, 78, 79, 80, 89, 90, 91, 92, 93, 81, 82, 83, 84, 85, 86, 87, 88, 94] (by decide +kernel) (by decide +kernel)
set_option maxRecDepth 20000 in
theorem gX6_chanceNow_X6_share : GoodIn wsX6_chanceNow (wsV RX6 241 RX6 yX6_share wsX6_share) := goodIn_app (goodIn_of _ (by decide +kernel)) ggX6_chanceNow_X6_share
set_option maxRecDepth 20000 in
theorem ggX6_chanceNow_X6_allShares : GoodIn wsX6_chanceNow wsX6_allShares := goodIn_r _ [53, 54, 55, 56, 57, 58, 59, 60] (by decide +kernel) (by decide +kernel)
set_option maxRecDepth 20000 in
theorem gX6_chanceNow_X6_allShares : GoodIn wsX6_chanceNow (va_wsS RX6 244 yX6_allShares wsX6_allShares) := goodIn_app (goodIn_of _ (by decide +kernel)) ggX6_chanceNow_X6_allShares
set_option maxRecDepth 20000 in
theorem ggX6_chanceNow_X1_become : GoodIn wsX6_chanceNow wsX1_become := goodIn_r _ [65, 66, 67, 68, 69, 64, 70, 95, 96] (by decide +kernel) (by decide +kernel)
set_option maxRecDepth 20000 in
theorem gX6_chanceNow_X1_become : GoodIn wsX6_chanceNow (wsV RX6 247 RX1 yX1_become wsX1_become) := goodIn_app (goodIn_of _ (by decide +kernel)) ggX6_chanceNow_X1_become
theorem dX6_chanceNow_0 : decode cX6_chanceNow 0 = .ok (.aload_n 0, 1) := by decide +kernel
theorem dX6_chanceNow_1 : decode cX6_chanceNow 1 = .ok (.invokevirtual 114, 3) := by decide +kernel
theorem dX6_chanceNow_4 : decode cX6_chanceNow 4 = .ok (.istore_n 2, 1) := by decide +kernel
theorem dX6_chanceNow_5 : decode cX6_chanceNow 5 = .ok (.aload_n 0, 1) := by decide +kernel
theorem dX6_chanceNow_6 : decode cX6_chanceNow 6 = .ok (.iload_n 2, 1) := by decide +kernel
theorem dX6_chanceNow_7 : decode cX6_chanceNow 7 = .ok (.invokevirtual 238, 3) := by decide +kernel
theorem dX6_chanceNow_10 : decode cX6_chanceNow 10 = .ok (.istore_n 3, 1) := by decide +kernel
theorem dX6_chanceNow_11 : decode cX6_chanceNow 11 = .ok (.aload_n 0, 1) := by decide +kernel
theorem dX6_chanceNow_12 : decode cX6_chanceNow 12 = .ok (.getfield 40, 3) := by decide +kernel
theorem dX6_chanceNow_15 : decode cX6_chanceNow 15 = .ok (.aload_n 0, 1) := by decide +kernel
theorem dX6_chanceNow_16 : decode cX6_chanceNow 16 = .ok (.iload_n 1, 1) := by decide +kernel
theorem dX6_chanceNow_17 : decode cX6_chanceNow 17 = .ok (.iload_n 2, 1) := by decide +kernel
theorem dX6_chanceNow_18 : decode cX6_chanceNow 18 = .ok (.iload_n 3, 1) := by decide +kernel
theorem dX6_chanceNow_19 : decode cX6_chanceNow 19 = .ok (.invokevirtual 241, 3) := by decide +kernel
theorem dX6_chanceNow_22 : decode cX6_chanceNow 22 = .ok (.i2l, 1) := by decide +kernel
theorem dX6_chanceNow_23 : decode cX6_chanceNow 23 = .ok (.iload_n 2, 1) := by decide +kernel
theorem dX6_chanceNow_24 : decode cX6_chanceNow 24 = .ok (.iload_n 3, 1) := by decide +kernel
theorem dX6_chanceNow_25 : decode cX6_chanceNow 25 = .ok (.invokestatic 244, 3) := by decide +kernel
theorem dX6_chanceNow_28 : decode cX6_chanceNow 28 = .ok (.i2l, 1) := by decide +kernel
theorem dX6_chanceNow_29 : decode cX6_chanceNow 29 = .ok (.invokevirtual 247, 3) := by decide +kernel
theorem dX6_chanceNow_32 : decode cX6_chanceNow 32 = .ok (.aload_n 0, 1) := by decide +kernel
theorem dX6_chanceNow_33 : decode cX6_chanceNow 33 = .ok (.getfield 40, 3) := by decide +kernel
theorem dX6_chanceNow_36 : decode cX6_chanceNow 36 = .ok (.areturn, 1) := by decide +kernel
set_option maxRecDepth 20000 in
theorem ggX6_minutesPlayed_X5_at : GoodIn wsX6_minutesPlayed wsX5_at := goodIn_r _ [7, 8, 32] (by decide +kernel) (by decide +kernel)
set_option maxRecDepth 20000 in
theorem gX6_minutesPlayed_X5_at : GoodIn wsX6_minutesPlayed (wsV RX6 216 RX5 yX5_at wsX5_at) := goodIn_app (goodIn_of _ (by decide +kernel)) ggX6_minutesPlayed_X5_at
theorem dX6_minutesPlayed_0 : decode cX6_minutesPlayed 0 = .ok (.iconst 0, 1) := by decide +kernel
theorem dX6_minutesPlayed_1 : decode cX6_minutesPlayed 1 = .ok (.istore_n 1, 1) := by decide +kernel
theorem dX6_minutesPlayed_2 : decode cX6_minutesPlayed 2 = .ok (.iconst 0, 1) := by decide +kernel
theorem dX6_minutesPlayed_3 : decode cX6_minutesPlayed 3 = .ok (.istore_n 2, 1) := by decide +kernel
theorem dX6_minutesPlayed_4 : decode cX6_minutesPlayed 4 = .ok (.iload_n 2, 1) := by decide +kernel
theorem dX6_minutesPlayed_5 : decode cX6_minutesPlayed 5 = .ok (.aload_n 0, 1) := by decide +kernel
theorem dX6_minutesPlayed_6 : decode cX6_minutesPlayed 6 = .ok (.getfield 19, 3) := by decide +kernel
theorem dX6_minutesPlayed_9 : decode cX6_minutesPlayed 9 = .ok (.getfield 93, 3) := by decide +kernel
theorem dX6_minutesPlayed_12 : decode cX6_minutesPlayed 12 = .ok (.if_icmp .ge 35, 3) := by decide +kernel
theorem dX6_minutesPlayed_15 : decode cX6_minutesPlayed 15 = .ok (.iload_n 1, 1) := by decide +kernel
theorem dX6_minutesPlayed_16 : decode cX6_minutesPlayed 16 = .ok (.aload_n 0, 1) := by decide +kernel
theorem dX6_minutesPlayed_17 : decode cX6_minutesPlayed 17 = .ok (.getfield 26, 3) := by decide +kernel
theorem dX6_minutesPlayed_20 : decode cX6_minutesPlayed 20 = .ok (.getfield 132, 3) := by decide +kernel
theorem dX6_minutesPlayed_23 : decode cX6_minutesPlayed 23 = .ok (.iload_n 2, 1) := by decide +kernel
theorem dX6_minutesPlayed_24 : decode cX6_minutesPlayed 24 = .ok (.invokevirtual 216, 3) := by decide +kernel
theorem dX6_minutesPlayed_27 : decode cX6_minutesPlayed 27 = .ok (.aload_n 0, 1) := by decide +kernel
theorem dX6_minutesPlayed_28 : decode cX6_minutesPlayed 28 = .ok (.getfield 19, 3) := by decide +kernel
theorem dX6_minutesPlayed_31 : decode cX6_minutesPlayed 31 = .ok (.getfield 231, 3) := by decide +kernel
theorem dX6_minutesPlayed_34 : decode cX6_minutesPlayed 34 = .ok (.iload_n 2, 1) := by decide +kernel
theorem dX6_minutesPlayed_35 : decode cX6_minutesPlayed 35 = .ok (.invokevirtual 216, 3) := by decide +kernel
theorem dX6_minutesPlayed_38 : decode cX6_minutesPlayed 38 = .ok (.imul, 1) := by decide +kernel
theorem dX6_minutesPlayed_39 : decode cX6_minutesPlayed 39 = .ok (.iadd, 1) := by decide +kernel
theorem dX6_minutesPlayed_40 : decode cX6_minutesPlayed 40 = .ok (.istore_n 1, 1) := by decide +kernel
theorem dX6_minutesPlayed_41 : decode cX6_minutesPlayed 41 = .ok (.iinc 2 1, 3) := by decide +kernel
theorem dX6_minutesPlayed_44 : decode cX6_minutesPlayed 44 = .ok (.goto (-40), 3) := by decide +kernel
theorem dX6_minutesPlayed_47 : decode cX6_minutesPlayed 47 = .ok (.iload_n 1, 1) := by decide +kernel
theorem dX6_minutesPlayed_48 : decode cX6_minutesPlayed 48 = .ok (.ireturn, 1) := by decide +kernel
set_option maxRecDepth 20000 in
theorem ggX6_weight_X5_at : GoodIn wsX6_weight wsX5_at := goodIn_r _ [11, 12, 36] (by decide +kernel) (by decide +kernel)
set_option maxRecDepth 20000 in
theorem gX6_weight_X5_at : GoodIn wsX6_weight (wsV RX6 216 RX5 yX5_at wsX5_at) := goodIn_app (goodIn_of _ (by decide +kernel)) ggX6_weight_X5_at
theorem dX6_weight_0 : decode cX6_weight 0 = .ok (.iconst 0, 1) := by decide +kernel
theorem dX6_weight_1 : decode cX6_weight 1 = .ok (.aload_n 0, 1) := by decide +kernel
theorem dX6_weight_2 : decode cX6_weight 2 = .ok (.getfield 19, 3) := by decide +kernel
theorem dX6_weight_5 : decode cX6_weight 5 = .ok (.getfield 250, 3) := by decide +kernel
theorem dX6_weight_8 : decode cX6_weight 8 = .ok (.iload_n 1, 1) := by decide +kernel
theorem dX6_weight_9 : decode cX6_weight 9 = .ok (.invokevirtual 216, 3) := by decide +kernel
theorem dX6_weight_12 : decode cX6_weight 12 = .ok (.aload_n 0, 1) := by decide +kernel
theorem dX6_weight_13 : decode cX6_weight 13 = .ok (.getfield 26, 3) := by decide +kernel
theorem dX6_weight_16 : decode cX6_weight 16 = .ok (.getfield 147, 3) := by decide +kernel
theorem dX6_weight_19 : decode cX6_weight 19 = .ok (.iload_n 1, 1) := by decide +kernel
theorem dX6_weight_20 : decode cX6_weight 20 = .ok (.invokevirtual 216, 3) := by decide +kernel
theorem dX6_weight_23 : decode cX6_weight 23 = .ok (.isub, 1) := by decide +kernel
theorem dX6_weight_24 : decode cX6_weight 24 = .ok (.invokestatic 253, 3) := by decide +kernel
theorem dX6_weight_27 : decode cX6_weight 27 = .ok (.ireturn, 1) := by decide +kernel
set_option maxRecDepth 20000 in
theorem ggX6_weightTogether_X6_holds : GoodIn wsX6_weightTogether wsX6_holds := goodIn_r _ [5] (by decide +kernel) (by decide +kernel)
set_option maxRecDepth 20000 in
theorem gX6_weightTogether_X6_holds : GoodIn wsX6_weightTogether (va_wsS RX6 117 yX6_holds wsX6_holds) := goodIn_app (goodIn_of _ (by decide +kernel)) ggX6_weightTogether_X6_holds
set_option maxRecDepth 20000 in
theorem ggX6_weightTogether_X6_weight : GoodIn wsX6_weightTogether wsX6_weight := goodIn_r _ [9, 1, 10, 11, 12, 13, 14, 15, 16, 17, 18, 19, 20, 21, 22, 23, 24, 25, 26, 27, 28, 29, 30, 31, 32, 33, 34, 35, 36, 37, 38, 39, 40, 41, 42, 43, 44] (by decide +kernel) (by decide +kernel)
set_option maxRecDepth 20000 in
theorem gX6_weightTogether_X6_weight : GoodIn wsX6_weightTogether (wsV RX6 150 RX6 yX6_weight wsX6_weight) := goodIn_app (goodIn_of _ (by decide +kernel)) ggX6_weightTogether_X6_weight
theorem dX6_weightTogether_0 : decode cX6_weightTogether 0 = .ok (.iconst 0, 1) := by decide +kernel
theorem dX6_weightTogether_1 : decode cX6_weightTogether 1 = .ok (.istore_n 2, 1) := by decide +kernel
theorem dX6_weightTogether_2 : decode cX6_weightTogether 2 = .ok (.iconst 0, 1) := by decide +kernel
theorem dX6_weightTogether_3 : decode cX6_weightTogether 3 = .ok (.istore_n 3, 1) := by decide +kernel
theorem dX6_weightTogether_4 : decode cX6_weightTogether 4 = .ok (.iload_n 3, 1) := by decide +kernel
theorem dX6_weightTogether_5 : decode cX6_weightTogether 5 = .ok (.aload_n 0, 1) := by decide +kernel
theorem dX6_weightTogether_6 : decode cX6_weightTogether 6 = .ok (.getfield 19, 3) := by decide +kernel
theorem dX6_weightTogether_9 : decode cX6_weightTogether 9 = .ok (.getfield 93, 3) := by decide +kernel
theorem dX6_weightTogether_12 : decode cX6_weightTogether 12 = .ok (.if_icmp .ge 29, 3) := by decide +kernel
theorem dX6_weightTogether_15 : decode cX6_weightTogether 15 = .ok (.iload_n 2, 1) := by decide +kernel
theorem dX6_weightTogether_16 : decode cX6_weightTogether 16 = .ok (.iload_n 1, 1) := by decide +kernel
theorem dX6_weightTogether_17 : decode cX6_weightTogether 17 = .ok (.iload_n 3, 1) := by decide +kernel
theorem dX6_weightTogether_18 : decode cX6_weightTogether 18 = .ok (.invokestatic 117, 3) := by decide +kernel
theorem dX6_weightTogether_21 : decode cX6_weightTogether 21 = .ok (.ifCond .eq 11, 3) := by decide +kernel
theorem dX6_weightTogether_24 : decode cX6_weightTogether 24 = .ok (.aload_n 0, 1) := by decide +kernel
theorem dX6_weightTogether_25 : decode cX6_weightTogether 25 = .ok (.iload_n 3, 1) := by decide +kernel
theorem dX6_weightTogether_26 : decode cX6_weightTogether 26 = .ok (.invokevirtual 150, 3) := by decide +kernel
theorem dX6_weightTogether_29 : decode cX6_weightTogether 29 = .ok (.goto 4, 3) := by decide +kernel
theorem dX6_weightTogether_32 : decode cX6_weightTogether 32 = .ok (.iconst 0, 1) := by decide +kernel
theorem dX6_weightTogether_33 : decode cX6_weightTogether 33 = .ok (.iadd, 1) := by decide +kernel
theorem dX6_weightTogether_34 : decode cX6_weightTogether 34 = .ok (.istore_n 2, 1) := by decide +kernel
theorem dX6_weightTogether_35 : decode cX6_weightTogether 35 = .ok (.iinc 3 1, 3) := by decide +kernel
theorem dX6_weightTogether_38 : decode cX6_weightTogether 38 = .ok (.goto (-34), 3) := by decide +kernel
theorem dX6_weightTogether_41 : decode cX6_weightTogether 41 = .ok (.iload_n 2, 1) := by decide +kernel
theorem dX6_weightTogether_42 : decode cX6_weightTogether 42 = .ok (.ireturn, 1) := by decide +kernel
set_option maxRecDepth 20000 in
theorem ggX6_share_X6_holds : GoodIn wsX6_share wsX6_holds := goodIn_r _ [4] (by decide +kernel) (by decide +kernel)
set_option maxRecDepth 20000 in
theorem gX6_share_X6_holds : GoodIn wsX6_share (va_wsS RX6 117 yX6_holds wsX6_holds) := goodIn_app (goodIn_of _ (by decide +kernel)) ggX6_share_X6_holds
set_option maxRecDepth 20000 in
theorem ggX6_share_X6_weight : GoodIn wsX6_share wsX6_weight := goodIn_r _ [8, 9, 10, 11, 12, 13, 14, 15, 16, 17, 18, 19, 20, 21, 22, 23, 24, 25, 26, 27, 28, 29, 30, 31, 32, 33, 34, 35, 36, 37, 38, 39, 40, 41, 42, 43, 44] (by decide +kernel) (by decide +kernel)
set_option maxRecDepth 20000 in
theorem gX6_share_X6_weight : GoodIn wsX6_share (wsV RX6 150 RX6 yX6_weight wsX6_weight) := goodIn_app (goodIn_of _ (by decide +kernel)) ggX6_share_X6_weight
theorem dX6_share_0 : decode cX6_share 0 = .ok (.iload_n 2, 1) := by decide +kernel
theorem dX6_share_1 : decode cX6_share 1 = .ok (.iload_n 1, 1) := by decide +kernel
theorem dX6_share_2 : decode cX6_share 2 = .ok (.invokestatic 117, 3) := by decide +kernel
theorem dX6_share_5 : decode cX6_share 5 = .ok (.ifCond .ne 5, 3) := by decide +kernel
theorem dX6_share_8 : decode cX6_share 8 = .ok (.iconst 0, 1) := by decide +kernel
theorem dX6_share_9 : decode cX6_share 9 = .ok (.ireturn, 1) := by decide +kernel
theorem dX6_share_10 : decode cX6_share 10 = .ok (.iload_n 3, 1) := by decide +kernel
theorem dX6_share_11 : decode cX6_share 11 = .ok (.ifCond .ne 7, 3) := by decide +kernel
theorem dX6_share_14 : decode cX6_share 14 = .ok (.iconst 1, 1) := by decide +kernel
theorem dX6_share_15 : decode cX6_share 15 = .ok (.goto 8, 3) := by decide +kernel
theorem dX6_share_18 : decode cX6_share 18 = .ok (.aload_n 0, 1) := by decide +kernel
theorem dX6_share_19 : decode cX6_share 19 = .ok (.iload_n 1, 1) := by decide +kernel
theorem dX6_share_20 : decode cX6_share 20 = .ok (.invokevirtual 150, 3) := by decide +kernel
theorem dX6_share_23 : decode cX6_share 23 = .ok (.ireturn, 1) := by decide +kernel
set_option maxRecDepth 20000 in
theorem ggX6_allShares_J6_bitCount_0f7a4 : GoodIn wsX6_allShares wsJ6_bitCount_0f7a4 := goodIn_r _ [4, 5, 6, 7] (by decide +kernel) (by decide +kernel)
set_option maxRecDepth 20000 in
theorem gX6_allShares_J6_bitCount_0f7a4 : GoodIn wsX6_allShares (va_wsS RX6 141 yJ6_bitCount_0f7a4 wsJ6_bitCount_0f7a4) := goodIn_app (goodIn_of _ (by decide +kernel)) ggX6_allShares_J6_bitCount_0f7a4
theorem dX6_allShares_0 : decode cX6_allShares 0 = .ok (.iload_n 1, 1) := by decide +kernel
theorem dX6_allShares_1 : decode cX6_allShares 1 = .ok (.ifCond .ne 10, 3) := by decide +kernel
theorem dX6_allShares_4 : decode cX6_allShares 4 = .ok (.iload_n 0, 1) := by decide +kernel
theorem dX6_allShares_5 : decode cX6_allShares 5 = .ok (.invokestatic 141, 3) := by decide +kernel
theorem dX6_allShares_8 : decode cX6_allShares 8 = .ok (.goto 4, 3) := by decide +kernel
theorem dX6_allShares_11 : decode cX6_allShares 11 = .ok (.iload_n 1, 1) := by decide +kernel
theorem dX6_allShares_12 : decode cX6_allShares 12 = .ok (.ireturn, 1) := by decide +kernel
set_option maxRecDepth 20000 in
theorem ggX6_reckonTwice_X1_become : GoodIn wsX6_reckonTwice wsX1_become := goodIn_r _ [7, 8, 9, 10, 11, 6, 12, 97, 98] (by decide +kernel) (by decide +kernel)
set_option maxRecDepth 20000 in
theorem gX6_reckonTwice_X1_become : GoodIn wsX6_reckonTwice (wsV RX6 247 RX1 yX1_become wsX1_become) := goodIn_app (goodIn_of _ (by decide +kernel)) ggX6_reckonTwice_X1_become
set_option maxRecDepth 20000 in
theorem ggX6_reckonTwice_X6_sumTwice : GoodIn wsX6_reckonTwice wsX6_sumTwice := goodIn_r _ [16, 17, 2, 1, 18, 19, 20, 21, 22, 23, 24, 25, 26, 27, 28, 29, 30, 31, 32, 33, 34, 35, 36, 37, 38, 39, 40, 41, 42, 15, 43, 44, 45, 46, 47, 48, 49, 50, 51, 52, 53, 54, 55, 56, 57, 58, 59, 60, 61, 62, 63, 64, 65, 66, 67, 68, 69, 70, 71, 72, 6, 73, 9, 8, 10, 11, 12, 74, 4, 5, 7, 75, 76, 77, 78, 13, 14, 79, 80, 81, 82, 83, 84, 85, 86, 87, 88, 89, 90, 91, 92, 93, 94, 95, 96, 99, 100, 101, 102, 103, 104, 97, 98] (by decide +kernel) (by decide +kernel)
set_option maxRecDepth 20000 in
theorem gX6_reckonTwice_X6_sumTwice : GoodIn wsX6_reckonTwice (va_wsS RX6 258 yX6_sumTwice wsX6_sumTwice) := goodIn_app (goodIn_of _ (by decide +kernel)) ggX6_reckonTwice_X6_sumTwice
theorem dX6_reckonTwice_0 : decode cX6_reckonTwice 0 = .ok (.aload_n 0, 1) := by decide +kernel
theorem dX6_reckonTwice_1 : decode cX6_reckonTwice 1 = .ok (.getfield 36, 3) := by decide +kernel
theorem dX6_reckonTwice_4 : decode cX6_reckonTwice 4 = .ok (.lconst 0, 1) := by decide +kernel
theorem dX6_reckonTwice_5 : decode cX6_reckonTwice 5 = .ok (.lconst 1, 1) := by decide +kernel
theorem dX6_reckonTwice_6 : decode cX6_reckonTwice 6 = .ok (.invokevirtual 247, 3) := by decide +kernel
theorem dX6_reckonTwice_9 : decode cX6_reckonTwice 9 = .ok (.aload_n 0, 1) := by decide +kernel
theorem dX6_reckonTwice_10 : decode cX6_reckonTwice 10 = .ok (.iload_n 1, 1) := by decide +kernel
theorem dX6_reckonTwice_11 : decode cX6_reckonTwice 11 = .ok (.aload_n 0, 1) := by decide +kernel
theorem dX6_reckonTwice_12 : decode cX6_reckonTwice 12 = .ok (.getfield 26, 3) := by decide +kernel
theorem dX6_reckonTwice_15 : decode cX6_reckonTwice 15 = .ok (.getfield 120, 3) := by decide +kernel
theorem dX6_reckonTwice_18 : decode cX6_reckonTwice 18 = .ok (.aload_n 0, 1) := by decide +kernel
theorem dX6_reckonTwice_19 : decode cX6_reckonTwice 19 = .ok (.getfield 26, 3) := by decide +kernel
theorem dX6_reckonTwice_22 : decode cX6_reckonTwice 22 = .ok (.getfield 126, 3) := by decide +kernel
theorem dX6_reckonTwice_25 : decode cX6_reckonTwice 25 = .ok (.iconst 0, 1) := by decide +kernel
theorem dX6_reckonTwice_26 : decode cX6_reckonTwice 26 = .ok (.lconst 1, 1) := by decide +kernel
theorem dX6_reckonTwice_27 : decode cX6_reckonTwice 27 = .ok (.lconst 1, 1) := by decide +kernel
theorem dX6_reckonTwice_28 : decode cX6_reckonTwice 28 = .ok (.invokestatic 258, 3) := by decide +kernel
theorem dX6_reckonTwice_31 : decode cX6_reckonTwice 31 = .ok (.return_, 1) := by decide +kernel
set_option maxRecDepth 20000 in
theorem ggX6_sumTwice_X0_mayCome : GoodIn wsX6_sumTwice wsX0_mayCome := goodIn_r _ [8, 9, 10, 11, 7, 12, 13, 14, 15, 16, 17, 18, 19, 20, 21, 22, 23, 24, 25, 95, 96, 97, 98, 99, 100] (by decide +kernel) (by decide +kernel)
set_option maxRecDepth 20000 in
theorem gX6_sumTwice_X0_mayCome : GoodIn wsX6_sumTwice (wsV RX6 222 RX0 yX0_mayCome wsX0_mayCome) := goodIn_app (goodIn_of _ (by decide +kernel)) ggX6_sumTwice_X0_mayCome
set_option maxRecDepth 20000 in
theorem ggX6_sumTwice_X6_weightTogether : GoodIn wsX6_sumTwice wsX6_weightTogether := goodIn_r _ [30, 1, 31, 32, 29, 33, 34, 35, 36, 37, 2, 38, 39, 40, 41, 42, 21, 22, 23, 24, 25, 77, 78, 79, 80, 81, 82, 83, 84, 85, 86, 95, 96, 97, 98, 99, 87, 88, 89, 90, 91, 92, 93, 94, 100] (by decide +kernel) (by decide +kernel)
set_option maxRecDepth 20000 in
theorem gX6_sumTwice_X6_weightTogether : GoodIn wsX6_sumTwice (wsV RX6 238 RX6 yX6_weightTogether wsX6_weightTogether) := goodIn_app (goodIn_of _ (by decide +kernel)) ggX6_sumTwice_X6_weightTogether
set_option maxRecDepth 20000 in
theorem ggX6_sumTwice_X6_allShares : GoodIn wsX6_sumTwice wsX6_allShares := goodIn_r _ [45, 46, 47, 48, 49, 50, 51, 52] (by decide +kernel) (by decide +kernel)
set_option maxRecDepth 20000 in
theorem gX6_sumTwice_X6_allShares : GoodIn wsX6_sumTwice (va_wsS RX6 244 yX6_allShares wsX6_allShares) := goodIn_app (goodIn_of _ (by decide +kernel)) ggX6_sumTwice_X6_allShares
set_option maxRecDepth 20000 in
theorem ggX6_sumTwice_X6_share : GoodIn wsX6_sumTwice wsX6_share := goodIn_r _ [56, 31, 32, 29, 33, 34, 35, 36, 37, 1, 2, 38, 39, 40, 41, 42, 21, 22, 23, 24, 25, 77, 78, 79, 80, 81, 82, 83, 84, 85, 86, 95, 96, 97, 98, 99, 87, 88, 89, 90, 91, 92, 93, 94, 100] (by decide +kernel) (by decide +kernel)
set_option maxRecDepth 20000 in
theorem gX6_sumTwice_X6_share : GoodIn wsX6_sumTwice (wsV RX6 241 RX6 yX6_share wsX6_share) := goodIn_app (goodIn_of _ (by decide +kernel)) ggX6_sumTwice_X6_share
set_option maxRecDepth 20000 in
theorem ggX6_sumTwice_X6_holds : GoodIn wsX6_sumTwice wsX6_holds := goodIn_r _ [33] (by decide +kernel) (by decide +kernel)
set_option maxRecDepth 20000 in
theorem gX6_sumTwice_X6_holds : GoodIn wsX6_sumTwice (va_wsS RX6 117 yX6_holds wsX6_holds) := goodIn_app (goodIn_of _ (by decide +kernel)) ggX6_sumTwice_X6_holds
set_option maxRecDepth 20000 in
theorem ggX6_sumTwice_X1_add : GoodIn wsX6_sumTwice wsX1_add := goodIn_r _ [61, 62, 63, 64, 65, 60, 66, 67, 68, 69, 70, 101, 102] (by decide +kernel) (by decide +kernel)
set_option maxRecDepth 20000 in
theorem gX6_sumTwice_X1_add : GoodIn wsX6_sumTwice (wsV RX6 262 RX1 yX1_add wsX1_add) := goodIn_app (goodIn_of _ (by decide +kernel)) ggX6_sumTwice_X1_add
set_option maxRecDepth 20000 in
theorem ggX6_sumTwice_X0_bagAfter : GoodIn wsX6_sumTwice wsX0_bagAfter := goodIn_r _ [74, 9, 10, 11, 7, 12, 13, 95, 96, 97, 98, 99] (by decide +kernel) (by decide +kernel)
set_option maxRecDepth 20000 in
theorem gX6_sumTwice_X0_bagAfter : GoodIn wsX6_sumTwice (wsV RX6 123 RX0 yX0_bagAfter wsX0_bagAfter) := goodIn_app (goodIn_of _ (by decide +kernel)) ggX6_sumTwice_X0_bagAfter
set_option maxRecDepth 20000 in
theorem ggX6_sumTwice_X6_sumTwice : GoodIn wsX6_sumTwice wsX6_sumTwice := goodIn_r _ [0, 1, 2, 3, 4, 5, 6, 7, 8, 9, 10, 11, 12, 13, 14, 15, 16, 17, 18, 19, 20, 21, 22, 23, 24, 25, 26, 27, 28, 29, 30, 31, 32, 33, 34, 35, 36, 37, 38, 39, 40, 41, 42, 43, 44, 45, 46, 47, 48, 49, 50, 51, 52, 53, 54, 55, 56, 57, 58, 59, 60, 61, 62, 63, 64, 65, 66, 67, 68, 69, 70, 71, 72, 73, 74, 75, 76, 77, 78, 79, 80, 81, 82, 83, 84, 85, 86, 87, 88, 89, 90, 91, 92, 93, 94, 95, 96, 97, 98, 99, 100, 101, 102] (by decide +kernel) (by decide +kernel)
set_option maxRecDepth 20000 in
theorem gX6_sumTwice_X6_sumTwice : GoodIn wsX6_sumTwice (va_wsS RX6 258 yX6_sumTwice wsX6_sumTwice) := goodIn_app (goodIn_of _ (by decide +kernel)) ggX6_sumTwice_X6_sumTwice
theorem dX6_sumTwice_0 : decode cX6_sumTwice 0 = .ok (.iload_n 1, 1) := by decide +kernel
theorem dX6_sumTwice_1 : decode cX6_sumTwice 1 = .ok (.ifCond .gt 4, 3) := by decide +kernel
theorem dX6_sumTwice_4 : decode cX6_sumTwice 4 = .ok (.return_, 1) := by decide +kernel
theorem dX6_sumTwice_5 : decode cX6_sumTwice 5 = .ok (.aload_n 0, 1) := by decide +kernel
theorem dX6_sumTwice_6 : decode cX6_sumTwice 6 = .ok (.getfield 19, 3) := by decide +kernel
theorem dX6_sumTwice_9 : decode cX6_sumTwice 9 = .ok (.aload_n 0, 1) := by decide +kernel
theorem dX6_sumTwice_10 : decode cX6_sumTwice 10 = .ok (.getfield 26, 3) := by decide +kernel
theorem dX6_sumTwice_13 : decode cX6_sumTwice 13 = .ok (.getfield 111, 3) := by decide +kernel
theorem dX6_sumTwice_16 : decode cX6_sumTwice 16 = .ok (.iload_n 2, 1) := by decide +kernel
theorem dX6_sumTwice_17 : decode cX6_sumTwice 17 = .ok (.iload_n 3, 1) := by decide +kernel
theorem dX6_sumTwice_18 : decode cX6_sumTwice 18 = .ok (.invokevirtual 222, 3) := by decide +kernel
theorem dX6_sumTwice_21 : decode cX6_sumTwice 21 = .ok (.istore 9, 2) := by decide +kernel
theorem dX6_sumTwice_23 : decode cX6_sumTwice 23 = .ok (.aload_n 0, 1) := by decide +kernel
theorem dX6_sumTwice_24 : decode cX6_sumTwice 24 = .ok (.iload 9, 2) := by decide +kernel
theorem dX6_sumTwice_26 : decode cX6_sumTwice 26 = .ok (.invokevirtual 238, 3) := by decide +kernel
theorem dX6_sumTwice_29 : decode cX6_sumTwice 29 = .ok (.istore 10, 2) := by decide +kernel
theorem dX6_sumTwice_31 : decode cX6_sumTwice 31 = .ok (.lload 7, 2) := by decide +kernel
theorem dX6_sumTwice_33 : decode cX6_sumTwice 33 = .ok (.iload 9, 2) := by decide +kernel
theorem dX6_sumTwice_35 : decode cX6_sumTwice 35 = .ok (.iload 10, 2) := by decide +kernel
theorem dX6_sumTwice_37 : decode cX6_sumTwice 37 = .ok (.invokestatic 244, 3) := by decide +kernel
theorem dX6_sumTwice_40 : decode cX6_sumTwice 40 = .ok (.i2l, 1) := by decide +kernel
theorem dX6_sumTwice_41 : decode cX6_sumTwice 41 = .ok (.lmul, 1) := by decide +kernel
theorem dX6_sumTwice_42 : decode cX6_sumTwice 42 = .ok (.lstore 11, 2) := by decide +kernel
theorem dX6_sumTwice_44 : decode cX6_sumTwice 44 = .ok (.iconst 0, 1) := by decide +kernel
theorem dX6_sumTwice_45 : decode cX6_sumTwice 45 = .ok (.istore 13, 2) := by decide +kernel
theorem dX6_sumTwice_47 : decode cX6_sumTwice 47 = .ok (.iload 13, 2) := by decide +kernel
theorem dX6_sumTwice_49 : decode cX6_sumTwice 49 = .ok (.aload_n 0, 1) := by decide +kernel
theorem dX6_sumTwice_50 : decode cX6_sumTwice 50 = .ok (.getfield 19, 3) := by decide +kernel
theorem dX6_sumTwice_53 : decode cX6_sumTwice 53 = .ok (.getfield 93, 3) := by decide +kernel
theorem dX6_sumTwice_56 : decode cX6_sumTwice 56 = .ok (.if_icmp .ge 97, 3) := by decide +kernel
theorem dX6_sumTwice_59 : decode cX6_sumTwice 59 = .ok (.lload 5, 2) := by decide +kernel
theorem dX6_sumTwice_61 : decode cX6_sumTwice 61 = .ok (.aload_n 0, 1) := by decide +kernel
theorem dX6_sumTwice_62 : decode cX6_sumTwice 62 = .ok (.iload 13, 2) := by decide +kernel
theorem dX6_sumTwice_64 : decode cX6_sumTwice 64 = .ok (.iload 9, 2) := by decide +kernel
theorem dX6_sumTwice_66 : decode cX6_sumTwice 66 = .ok (.iload 10, 2) := by decide +kernel
theorem dX6_sumTwice_68 : decode cX6_sumTwice 68 = .ok (.invokevirtual 241, 3) := by decide +kernel
theorem dX6_sumTwice_71 : decode cX6_sumTwice 71 = .ok (.i2l, 1) := by decide +kernel
theorem dX6_sumTwice_72 : decode cX6_sumTwice 72 = .ok (.lmul, 1) := by decide +kernel
theorem dX6_sumTwice_73 : decode cX6_sumTwice 73 = .ok (.lstore 14, 2) := by decide +kernel
theorem dX6_sumTwice_75 : decode cX6_sumTwice 75 = .ok (.lload 14, 2) := by decide +kernel
theorem dX6_sumTwice_77 : decode cX6_sumTwice 77 = .ok (.lconst 0, 1) := by decide +kernel
theorem dX6_sumTwice_78 : decode cX6_sumTwice 78 = .ok (.lcmp, 1) := by decide +kernel
theorem dX6_sumTwice_79 : decode cX6_sumTwice 79 = .ok (.ifCond .le 27, 3) := by decide +kernel
theorem dX6_sumTwice_82 : decode cX6_sumTwice 82 = .ok (.iload 4, 2) := by decide +kernel
theorem dX6_sumTwice_84 : decode cX6_sumTwice 84 = .ok (.iload 13, 2) := by decide +kernel
theorem dX6_sumTwice_86 : decode cX6_sumTwice 86 = .ok (.invokestatic 117, 3) := by decide +kernel
theorem dX6_sumTwice_89 : decode cX6_sumTwice 89 = .ok (.ifCond .eq 17, 3) := by decide +kernel
theorem dX6_sumTwice_92 : decode cX6_sumTwice 92 = .ok (.aload_n 0, 1) := by decide +kernel
theorem dX6_sumTwice_93 : decode cX6_sumTwice 93 = .ok (.getfield 36, 3) := by decide +kernel
theorem dX6_sumTwice_96 : decode cX6_sumTwice 96 = .ok (.lload 14, 2) := by decide +kernel
theorem dX6_sumTwice_98 : decode cX6_sumTwice 98 = .ok (.lload 11, 2) := by decide +kernel
theorem dX6_sumTwice_100 : decode cX6_sumTwice 100 = .ok (.invokevirtual 262, 3) := by decide +kernel
theorem dX6_sumTwice_103 : decode cX6_sumTwice 103 = .ok (.goto 44, 3) := by decide +kernel
theorem dX6_sumTwice_106 : decode cX6_sumTwice 106 = .ok (.lload 14, 2) := by decide +kernel
theorem dX6_sumTwice_108 : decode cX6_sumTwice 108 = .ok (.lconst 0, 1) := by decide +kernel
theorem dX6_sumTwice_109 : decode cX6_sumTwice 109 = .ok (.lcmp, 1) := by decide +kernel
theorem dX6_sumTwice_110 : decode cX6_sumTwice 110 = .ok (.ifCond .le 37, 3) := by decide +kernel
theorem dX6_sumTwice_113 : decode cX6_sumTwice 113 = .ok (.aload_n 0, 1) := by decide +kernel
theorem dX6_sumTwice_114 : decode cX6_sumTwice 114 = .ok (.getfield 19, 3) := by decide +kernel
theorem dX6_sumTwice_117 : decode cX6_sumTwice 117 = .ok (.iload_n 2, 1) := by decide +kernel
theorem dX6_sumTwice_118 : decode cX6_sumTwice 118 = .ok (.iload 13, 2) := by decide +kernel
theorem dX6_sumTwice_120 : decode cX6_sumTwice 120 = .ok (.invokevirtual 123, 3) := by decide +kernel
theorem dX6_sumTwice_123 : decode cX6_sumTwice 123 = .ok (.istore 16, 2) := by decide +kernel
theorem dX6_sumTwice_125 : decode cX6_sumTwice 125 = .ok (.aload_n 0, 1) := by decide +kernel
theorem dX6_sumTwice_126 : decode cX6_sumTwice 126 = .ok (.iload_n 1, 1) := by decide +kernel
theorem dX6_sumTwice_127 : decode cX6_sumTwice 127 = .ok (.iconst 1, 1) := by decide +kernel
theorem dX6_sumTwice_128 : decode cX6_sumTwice 128 = .ok (.isub, 1) := by decide +kernel
theorem dX6_sumTwice_129 : decode cX6_sumTwice 129 = .ok (.iload 16, 2) := by decide +kernel
theorem dX6_sumTwice_131 : decode cX6_sumTwice 131 = .ok (.iload 13, 2) := by decide +kernel
theorem dX6_sumTwice_133 : decode cX6_sumTwice 133 = .ok (.iload 4, 2) := by decide +kernel
theorem dX6_sumTwice_135 : decode cX6_sumTwice 135 = .ok (.iconst 1, 1) := by decide +kernel
theorem dX6_sumTwice_136 : decode cX6_sumTwice 136 = .ok (.iload 13, 2) := by decide +kernel
theorem dX6_sumTwice_138 : decode cX6_sumTwice 138 = .ok (.ishl, 1) := by decide +kernel
theorem dX6_sumTwice_139 : decode cX6_sumTwice 139 = .ok (.ior, 1) := by decide +kernel
theorem dX6_sumTwice_140 : decode cX6_sumTwice 140 = .ok (.lload 14, 2) := by decide +kernel
theorem dX6_sumTwice_142 : decode cX6_sumTwice 142 = .ok (.lload 11, 2) := by decide +kernel
theorem dX6_sumTwice_144 : decode cX6_sumTwice 144 = .ok (.invokestatic 258, 3) := by decide +kernel
theorem dX6_sumTwice_147 : decode cX6_sumTwice 147 = .ok (.iinc 13 1, 3) := by decide +kernel
theorem dX6_sumTwice_150 : decode cX6_sumTwice 150 = .ok (.goto (-103), 3) := by decide +kernel
theorem dX6_sumTwice_153 : decode cX6_sumTwice 153 = .ok (.return_, 1) := by decide +kernel
set_option maxRecDepth 20000 in
theorem ggX6_possibleRules_X6_reckonHeard : GoodIn wsX6_possibleRules wsX6_reckonHeard := goodIn_r _ [6, 7, 1, 8, 9, 10, 11, 12, 13, 14, 15, 16, 17, 18, 19, 20, 21, 22, 23, 24, 25, 26, 27, 28, 29, 30, 31, 32, 33, 34, 35, 36, 37, 38, 39, 40, 41, 42, 43, 44, 5, 45, 46, 47, 48, 49, 50, 51, 52, 53, 54, 55, 56, 57, 58, 59, 60, 61, 62, 63, 64, 65, 66, 67, 68, 69, 72, 73, 74, 75, 76, 77, 78, 79, 80, 81, 82, 83, 84, 70, 71, 85] (by decide +kernel) (by decide +kernel)
set_option maxRecDepth 20000 in
theorem gX6_possibleRules_X6_reckonHeard : GoodIn wsX6_possibleRules (wsV RX6 265 RX6 yX6_reckonHeard wsX6_reckonHeard) := goodIn_app (goodIn_of _ (by decide +kernel)) ggX6_possibleRules_X6_reckonHeard
theorem dX6_possibleRules_0 : decode cX6_possibleRules 0 = .ok (.iconst 0, 1) := by decide +kernel
theorem dX6_possibleRules_1 : decode cX6_possibleRules 1 = .ok (.istore_n 1, 1) := by decide +kernel
theorem dX6_possibleRules_2 : decode cX6_possibleRules 2 = .ok (.iconst 0, 1) := by decide +kernel
theorem dX6_possibleRules_3 : decode cX6_possibleRules 3 = .ok (.istore_n 2, 1) := by decide +kernel
theorem dX6_possibleRules_4 : decode cX6_possibleRules 4 = .ok (.iload_n 2, 1) := by decide +kernel
theorem dX6_possibleRules_5 : decode cX6_possibleRules 5 = .ok (.iconst 4, 1) := by decide +kernel
theorem dX6_possibleRules_6 : decode cX6_possibleRules 6 = .ok (.if_icmp .ge 36, 3) := by decide +kernel
theorem dX6_possibleRules_9 : decode cX6_possibleRules 9 = .ok (.aload_n 0, 1) := by decide +kernel
theorem dX6_possibleRules_10 : decode cX6_possibleRules 10 = .ok (.iload_n 2, 1) := by decide +kernel
theorem dX6_possibleRules_11 : decode cX6_possibleRules 11 = .ok (.invokevirtual 265, 3) := by decide +kernel
theorem dX6_possibleRules_14 : decode cX6_possibleRules 14 = .ok (.iload_n 1, 1) := by decide +kernel
theorem dX6_possibleRules_15 : decode cX6_possibleRules 15 = .ok (.aload_n 0, 1) := by decide +kernel
theorem dX6_possibleRules_16 : decode cX6_possibleRules 16 = .ok (.getfield 40, 3) := by decide +kernel
theorem dX6_possibleRules_19 : decode cX6_possibleRules 19 = .ok (.getfield 160, 3) := by decide +kernel
theorem dX6_possibleRules_22 : decode cX6_possibleRules 22 = .ok (.lconst 0, 1) := by decide +kernel
theorem dX6_possibleRules_23 : decode cX6_possibleRules 23 = .ok (.lcmp, 1) := by decide +kernel
theorem dX6_possibleRules_24 : decode cX6_possibleRules 24 = .ok (.ifCond .le 9, 3) := by decide +kernel
theorem dX6_possibleRules_27 : decode cX6_possibleRules 27 = .ok (.iconst 1, 1) := by decide +kernel
theorem dX6_possibleRules_28 : decode cX6_possibleRules 28 = .ok (.iload_n 2, 1) := by decide +kernel
theorem dX6_possibleRules_29 : decode cX6_possibleRules 29 = .ok (.ishl, 1) := by decide +kernel
theorem dX6_possibleRules_30 : decode cX6_possibleRules 30 = .ok (.goto 4, 3) := by decide +kernel
theorem dX6_possibleRules_33 : decode cX6_possibleRules 33 = .ok (.iconst 0, 1) := by decide +kernel
theorem dX6_possibleRules_34 : decode cX6_possibleRules 34 = .ok (.ior, 1) := by decide +kernel
theorem dX6_possibleRules_35 : decode cX6_possibleRules 35 = .ok (.istore_n 1, 1) := by decide +kernel
theorem dX6_possibleRules_36 : decode cX6_possibleRules 36 = .ok (.iinc 2 1, 3) := by decide +kernel
theorem dX6_possibleRules_39 : decode cX6_possibleRules 39 = .ok (.goto (-35), 3) := by decide +kernel
theorem dX6_possibleRules_42 : decode cX6_possibleRules 42 = .ok (.iload_n 1, 1) := by decide +kernel
theorem dX6_possibleRules_43 : decode cX6_possibleRules 43 = .ok (.ireturn, 1) := by decide +kernel
set_option maxRecDepth 20000 in
theorem ggX6_likeliestRule_X1_become : GoodIn wsX6_likeliestRule wsX1_become := goodIn_r _ [7, 8, 9, 10, 11, 6, 12, 75, 76] (by decide +kernel) (by decide +kernel)
set_option maxRecDepth 20000 in
theorem gX6_likeliestRule_X1_become : GoodIn wsX6_likeliestRule (wsV RX6 247 RX1 yX1_become wsX1_become) := goodIn_app (goodIn_of _ (by decide +kernel)) ggX6_likeliestRule_X1_become
set_option maxRecDepth 20000 in
theorem ggX6_likeliestRule_X6_reckonHeard : GoodIn wsX6_likeliestRule wsX6_reckonHeard := goodIn_r _ [17, 18, 2, 19, 20, 21, 22, 23, 24, 25, 3, 4, 5, 6, 7, 8, 9, 10, 11, 12, 26, 27, 28, 29, 30, 31, 32, 33, 34, 35, 36, 37, 38, 39, 40, 41, 42, 43, 44, 45, 16, 46, 47, 48, 49, 50, 51, 52, 53, 54, 55, 56, 57, 58, 59, 60, 65, 66, 67, 68, 69, 70, 71, 72, 73, 74, 77, 78, 79, 80, 81, 82, 83, 84, 85, 86, 87, 88, 89, 75, 76, 90] (by decide +kernel) (by decide +kernel)
set_option maxRecDepth 20000 in
theorem gX6_likeliestRule_X6_reckonHeard : GoodIn wsX6_likeliestRule (wsV RX6 265 RX6 yX6_reckonHeard wsX6_reckonHeard) := goodIn_app (goodIn_of _ (by decide +kernel)) ggX6_likeliestRule_X6_reckonHeard
set_option maxRecDepth 20000 in
theorem ggX6_likeliestRule_X1_isMoreThan : GoodIn wsX6_likeliestRule wsX1_isMoreThan := goodIn_r _ [64, 8, 9, 75, 76] (by decide +kernel) (by decide +kernel)
set_option maxRecDepth 20000 in
theorem gX6_likeliestRule_X1_isMoreThan : GoodIn wsX6_likeliestRule (wsV RX6 268 RX1 yX1_isMoreThan wsX1_isMoreThan) := goodIn_app (goodIn_of _ (by decide +kernel)) ggX6_likeliestRule_X1_isMoreThan
theorem dX6_likeliestRule_0 : decode cX6_likeliestRule 0 = .ok (.iconst (-1), 1) := by decide +kernel
theorem dX6_likeliestRule_1 : decode cX6_likeliestRule 1 = .ok (.istore_n 1, 1) := by decide +kernel
theorem dX6_likeliestRule_2 : decode cX6_likeliestRule 2 = .ok (.aload_n 0, 1) := by decide +kernel
theorem dX6_likeliestRule_3 : decode cX6_likeliestRule 3 = .ok (.getfield 43, 3) := by decide +kernel
theorem dX6_likeliestRule_6 : decode cX6_likeliestRule 6 = .ok (.lconst 0, 1) := by decide +kernel
theorem dX6_likeliestRule_7 : decode cX6_likeliestRule 7 = .ok (.lconst 1, 1) := by decide +kernel
theorem dX6_likeliestRule_8 : decode cX6_likeliestRule 8 = .ok (.invokevirtual 247, 3) := by decide +kernel
theorem dX6_likeliestRule_11 : decode cX6_likeliestRule 11 = .ok (.iconst 0, 1) := by decide +kernel
theorem dX6_likeliestRule_12 : decode cX6_likeliestRule 12 = .ok (.istore_n 2, 1) := by decide +kernel
theorem dX6_likeliestRule_13 : decode cX6_likeliestRule 13 = .ok (.iload_n 2, 1) := by decide +kernel
theorem dX6_likeliestRule_14 : decode cX6_likeliestRule 14 = .ok (.iconst 4, 1) := by decide +kernel
theorem dX6_likeliestRule_15 : decode cX6_likeliestRule 15 = .ok (.if_icmp .ge 51, 3) := by decide +kernel
theorem dX6_likeliestRule_18 : decode cX6_likeliestRule 18 = .ok (.aload_n 0, 1) := by decide +kernel
theorem dX6_likeliestRule_19 : decode cX6_likeliestRule 19 = .ok (.iload_n 2, 1) := by decide +kernel
theorem dX6_likeliestRule_20 : decode cX6_likeliestRule 20 = .ok (.invokevirtual 265, 3) := by decide +kernel
theorem dX6_likeliestRule_23 : decode cX6_likeliestRule 23 = .ok (.aload_n 0, 1) := by decide +kernel
theorem dX6_likeliestRule_24 : decode cX6_likeliestRule 24 = .ok (.getfield 40, 3) := by decide +kernel
theorem dX6_likeliestRule_27 : decode cX6_likeliestRule 27 = .ok (.aload_n 0, 1) := by decide +kernel
theorem dX6_likeliestRule_28 : decode cX6_likeliestRule 28 = .ok (.getfield 43, 3) := by decide +kernel
theorem dX6_likeliestRule_31 : decode cX6_likeliestRule 31 = .ok (.invokevirtual 268, 3) := by decide +kernel
theorem dX6_likeliestRule_34 : decode cX6_likeliestRule 34 = .ok (.ifCond .eq 26, 3) := by decide +kernel
theorem dX6_likeliestRule_37 : decode cX6_likeliestRule 37 = .ok (.aload_n 0, 1) := by decide +kernel
theorem dX6_likeliestRule_38 : decode cX6_likeliestRule 38 = .ok (.getfield 43, 3) := by decide +kernel
theorem dX6_likeliestRule_41 : decode cX6_likeliestRule 41 = .ok (.aload_n 0, 1) := by decide +kernel
theorem dX6_likeliestRule_42 : decode cX6_likeliestRule 42 = .ok (.getfield 40, 3) := by decide +kernel
theorem dX6_likeliestRule_45 : decode cX6_likeliestRule 45 = .ok (.getfield 160, 3) := by decide +kernel
theorem dX6_likeliestRule_48 : decode cX6_likeliestRule 48 = .ok (.aload_n 0, 1) := by decide +kernel
theorem dX6_likeliestRule_49 : decode cX6_likeliestRule 49 = .ok (.getfield 40, 3) := by decide +kernel
theorem dX6_likeliestRule_52 : decode cX6_likeliestRule 52 = .ok (.getfield 164, 3) := by decide +kernel
theorem dX6_likeliestRule_55 : decode cX6_likeliestRule 55 = .ok (.invokevirtual 247, 3) := by decide +kernel
theorem dX6_likeliestRule_58 : decode cX6_likeliestRule 58 = .ok (.iload_n 2, 1) := by decide +kernel
theorem dX6_likeliestRule_59 : decode cX6_likeliestRule 59 = .ok (.istore_n 1, 1) := by decide +kernel
theorem dX6_likeliestRule_60 : decode cX6_likeliestRule 60 = .ok (.iinc 2 1, 3) := by decide +kernel
theorem dX6_likeliestRule_63 : decode cX6_likeliestRule 63 = .ok (.goto (-50), 3) := by decide +kernel
theorem dX6_likeliestRule_66 : decode cX6_likeliestRule 66 = .ok (.iload_n 1, 1) := by decide +kernel
theorem dX6_likeliestRule_67 : decode cX6_likeliestRule 67 = .ok (.ireturn, 1) := by decide +kernel
set_option maxRecDepth 20000 in
theorem ggX6_reckonHeard_X0_all : GoodIn wsX6_reckonHeard wsX0_all := goodIn_r _ [8, 9, 74, 75, 76, 77, 78] (by decide +kernel) (by decide +kernel)
set_option maxRecDepth 20000 in
theorem gX6_reckonHeard_X0_all : GoodIn wsX6_reckonHeard (wsV RX6 86 RX0 yX0_all wsX0_all) := goodIn_app (goodIn_of _ (by decide +kernel)) ggX6_reckonHeard_X0_all
set_option maxRecDepth 20000 in
theorem ggX6_reckonHeard_X1_become : GoodIn wsX6_reckonHeard wsX1_become := goodIn_r _ [14, 15, 16, 17, 18, 13, 19, 79, 80] (by decide +kernel) (by decide +kernel)
set_option maxRecDepth 20000 in
theorem gX6_reckonHeard_X1_become : GoodIn wsX6_reckonHeard (wsV RX6 247 RX1 yX1_become wsX1_become) := goodIn_app (goodIn_of _ (by decide +kernel)) ggX6_reckonHeard_X1_become
set_option maxRecDepth 20000 in
theorem ggX6_reckonHeard_X5_at : GoodIn wsX6_reckonHeard wsX5_at := goodIn_r _ [24, 25, 81] (by decide +kernel) (by decide +kernel)
set_option maxRecDepth 20000 in
theorem gX6_reckonHeard_X5_at : GoodIn wsX6_reckonHeard (wsV RX6 216 RX5 yX5_at wsX5_at) := goodIn_app (goodIn_of _ (by decide +kernel)) ggX6_reckonHeard_X5_at
set_option maxRecDepth 20000 in
theorem ggX6_reckonHeard_X0_mayCome : GoodIn wsX6_reckonHeard wsX0_mayCome := goodIn_r _ [29, 30, 5, 6, 7, 8, 9, 31, 32, 33, 34, 35, 36, 37, 21, 22, 23, 24, 25, 74, 75, 76, 77, 78, 81] (by decide +kernel) (by decide +kernel)
set_option maxRecDepth 20000 in
theorem gX6_reckonHeard_X0_mayCome : GoodIn wsX6_reckonHeard (wsV RX6 222 RX0 yX0_mayCome wsX0_mayCome) := goodIn_app (goodIn_of _ (by decide +kernel)) ggX6_reckonHeard_X0_mayCome
set_option maxRecDepth 20000 in
theorem ggX6_reckonHeard_X6_holds : GoodIn wsX6_reckonHeard wsX6_holds := goodIn_r _ [41] (by decide +kernel) (by decide +kernel)
set_option maxRecDepth 20000 in
theorem gX6_reckonHeard_X6_holds : GoodIn wsX6_reckonHeard (va_wsS RX6 117 yX6_holds wsX6_holds) := goodIn_app (goodIn_of _ (by decide +kernel)) ggX6_reckonHeard_X6_holds
set_option maxRecDepth 20000 in
theorem ggX6_reckonHeard_X0_weightTogether : GoodIn wsX6_reckonHeard wsX0_weightTogether := goodIn_r _ [45, 9, 46, 39, 40, 41, 37, 21, 22, 23, 24, 25, 74, 75, 76, 77, 78, 81] (by decide +kernel) (by decide +kernel)
set_option maxRecDepth 20000 in
theorem gX6_reckonHeard_X0_weightTogether : GoodIn wsX6_reckonHeard (wsV RX6 272 RX0 yX0_weightTogether wsX0_weightTogether) := goodIn_app (goodIn_of _ (by decide +kernel)) ggX6_reckonHeard_X0_weightTogether
set_option maxRecDepth 20000 in
theorem ggX6_reckonHeard_X1_multiply : GoodIn wsX6_reckonHeard wsX1_multiply := goodIn_r _ [50, 15, 16, 51, 11, 12, 13, 14, 17, 18, 19, 79, 80] (by decide +kernel) (by decide +kernel)
set_option maxRecDepth 20000 in
theorem gX6_reckonHeard_X1_multiply : GoodIn wsX6_reckonHeard (wsV RX6 273 RX1 yX1_multiply wsX1_multiply) := goodIn_app (goodIn_of _ (by decide +kernel)) ggX6_reckonHeard_X1_multiply
set_option maxRecDepth 20000 in
theorem ggX6_reckonHeard_X0_bagAfter : GoodIn wsX6_reckonHeard wsX0_bagAfter := goodIn_r _ [55, 30, 5, 6, 7, 8, 9, 74, 75, 76, 77, 78] (by decide +kernel) (by decide +kernel)
set_option maxRecDepth 20000 in
theorem gX6_reckonHeard_X0_bagAfter : GoodIn wsX6_reckonHeard (wsV RX6 123 RX0 yX0_bagAfter wsX0_bagAfter) := goodIn_app (goodIn_of _ (by decide +kernel)) ggX6_reckonHeard_X0_bagAfter
theorem dX6_reckonHeard_0 : decode cX6_reckonHeard 0 = .ok (.aload_n 0, 1) := by decide +kernel
theorem dX6_reckonHeard_1 : decode cX6_reckonHeard 1 = .ok (.getfield 19, 3) := by decide +kernel
theorem dX6_reckonHeard_4 : decode cX6_reckonHeard 4 = .ok (.invokevirtual 86, 3) := by decide +kernel
theorem dX6_reckonHeard_7 : decode cX6_reckonHeard 7 = .ok (.istore_n 2, 1) := by decide +kernel
theorem dX6_reckonHeard_8 : decode cX6_reckonHeard 8 = .ok (.iconst (-1), 1) := by decide +kernel
theorem dX6_reckonHeard_9 : decode cX6_reckonHeard 9 = .ok (.istore_n 3, 1) := by decide +kernel
theorem dX6_reckonHeard_10 : decode cX6_reckonHeard 10 = .ok (.aload_n 0, 1) := by decide +kernel
theorem dX6_reckonHeard_11 : decode cX6_reckonHeard 11 = .ok (.getfield 40, 3) := by decide +kernel
theorem dX6_reckonHeard_14 : decode cX6_reckonHeard 14 = .ok (.lconst 1, 1) := by decide +kernel
theorem dX6_reckonHeard_15 : decode cX6_reckonHeard 15 = .ok (.lconst 1, 1) := by decide +kernel
theorem dX6_reckonHeard_16 : decode cX6_reckonHeard 16 = .ok (.invokevirtual 247, 3) := by decide +kernel
theorem dX6_reckonHeard_19 : decode cX6_reckonHeard 19 = .ok (.iconst 0, 1) := by decide +kernel
theorem dX6_reckonHeard_20 : decode cX6_reckonHeard 20 = .ok (.istore 4, 2) := by decide +kernel
theorem dX6_reckonHeard_22 : decode cX6_reckonHeard 22 = .ok (.iload 4, 2) := by decide +kernel
theorem dX6_reckonHeard_24 : decode cX6_reckonHeard 24 = .ok (.aload_n 0, 1) := by decide +kernel
theorem dX6_reckonHeard_25 : decode cX6_reckonHeard 25 = .ok (.getfield 26, 3) := by decide +kernel
theorem dX6_reckonHeard_28 : decode cX6_reckonHeard 28 = .ok (.getfield 174, 3) := by decide +kernel
theorem dX6_reckonHeard_31 : decode cX6_reckonHeard 31 = .ok (.if_icmp .ge 99, 3) := by decide +kernel
theorem dX6_reckonHeard_34 : decode cX6_reckonHeard 34 = .ok (.aload_n 0, 1) := by decide +kernel
theorem dX6_reckonHeard_35 : decode cX6_reckonHeard 35 = .ok (.getfield 26, 3) := by decide +kernel
theorem dX6_reckonHeard_38 : decode cX6_reckonHeard 38 = .ok (.getfield 177, 3) := by decide +kernel
theorem dX6_reckonHeard_41 : decode cX6_reckonHeard 41 = .ok (.iload 4, 2) := by decide +kernel
theorem dX6_reckonHeard_43 : decode cX6_reckonHeard 43 = .ok (.invokevirtual 216, 3) := by decide +kernel
theorem dX6_reckonHeard_46 : decode cX6_reckonHeard 46 = .ok (.istore 5, 2) := by decide +kernel
theorem dX6_reckonHeard_48 : decode cX6_reckonHeard 48 = .ok (.aload_n 0, 1) := by decide +kernel
theorem dX6_reckonHeard_49 : decode cX6_reckonHeard 49 = .ok (.getfield 19, 3) := by decide +kernel
theorem dX6_reckonHeard_52 : decode cX6_reckonHeard 52 = .ok (.iload_n 1, 1) := by decide +kernel
theorem dX6_reckonHeard_53 : decode cX6_reckonHeard 53 = .ok (.iload_n 2, 1) := by decide +kernel
theorem dX6_reckonHeard_54 : decode cX6_reckonHeard 54 = .ok (.iload_n 3, 1) := by decide +kernel
theorem dX6_reckonHeard_55 : decode cX6_reckonHeard 55 = .ok (.invokevirtual 222, 3) := by decide +kernel
theorem dX6_reckonHeard_58 : decode cX6_reckonHeard 58 = .ok (.istore 6, 2) := by decide +kernel
theorem dX6_reckonHeard_60 : decode cX6_reckonHeard 60 = .ok (.iload 6, 2) := by decide +kernel
theorem dX6_reckonHeard_62 : decode cX6_reckonHeard 62 = .ok (.iload 5, 2) := by decide +kernel
theorem dX6_reckonHeard_64 : decode cX6_reckonHeard 64 = .ok (.invokestatic 117, 3) := by decide +kernel
theorem dX6_reckonHeard_67 : decode cX6_reckonHeard 67 = .ok (.ifCond .ne 13, 3) := by decide +kernel
theorem dX6_reckonHeard_70 : decode cX6_reckonHeard 70 = .ok (.aload_n 0, 1) := by decide +kernel
theorem dX6_reckonHeard_71 : decode cX6_reckonHeard 71 = .ok (.getfield 40, 3) := by decide +kernel
theorem dX6_reckonHeard_74 : decode cX6_reckonHeard 74 = .ok (.lconst 0, 1) := by decide +kernel
theorem dX6_reckonHeard_75 : decode cX6_reckonHeard 75 = .ok (.lconst 1, 1) := by decide +kernel
theorem dX6_reckonHeard_76 : decode cX6_reckonHeard 76 = .ok (.invokevirtual 247, 3) := by decide +kernel
theorem dX6_reckonHeard_79 : decode cX6_reckonHeard 79 = .ok (.return_, 1) := by decide +kernel
theorem dX6_reckonHeard_80 : decode cX6_reckonHeard 80 = .ok (.aload_n 0, 1) := by decide +kernel
theorem dX6_reckonHeard_81 : decode cX6_reckonHeard 81 = .ok (.getfield 40, 3) := by decide +kernel
theorem dX6_reckonHeard_84 : decode cX6_reckonHeard 84 = .ok (.aload_n 0, 1) := by decide +kernel
theorem dX6_reckonHeard_85 : decode cX6_reckonHeard 85 = .ok (.getfield 19, 3) := by decide +kernel
theorem dX6_reckonHeard_88 : decode cX6_reckonHeard 88 = .ok (.getfield 250, 3) := by decide +kernel
theorem dX6_reckonHeard_91 : decode cX6_reckonHeard 91 = .ok (.iload 5, 2) := by decide +kernel
theorem dX6_reckonHeard_93 : decode cX6_reckonHeard 93 = .ok (.invokevirtual 216, 3) := by decide +kernel
theorem dX6_reckonHeard_96 : decode cX6_reckonHeard 96 = .ok (.i2l, 1) := by decide +kernel
theorem dX6_reckonHeard_97 : decode cX6_reckonHeard 97 = .ok (.aload_n 0, 1) := by decide +kernel
theorem dX6_reckonHeard_98 : decode cX6_reckonHeard 98 = .ok (.getfield 19, 3) := by decide +kernel
theorem dX6_reckonHeard_101 : decode cX6_reckonHeard 101 = .ok (.iload 6, 2) := by decide +kernel
theorem dX6_reckonHeard_103 : decode cX6_reckonHeard 103 = .ok (.invokevirtual 272, 3) := by decide +kernel
theorem dX6_reckonHeard_106 : decode cX6_reckonHeard 106 = .ok (.i2l, 1) := by decide +kernel
theorem dX6_reckonHeard_107 : decode cX6_reckonHeard 107 = .ok (.invokevirtual 273, 3) := by decide +kernel
theorem dX6_reckonHeard_110 : decode cX6_reckonHeard 110 = .ok (.aload_n 0, 1) := by decide +kernel
theorem dX6_reckonHeard_111 : decode cX6_reckonHeard 111 = .ok (.getfield 19, 3) := by decide +kernel
theorem dX6_reckonHeard_114 : decode cX6_reckonHeard 114 = .ok (.iload_n 2, 1) := by decide +kernel
theorem dX6_reckonHeard_115 : decode cX6_reckonHeard 115 = .ok (.iload 5, 2) := by decide +kernel
theorem dX6_reckonHeard_117 : decode cX6_reckonHeard 117 = .ok (.invokevirtual 123, 3) := by decide +kernel
theorem dX6_reckonHeard_120 : decode cX6_reckonHeard 120 = .ok (.istore_n 2, 1) := by decide +kernel
theorem dX6_reckonHeard_121 : decode cX6_reckonHeard 121 = .ok (.iload 5, 2) := by decide +kernel
theorem dX6_reckonHeard_123 : decode cX6_reckonHeard 123 = .ok (.istore_n 3, 1) := by decide +kernel
theorem dX6_reckonHeard_124 : decode cX6_reckonHeard 124 = .ok (.iinc 4 1, 3) := by decide +kernel
theorem dX6_reckonHeard_127 : decode cX6_reckonHeard 127 = .ok (.goto (-105), 3) := by decide +kernel
theorem dX6_reckonHeard_130 : decode cX6_reckonHeard 130 = .ok (.return_, 1) := by decide +kernel
set_option maxRecDepth 20000 in
theorem ggX6_eveningFact_X6_seedAfter : GoodIn wsX6_eveningFact wsX6_seedAfter := goodIn_r _ [6, 7, 8, 9] (by decide +kernel) (by decide +kernel)
set_option maxRecDepth 20000 in
theorem gX6_eveningFact_X6_seedAfter : GoodIn wsX6_eveningFact (va_wsS RX6 276 yX6_seedAfter wsX6_seedAfter) := goodIn_app (goodIn_of _ (by decide +kernel)) ggX6_eveningFact_X6_seedAfter
set_option maxRecDepth 20000 in
theorem ggX6_eveningFact_X0_mayCome : GoodIn wsX6_eveningFact wsX0_mayCome := goodIn_r _ [14, 15, 16, 17, 13, 18, 19, 20, 21, 22, 23, 24, 25, 26, 27, 28, 29, 30, 31, 89, 90, 91, 92, 93, 94] (by decide +kernel) (by decide +kernel)
set_option maxRecDepth 20000 in
theorem gX6_eveningFact_X0_mayCome : GoodIn wsX6_eveningFact (wsV RX6 222 RX0 yX0_mayCome wsX0_mayCome) := goodIn_app (goodIn_of _ (by decide +kernel)) ggX6_eveningFact_X0_mayCome
set_option maxRecDepth 20000 in
theorem ggX6_eveningFact_X6_drawn : GoodIn wsX6_eveningFact wsX6_drawn := goodIn_r _ [35, 36, 2, 37, 38, 39, 5, 40, 41, 42, 43, 44, 45, 46, 47, 1, 48, 49, 50, 51, 52, 27, 28, 29, 30, 31, 53, 54, 55, 56, 57, 58, 59, 60, 61, 62, 63, 64, 65, 66, 71, 72, 73, 74, 75, 76, 77, 78, 79, 80, 89, 90, 91, 92, 93, 81, 82, 83, 84, 85, 86, 87, 88, 94] (by decide +kernel) (by decide +kernel)
set_option maxRecDepth 20000 in
theorem gX6_eveningFact_X6_drawn : GoodIn wsX6_eveningFact (wsV RX6 279 RX6 yX6_drawn wsX6_drawn) := goodIn_app (goodIn_of _ (by decide +kernel)) ggX6_eveningFact_X6_drawn
set_option maxRecDepth 20000 in
theorem ggX6_eveningFact_X0_bagAfter : GoodIn wsX6_eveningFact wsX0_bagAfter := goodIn_r _ [70, 15, 16, 17, 13, 18, 19, 89, 90, 91, 92, 93] (by decide +kernel) (by decide +kernel)
set_option maxRecDepth 20000 in
theorem gX6_eveningFact_X0_bagAfter : GoodIn wsX6_eveningFact (wsV RX6 123 RX0 yX0_bagAfter wsX0_bagAfter) := goodIn_app (goodIn_of _ (by decide +kernel)) ggX6_eveningFact_X0_bagAfter
set_option maxRecDepth 20000 in
theorem ggX6_eveningFact_X5_at : GoodIn wsX6_eveningFact wsX5_at := goodIn_r _ [30, 31, 94] (by decide +kernel) (by decide +kernel)
set_option maxRecDepth 20000 in
theorem gX6_eveningFact_X5_at : GoodIn wsX6_eveningFact (wsV RX6 216 RX5 yX5_at wsX5_at) := goodIn_app (goodIn_of _ (by decide +kernel)) ggX6_eveningFact_X5_at
set_option maxRecDepth 20000 in
theorem ggX6_eveningFact_J6_bitCount_0f7a4 : GoodIn wsX6_eveningFact wsJ6_bitCount_0f7a4 := goodIn_r _ [59, 60, 61, 62] (by decide +kernel) (by decide +kernel)
set_option maxRecDepth 20000 in
theorem gX6_eveningFact_J6_bitCount_0f7a4 : GoodIn wsX6_eveningFact (va_wsS RX6 141 yJ6_bitCount_0f7a4 wsJ6_bitCount_0f7a4) := goodIn_app (goodIn_of _ (by decide +kernel)) ggX6_eveningFact_J6_bitCount_0f7a4
theorem dX6_eveningFact_0 : decode cX6_eveningFact 0 = .ok (.iload_n 2, 1) := by decide +kernel
theorem dX6_eveningFact_1 : decode cX6_eveningFact 1 = .ok (.i2l, 1) := by decide +kernel
theorem dX6_eveningFact_2 : decode cX6_eveningFact 2 = .ok (.lstore 4, 2) := by decide +kernel
theorem dX6_eveningFact_4 : decode cX6_eveningFact 4 = .ok (.aload_n 0, 1) := by decide +kernel
theorem dX6_eveningFact_5 : decode cX6_eveningFact 5 = .ok (.getfield 26, 3) := by decide +kernel
theorem dX6_eveningFact_8 : decode cX6_eveningFact 8 = .ok (.getfield 120, 3) := by decide +kernel
theorem dX6_eveningFact_11 : decode cX6_eveningFact 11 = .ok (.istore 6, 2) := by decide +kernel
theorem dX6_eveningFact_13 : decode cX6_eveningFact 13 = .ok (.aload_n 0, 1) := by decide +kernel
theorem dX6_eveningFact_14 : decode cX6_eveningFact 14 = .ok (.getfield 26, 3) := by decide +kernel
theorem dX6_eveningFact_17 : decode cX6_eveningFact 17 = .ok (.getfield 126, 3) := by decide +kernel
theorem dX6_eveningFact_20 : decode cX6_eveningFact 20 = .ok (.istore 7, 2) := by decide +kernel
theorem dX6_eveningFact_22 : decode cX6_eveningFact 22 = .ok (.iconst 0, 1) := by decide +kernel
theorem dX6_eveningFact_23 : decode cX6_eveningFact 23 = .ok (.istore 8, 2) := by decide +kernel
theorem dX6_eveningFact_25 : decode cX6_eveningFact 25 = .ok (.iconst 0, 1) := by decide +kernel
theorem dX6_eveningFact_26 : decode cX6_eveningFact 26 = .ok (.istore 9, 2) := by decide +kernel
theorem dX6_eveningFact_28 : decode cX6_eveningFact 28 = .ok (.iconst 0, 1) := by decide +kernel
theorem dX6_eveningFact_29 : decode cX6_eveningFact 29 = .ok (.istore 10, 2) := by decide +kernel
theorem dX6_eveningFact_31 : decode cX6_eveningFact 31 = .ok (.iload 10, 2) := by decide +kernel
theorem dX6_eveningFact_33 : decode cX6_eveningFact 33 = .ok (.iload_n 1, 1) := by decide +kernel
theorem dX6_eveningFact_34 : decode cX6_eveningFact 34 = .ok (.if_icmp .ge 85, 3) := by decide +kernel
theorem dX6_eveningFact_37 : decode cX6_eveningFact 37 = .ok (.lload 4, 2) := by decide +kernel
theorem dX6_eveningFact_39 : decode cX6_eveningFact 39 = .ok (.invokestatic 276, 3) := by decide +kernel
theorem dX6_eveningFact_42 : decode cX6_eveningFact 42 = .ok (.lstore 4, 2) := by decide +kernel
theorem dX6_eveningFact_44 : decode cX6_eveningFact 44 = .ok (.aload_n 0, 1) := by decide +kernel
theorem dX6_eveningFact_45 : decode cX6_eveningFact 45 = .ok (.lload 4, 2) := by decide +kernel
theorem dX6_eveningFact_47 : decode cX6_eveningFact 47 = .ok (.aload_n 0, 1) := by decide +kernel
theorem dX6_eveningFact_48 : decode cX6_eveningFact 48 = .ok (.getfield 19, 3) := by decide +kernel
theorem dX6_eveningFact_51 : decode cX6_eveningFact 51 = .ok (.aload_n 0, 1) := by decide +kernel
theorem dX6_eveningFact_52 : decode cX6_eveningFact 52 = .ok (.getfield 26, 3) := by decide +kernel
theorem dX6_eveningFact_55 : decode cX6_eveningFact 55 = .ok (.getfield 111, 3) := by decide +kernel
theorem dX6_eveningFact_58 : decode cX6_eveningFact 58 = .ok (.iload 6, 2) := by decide +kernel
theorem dX6_eveningFact_60 : decode cX6_eveningFact 60 = .ok (.iload 7, 2) := by decide +kernel
theorem dX6_eveningFact_62 : decode cX6_eveningFact 62 = .ok (.invokevirtual 222, 3) := by decide +kernel
theorem dX6_eveningFact_65 : decode cX6_eveningFact 65 = .ok (.invokevirtual 279, 3) := by decide +kernel
theorem dX6_eveningFact_68 : decode cX6_eveningFact 68 = .ok (.istore 11, 2) := by decide +kernel
theorem dX6_eveningFact_70 : decode cX6_eveningFact 70 = .ok (.aload_n 0, 1) := by decide +kernel
theorem dX6_eveningFact_71 : decode cX6_eveningFact 71 = .ok (.getfield 19, 3) := by decide +kernel
theorem dX6_eveningFact_74 : decode cX6_eveningFact 74 = .ok (.iload 6, 2) := by decide +kernel
theorem dX6_eveningFact_76 : decode cX6_eveningFact 76 = .ok (.iload 11, 2) := by decide +kernel
theorem dX6_eveningFact_78 : decode cX6_eveningFact 78 = .ok (.invokevirtual 123, 3) := by decide +kernel
theorem dX6_eveningFact_81 : decode cX6_eveningFact 81 = .ok (.istore 6, 2) := by decide +kernel
theorem dX6_eveningFact_83 : decode cX6_eveningFact 83 = .ok (.iload 11, 2) := by decide +kernel
theorem dX6_eveningFact_85 : decode cX6_eveningFact 85 = .ok (.istore 7, 2) := by decide +kernel
theorem dX6_eveningFact_87 : decode cX6_eveningFact 87 = .ok (.iload 8, 2) := by decide +kernel
theorem dX6_eveningFact_89 : decode cX6_eveningFact 89 = .ok (.iconst 1, 1) := by decide +kernel
theorem dX6_eveningFact_90 : decode cX6_eveningFact 90 = .ok (.iload 11, 2) := by decide +kernel
theorem dX6_eveningFact_92 : decode cX6_eveningFact 92 = .ok (.ishl, 1) := by decide +kernel
theorem dX6_eveningFact_93 : decode cX6_eveningFact 93 = .ok (.ior, 1) := by decide +kernel
theorem dX6_eveningFact_94 : decode cX6_eveningFact 94 = .ok (.istore 8, 2) := by decide +kernel
theorem dX6_eveningFact_96 : decode cX6_eveningFact 96 = .ok (.iload 9, 2) := by decide +kernel
theorem dX6_eveningFact_98 : decode cX6_eveningFact 98 = .ok (.aload_n 0, 1) := by decide +kernel
theorem dX6_eveningFact_99 : decode cX6_eveningFact 99 = .ok (.getfield 19, 3) := by decide +kernel
theorem dX6_eveningFact_102 : decode cX6_eveningFact 102 = .ok (.getfield 231, 3) := by decide +kernel
theorem dX6_eveningFact_105 : decode cX6_eveningFact 105 = .ok (.iload 11, 2) := by decide +kernel
theorem dX6_eveningFact_107 : decode cX6_eveningFact 107 = .ok (.invokevirtual 216, 3) := by decide +kernel
theorem dX6_eveningFact_110 : decode cX6_eveningFact 110 = .ok (.iadd, 1) := by decide +kernel
theorem dX6_eveningFact_111 : decode cX6_eveningFact 111 = .ok (.istore 9, 2) := by decide +kernel
theorem dX6_eveningFact_113 : decode cX6_eveningFact 113 = .ok (.iinc 10 1, 3) := by decide +kernel
theorem dX6_eveningFact_116 : decode cX6_eveningFact 116 = .ok (.goto (-85), 3) := by decide +kernel
theorem dX6_eveningFact_119 : decode cX6_eveningFact 119 = .ok (.iload_n 3, 1) := by decide +kernel
theorem dX6_eveningFact_120 : decode cX6_eveningFact 120 = .ok (.ifCond .ne 9, 3) := by decide +kernel
theorem dX6_eveningFact_123 : decode cX6_eveningFact 123 = .ok (.iload 8, 2) := by decide +kernel
theorem dX6_eveningFact_125 : decode cX6_eveningFact 125 = .ok (.invokestatic 141, 3) := by decide +kernel
theorem dX6_eveningFact_128 : decode cX6_eveningFact 128 = .ok (.ireturn, 1) := by decide +kernel
theorem dX6_eveningFact_129 : decode cX6_eveningFact 129 = .ok (.iload_n 3, 1) := by decide +kernel
theorem dX6_eveningFact_130 : decode cX6_eveningFact 130 = .ok (.iconst 1, 1) := by decide +kernel
theorem dX6_eveningFact_131 : decode cX6_eveningFact 131 = .ok (.if_icmp .ne 8, 3) := by decide +kernel
theorem dX6_eveningFact_134 : decode cX6_eveningFact 134 = .ok (.iload 9, 2) := by decide +kernel
theorem dX6_eveningFact_136 : decode cX6_eveningFact 136 = .ok (.goto 6, 3) := by decide +kernel
theorem dX6_eveningFact_139 : decode cX6_eveningFact 139 = .ok (.lload 4, 2) := by decide +kernel
theorem dX6_eveningFact_141 : decode cX6_eveningFact 141 = .ok (.l2i, 1) := by decide +kernel
theorem dX6_eveningFact_142 : decode cX6_eveningFact 142 = .ok (.ireturn, 1) := by decide +kernel
theorem dX6_seedAfter_0 : decode cX6_seedAfter 0 = .ok (.ldc2_w 283, 3) := by decide +kernel
theorem dX6_seedAfter_3 : decode cX6_seedAfter 3 = .ok (.lload_n 0, 1) := by decide +kernel
theorem dX6_seedAfter_4 : decode cX6_seedAfter 4 = .ok (.lmul, 1) := by decide +kernel
theorem dX6_seedAfter_5 : decode cX6_seedAfter 5 = .ok (.ldc2_w 285, 3) := by decide +kernel
theorem dX6_seedAfter_8 : decode cX6_seedAfter 8 = .ok (.ladd, 1) := by decide +kernel
theorem dX6_seedAfter_9 : decode cX6_seedAfter 9 = .ok (.ldc2_w 287, 3) := by decide +kernel
theorem dX6_seedAfter_12 : decode cX6_seedAfter 12 = .ok (.land, 1) := by decide +kernel
theorem dX6_seedAfter_13 : decode cX6_seedAfter 13 = .ok (.lreturn, 1) := by decide +kernel
set_option maxRecDepth 20000 in
theorem ggX6_drawn_X6_weightTogether : GoodIn wsX6_drawn wsX6_weightTogether := goodIn_r _ [7, 2, 8, 9, 6, 10, 11, 12, 13, 14, 15, 16, 17, 18, 19, 20, 21, 22, 23, 24, 25, 40, 41, 42, 43, 44, 45, 46, 47, 48, 49, 50, 51, 52, 53, 54, 55, 56, 57, 58, 59, 60, 61, 62, 63] (by decide +kernel) (by decide +kernel)
set_option maxRecDepth 20000 in
theorem gX6_drawn_X6_weightTogether : GoodIn wsX6_drawn (wsV RX6 238 RX6 yX6_weightTogether wsX6_weightTogether) := goodIn_app (goodIn_of _ (by decide +kernel)) ggX6_drawn_X6_weightTogether
set_option maxRecDepth 20000 in
theorem ggX6_drawn_X6_allShares : GoodIn wsX6_drawn wsX6_allShares := goodIn_r _ [28, 29, 30, 31, 32, 33, 34, 35] (by decide +kernel) (by decide +kernel)
set_option maxRecDepth 20000 in
theorem gX6_drawn_X6_allShares : GoodIn wsX6_drawn (va_wsS RX6 244 yX6_allShares wsX6_allShares) := goodIn_app (goodIn_of _ (by decide +kernel)) ggX6_drawn_X6_allShares
set_option maxRecDepth 20000 in
theorem ggX6_drawn_X6_share : GoodIn wsX6_drawn wsX6_share := goodIn_r _ [39, 8, 9, 6, 10, 11, 12, 13, 14, 2, 15, 16, 17, 18, 19, 20, 21, 22, 23, 24, 25, 40, 41, 42, 43, 44, 45, 46, 47, 48, 49, 50, 51, 52, 53, 54, 55, 56, 57, 58, 59, 60, 61, 62, 63] (by decide +kernel) (by decide +kernel)
set_option maxRecDepth 20000 in
theorem gX6_drawn_X6_share : GoodIn wsX6_drawn (wsV RX6 241 RX6 yX6_share wsX6_share) := goodIn_app (goodIn_of _ (by decide +kernel)) ggX6_drawn_X6_share
theorem dX6_drawn_0 : decode cX6_drawn 0 = .ok (.aload_n 0, 1) := by decide +kernel
theorem dX6_drawn_1 : decode cX6_drawn 1 = .ok (.iload_n 3, 1) := by decide +kernel
theorem dX6_drawn_2 : decode cX6_drawn 2 = .ok (.invokevirtual 238, 3) := by decide +kernel
theorem dX6_drawn_5 : decode cX6_drawn 5 = .ok (.istore 4, 2) := by decide +kernel
theorem dX6_drawn_7 : decode cX6_drawn 7 = .ok (.iload_n 3, 1) := by decide +kernel
theorem dX6_drawn_8 : decode cX6_drawn 8 = .ok (.iload 4, 2) := by decide +kernel
theorem dX6_drawn_10 : decode cX6_drawn 10 = .ok (.invokestatic 244, 3) := by decide +kernel
theorem dX6_drawn_13 : decode cX6_drawn 13 = .ok (.istore 5, 2) := by decide +kernel
theorem dX6_drawn_15 : decode cX6_drawn 15 = .ok (.iload 5, 2) := by decide +kernel
theorem dX6_drawn_17 : decode cX6_drawn 17 = .ok (.ifCond .gt 5, 3) := by decide +kernel
theorem dX6_drawn_20 : decode cX6_drawn 20 = .ok (.iconst 0, 1) := by decide +kernel
theorem dX6_drawn_21 : decode cX6_drawn 21 = .ok (.ireturn, 1) := by decide +kernel
theorem dX6_drawn_22 : decode cX6_drawn 22 = .ok (.lload_n 1, 1) := by decide +kernel
theorem dX6_drawn_23 : decode cX6_drawn 23 = .ok (.ldc2_w 289, 3) := by decide +kernel
theorem dX6_drawn_26 : decode cX6_drawn 26 = .ok (.ldiv, 1) := by decide +kernel
theorem dX6_drawn_27 : decode cX6_drawn 27 = .ok (.iload 5, 2) := by decide +kernel
theorem dX6_drawn_29 : decode cX6_drawn 29 = .ok (.i2l, 1) := by decide +kernel
theorem dX6_drawn_30 : decode cX6_drawn 30 = .ok (.lrem, 1) := by decide +kernel
theorem dX6_drawn_31 : decode cX6_drawn 31 = .ok (.lstore 6, 2) := by decide +kernel
theorem dX6_drawn_33 : decode cX6_drawn 33 = .ok (.iconst 0, 1) := by decide +kernel
theorem dX6_drawn_34 : decode cX6_drawn 34 = .ok (.istore 8, 2) := by decide +kernel
theorem dX6_drawn_36 : decode cX6_drawn 36 = .ok (.iload 8, 2) := by decide +kernel
theorem dX6_drawn_38 : decode cX6_drawn 38 = .ok (.aload_n 0, 1) := by decide +kernel
theorem dX6_drawn_39 : decode cX6_drawn 39 = .ok (.getfield 19, 3) := by decide +kernel
theorem dX6_drawn_42 : decode cX6_drawn 42 = .ok (.getfield 93, 3) := by decide +kernel
theorem dX6_drawn_45 : decode cX6_drawn 45 = .ok (.if_icmp .ge 34, 3) := by decide +kernel
theorem dX6_drawn_48 : decode cX6_drawn 48 = .ok (.lload 6, 2) := by decide +kernel
theorem dX6_drawn_50 : decode cX6_drawn 50 = .ok (.aload_n 0, 1) := by decide +kernel
theorem dX6_drawn_51 : decode cX6_drawn 51 = .ok (.iload 8, 2) := by decide +kernel
theorem dX6_drawn_53 : decode cX6_drawn 53 = .ok (.iload_n 3, 1) := by decide +kernel
theorem dX6_drawn_54 : decode cX6_drawn 54 = .ok (.iload 4, 2) := by decide +kernel
theorem dX6_drawn_56 : decode cX6_drawn 56 = .ok (.invokevirtual 241, 3) := by decide +kernel
theorem dX6_drawn_59 : decode cX6_drawn 59 = .ok (.i2l, 1) := by decide +kernel
theorem dX6_drawn_60 : decode cX6_drawn 60 = .ok (.lsub, 1) := by decide +kernel
theorem dX6_drawn_61 : decode cX6_drawn 61 = .ok (.lstore 6, 2) := by decide +kernel
theorem dX6_drawn_63 : decode cX6_drawn 63 = .ok (.lload 6, 2) := by decide +kernel
theorem dX6_drawn_65 : decode cX6_drawn 65 = .ok (.lconst 0, 1) := by decide +kernel
theorem dX6_drawn_66 : decode cX6_drawn 66 = .ok (.lcmp, 1) := by decide +kernel
theorem dX6_drawn_67 : decode cX6_drawn 67 = .ok (.ifCond .ge 6, 3) := by decide +kernel
theorem dX6_drawn_70 : decode cX6_drawn 70 = .ok (.iload 8, 2) := by decide +kernel
theorem dX6_drawn_72 : decode cX6_drawn 72 = .ok (.ireturn, 1) := by decide +kernel
theorem dX6_drawn_73 : decode cX6_drawn 73 = .ok (.iinc 8 1, 3) := by decide +kernel
theorem dX6_drawn_76 : decode cX6_drawn 76 = .ok (.goto (-40), 3) := by decide +kernel
theorem dX6_drawn_79 : decode cX6_drawn 79 = .ok (.iconst 0, 1) := by decide +kernel
theorem dX6_drawn_80 : decode cX6_drawn 80 = .ok (.ireturn, 1) := by decide +kernel
theorem dX6_holds_0 : decode cX6_holds 0 = .ok (.iload_n 1, 1) := by decide +kernel
theorem dX6_holds_1 : decode cX6_holds 1 = .ok (.ifCond .lt 22, 3) := by decide +kernel
theorem dX6_holds_4 : decode cX6_holds 4 = .ok (.iload_n 1, 1) := by decide +kernel
theorem dX6_holds_5 : decode cX6_holds 5 = .ok (.bipush 6, 2) := by decide +kernel
theorem dX6_holds_7 : decode cX6_holds 7 = .ok (.if_icmp .ge 16, 3) := by decide +kernel
theorem dX6_holds_10 : decode cX6_holds 10 = .ok (.iload_n 0, 1) := by decide +kernel
theorem dX6_holds_11 : decode cX6_holds 11 = .ok (.iload_n 1, 1) := by decide +kernel
theorem dX6_holds_12 : decode cX6_holds 12 = .ok (.ishr, 1) := by decide +kernel
theorem dX6_holds_13 : decode cX6_holds 13 = .ok (.iconst 1, 1) := by decide +kernel
theorem dX6_holds_14 : decode cX6_holds 14 = .ok (.iand, 1) := by decide +kernel
theorem dX6_holds_15 : decode cX6_holds 15 = .ok (.iconst 1, 1) := by decide +kernel
theorem dX6_holds_16 : decode cX6_holds 16 = .ok (.if_icmp .ne 7, 3) := by decide +kernel
theorem dX6_holds_19 : decode cX6_holds 19 = .ok (.iconst 1, 1) := by decide +kernel
theorem dX6_holds_20 : decode cX6_holds 20 = .ok (.goto 4, 3) := by decide +kernel
theorem dX6_holds_23 : decode cX6_holds 23 = .ok (.iconst 0, 1) := by decide +kernel
theorem dX6_holds_24 : decode cX6_holds 24 = .ok (.ireturn, 1) := by decide +kernel
