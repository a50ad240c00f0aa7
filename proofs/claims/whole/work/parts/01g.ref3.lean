theorem dX7_draw_0 : decode cX7_draw 0 = .ok (.aload_n 0, 1) := by decide +kernel
theorem dX7_draw_1 : decode cX7_draw 1 = .ok (.ldc2_w 200, 3) := by decide +kernel
theorem dX7_draw_4 : decode cX7_draw 4 = .ok (.aload_n 0, 1) := by decide +kernel
theorem dX7_draw_5 : decode cX7_draw 5 = .ok (.getfield 202, 3) := by decide +kernel
theorem dX7_draw_8 : decode cX7_draw 8 = .ok (.i2l, 1) := by decide +kernel
theorem dX7_draw_9 : decode cX7_draw 9 = .ok (.lmul, 1) := by decide +kernel
theorem dX7_draw_10 : decode cX7_draw 10 = .ok (.ldc2_w 205, 3) := by decide +kernel
theorem dX7_draw_13 : decode cX7_draw 13 = .ok (.ladd, 1) := by decide +kernel
theorem dX7_draw_14 : decode cX7_draw 14 = .ok (.ldc2_w 207, 3) := by decide +kernel
theorem dX7_draw_17 : decode cX7_draw 17 = .ok (.land, 1) := by decide +kernel
theorem dX7_draw_18 : decode cX7_draw 18 = .ok (.l2i, 1) := by decide +kernel
theorem dX7_draw_19 : decode cX7_draw 19 = .ok (.putfield 202, 3) := by decide +kernel
theorem dX7_draw_22 : decode cX7_draw 22 = .ok (.aload_n 0, 1) := by decide +kernel
theorem dX7_draw_23 : decode cX7_draw 23 = .ok (.getfield 202, 3) := by decide +kernel
theorem dX7_draw_26 : decode cX7_draw 26 = .ok (.ldc 209, 2) := by decide +kernel
theorem dX7_draw_28 : decode cX7_draw 28 = .ok (.idiv, 1) := by decide +kernel
theorem dX7_draw_29 : decode cX7_draw 29 = .ok (.iload_n 1, 1) := by decide +kernel
theorem dX7_draw_30 : decode cX7_draw 30 = .ok (.irem, 1) := by decide +kernel
theorem dX7_draw_31 : decode cX7_draw 31 = .ok (.ireturn, 1) := by decide +kernel
set_option maxRecDepth 20000 in
theorem ggX7_drawn_X7_sharesOf : GoodIn wsX7_drawn wsX7_sharesOf := goodIn_r _ [5, 6, 7, 8, 4, 9, 10, 11, 12, 13, 14, 15, 16, 17, 18, 19, 20, 21, 22, 36, 37, 38, 39, 40, 41, 42, 43, 44, 45, 46, 47, 48, 49, 50, 51, 52, 53, 54, 55, 56, 57, 58, 59, 60, 61, 62, 63, 64, 65] (by decide +kernel) (by decide +kernel)
set_option maxRecDepth 20000 in
theorem gX7_drawn_X7_sharesOf : GoodIn wsX7_drawn (wsV RX7 115 RX7 yX7_sharesOf wsX7_sharesOf) := goodIn_app (goodIn_of _ (by decide +kernel)) ggX7_drawn_X7_sharesOf
set_option maxRecDepth 20000 in
theorem ggX7_drawn_X7_draw : GoodIn wsX7_drawn wsX7_draw := goodIn_r _ [26, 27, 28, 29, 30, 31, 36, 37, 38, 39, 40, 41, 42, 43, 44, 45, 46, 47, 48, 49, 50, 51, 52, 53, 54, 55, 56, 57, 58, 59, 60, 61, 62, 63, 64, 65] (by decide +kernel) (by decide +kernel)
set_option maxRecDepth 20000 in
theorem gX7_drawn_X7_draw : GoodIn wsX7_drawn (wsV RX7 210 RX7 yX7_draw wsX7_draw) := goodIn_app (goodIn_of _ (by decide +kernel)) ggX7_drawn_X7_draw
set_option maxRecDepth 20000 in
theorem ggX7_drawn_X7_shareOf : GoodIn wsX7_drawn wsX7_shareOf := goodIn_r _ [35, 6, 7, 8, 4, 9, 10, 11, 12, 13, 14, 15, 16, 17, 18, 19, 36, 37, 38, 39, 40, 41, 42, 43, 44, 45, 46, 47, 48, 49, 50, 51, 52, 53, 54, 55, 56, 57, 58, 59, 60, 61, 62, 63, 64, 65] (by decide +kernel) (by decide +kernel)
set_option maxRecDepth 20000 in
theorem gX7_drawn_X7_shareOf : GoodIn wsX7_drawn (wsV RX7 118 RX7 yX7_shareOf wsX7_shareOf) := goodIn_app (goodIn_of _ (by decide +kernel)) ggX7_drawn_X7_shareOf
theorem dX7_drawn_0 : decode cX7_drawn 0 = .ok (.aload_n 0, 1) := by decide +kernel
theorem dX7_drawn_1 : decode cX7_drawn 1 = .ok (.aload_n 0, 1) := by decide +kernel
theorem dX7_drawn_2 : decode cX7_drawn 2 = .ok (.iload_n 1, 1) := by decide +kernel
theorem dX7_drawn_3 : decode cX7_drawn 3 = .ok (.invokevirtual 115, 3) := by decide +kernel
theorem dX7_drawn_6 : decode cX7_drawn 6 = .ok (.invokevirtual 210, 3) := by decide +kernel
theorem dX7_drawn_9 : decode cX7_drawn 9 = .ok (.istore_n 2, 1) := by decide +kernel
theorem dX7_drawn_10 : decode cX7_drawn 10 = .ok (.iconst 0, 1) := by decide +kernel
theorem dX7_drawn_11 : decode cX7_drawn 11 = .ok (.istore_n 3, 1) := by decide +kernel
theorem dX7_drawn_12 : decode cX7_drawn 12 = .ok (.iload_n 2, 1) := by decide +kernel
theorem dX7_drawn_13 : decode cX7_drawn 13 = .ok (.aload_n 0, 1) := by decide +kernel
theorem dX7_drawn_14 : decode cX7_drawn 14 = .ok (.iload_n 3, 1) := by decide +kernel
theorem dX7_drawn_15 : decode cX7_drawn 15 = .ok (.iload_n 1, 1) := by decide +kernel
theorem dX7_drawn_16 : decode cX7_drawn 16 = .ok (.invokevirtual 118, 3) := by decide +kernel
theorem dX7_drawn_19 : decode cX7_drawn 19 = .ok (.if_icmp .lt 18, 3) := by decide +kernel
theorem dX7_drawn_22 : decode cX7_drawn 22 = .ok (.iload_n 2, 1) := by decide +kernel
theorem dX7_drawn_23 : decode cX7_drawn 23 = .ok (.aload_n 0, 1) := by decide +kernel
theorem dX7_drawn_24 : decode cX7_drawn 24 = .ok (.iload_n 3, 1) := by decide +kernel
theorem dX7_drawn_25 : decode cX7_drawn 25 = .ok (.iload_n 1, 1) := by decide +kernel
theorem dX7_drawn_26 : decode cX7_drawn 26 = .ok (.invokevirtual 118, 3) := by decide +kernel
theorem dX7_drawn_29 : decode cX7_drawn 29 = .ok (.isub, 1) := by decide +kernel
theorem dX7_drawn_30 : decode cX7_drawn 30 = .ok (.istore_n 2, 1) := by decide +kernel
theorem dX7_drawn_31 : decode cX7_drawn 31 = .ok (.iinc 3 1, 3) := by decide +kernel
theorem dX7_drawn_34 : decode cX7_drawn 34 = .ok (.goto (-22), 3) := by decide +kernel
theorem dX7_drawn_37 : decode cX7_drawn 37 = .ok (.iload_n 3, 1) := by decide +kernel
theorem dX7_drawn_38 : decode cX7_drawn 38 = .ok (.ireturn, 1) := by decide +kernel
set_option maxRecDepth 20000 in
theorem ggX7_evenings_X7_in : GoodIn wsX7_evenings wsX7_in := goodIn_r _ [10] (by decide +kernel) (by decide +kernel)
set_option maxRecDepth 20000 in
theorem gX7_evenings_X7_in : GoodIn wsX7_evenings (va_wsS RX7 43 yX7_in wsX7_in) := goodIn_app (goodIn_of _ (by decide +kernel)) ggX7_evenings_X7_in
set_option maxRecDepth 20000 in
theorem ggX7_evenings_X7_lacks : GoodIn wsX7_evenings wsX7_lacks := goodIn_r _ [14, 15, 68, 69, 70, 71, 72, 73, 74, 75, 76, 77, 78, 79, 80, 81, 82, 83, 84, 85, 86, 87, 88, 89, 90, 91, 92, 93, 94, 95, 96, 97] (by decide +kernel) (by decide +kernel)
set_option maxRecDepth 20000 in
theorem gX7_evenings_X7_lacks : GoodIn wsX7_evenings (wsV RX7 140 RX7 yX7_lacks wsX7_lacks) := goodIn_app (goodIn_of _ (by decide +kernel)) ggX7_evenings_X7_lacks
set_option maxRecDepth 20000 in
theorem ggX7_evenings_X7_mayBy : GoodIn wsX7_evenings wsX7_mayBy := goodIn_r _ [19, 15, 20, 21, 22, 23, 9, 24, 68, 69, 70, 71, 72, 73, 74, 75, 76, 77, 78, 79, 80, 81, 82, 83, 84, 85, 86, 87, 88, 89, 90, 91, 92, 93, 94, 95, 96, 97] (by decide +kernel) (by decide +kernel)
set_option maxRecDepth 20000 in
theorem gX7_evenings_X7_mayBy : GoodIn wsX7_evenings (wsV RX7 98 RX7 yX7_mayBy wsX7_mayBy) := goodIn_app (goodIn_of _ (by decide +kernel)) ggX7_evenings_X7_mayBy
set_option maxRecDepth 20000 in
theorem ggX7_evenings_X7_drawn : GoodIn wsX7_evenings wsX7_drawn := goodIn_r _ [28, 29, 30, 31, 9, 32, 33, 34, 35, 36, 15, 37, 38, 39, 40, 20, 41, 42, 43, 44, 45, 46, 47, 48, 49, 50, 51, 52, 3, 53, 54, 55, 56, 57, 58, 59, 68, 69, 70, 71, 72, 73, 74, 75, 76, 77, 78, 79, 80, 81, 82, 83, 84, 85, 86, 87, 88, 89, 90, 91, 92, 93, 94, 95, 96, 97] (by decide +kernel) (by decide +kernel)
set_option maxRecDepth 20000 in
theorem gX7_evenings_X7_drawn : GoodIn wsX7_evenings (wsV RX7 215 RX7 yX7_drawn wsX7_drawn) := goodIn_app (goodIn_of _ (by decide +kernel)) ggX7_evenings_X7_drawn
set_option maxRecDepth 20000 in
theorem ggX7_evenings_X7_bagBehind : GoodIn wsX7_evenings wsX7_bagBehind := goodIn_r _ [63, 21, 22, 23, 9, 24, 15, 68, 69, 70, 71, 72, 73, 74, 75, 76, 77, 78, 79, 80, 81, 82, 83, 84, 85, 86, 87, 88, 89, 90, 91, 92, 93, 94, 95, 96, 97] (by decide +kernel) (by decide +kernel)
set_option maxRecDepth 20000 in
theorem gX7_evenings_X7_bagBehind : GoodIn wsX7_evenings (wsV RX7 144 RX7 yX7_bagBehind wsX7_bagBehind) := goodIn_app (goodIn_of _ (by decide +kernel)) ggX7_evenings_X7_bagBehind
set_option maxRecDepth 20000 in
theorem ggX7_evenings_X7_minutesOf : GoodIn wsX7_evenings wsX7_minutesOf := goodIn_r _ [67, 20, 68, 69, 70, 71, 72, 73, 74, 75, 76, 77, 78, 79, 80, 81, 82, 83, 84, 85, 86, 87, 88, 89, 90, 91, 92, 93, 94, 95, 96, 97] (by decide +kernel) (by decide +kernel)
set_option maxRecDepth 20000 in
theorem gX7_evenings_X7_minutesOf : GoodIn wsX7_evenings (wsV RX7 126 RX7 yX7_minutesOf wsX7_minutesOf) := goodIn_app (goodIn_of _ (by decide +kernel)) ggX7_evenings_X7_minutesOf
set_option maxRecDepth 20000 in
theorem ggX7_evenings_X7_ones : GoodIn wsX7_evenings wsX7_ones := goodIn_r _ [47] (by decide +kernel) (by decide +kernel)
set_option maxRecDepth 20000 in
theorem gX7_evenings_X7_ones : GoodIn wsX7_evenings (va_wsS RX7 109 yX7_ones wsX7_ones) := goodIn_app (goodIn_of _ (by decide +kernel)) ggX7_evenings_X7_ones
theorem dX7_evenings_0 : decode cX7_evenings 0 = .ok (.iload_n 1, 1) := by decide +kernel
theorem dX7_evenings_1 : decode cX7_evenings 1 = .ok (.i2l, 1) := by decide +kernel
theorem dX7_evenings_2 : decode cX7_evenings 2 = .ok (.lconst 1, 1) := by decide +kernel
theorem dX7_evenings_3 : decode cX7_evenings 3 = .ok (.ldc2_w 213, 3) := by decide +kernel
theorem dX7_evenings_6 : decode cX7_evenings 6 = .ok (.invokestatic 43, 3) := by decide +kernel
theorem dX7_evenings_9 : decode cX7_evenings 9 = .ok (.ifCond .eq 19, 3) := by decide +kernel
theorem dX7_evenings_12 : decode cX7_evenings 12 = .ok (.iload_n 2, 1) := by decide +kernel
theorem dX7_evenings_13 : decode cX7_evenings 13 = .ok (.ifCond .lt 15, 3) := by decide +kernel
theorem dX7_evenings_16 : decode cX7_evenings 16 = .ok (.iload_n 3, 1) := by decide +kernel
theorem dX7_evenings_17 : decode cX7_evenings 17 = .ok (.i2l, 1) := by decide +kernel
theorem dX7_evenings_18 : decode cX7_evenings 18 = .ok (.lconst 0, 1) := by decide +kernel
theorem dX7_evenings_19 : decode cX7_evenings 19 = .ok (.ldc2_w 156, 3) := by decide +kernel
theorem dX7_evenings_22 : decode cX7_evenings 22 = .ok (.invokestatic 43, 3) := by decide +kernel
theorem dX7_evenings_25 : decode cX7_evenings 25 = .ok (.ifCond .ne 6, 3) := by decide +kernel
theorem dX7_evenings_28 : decode cX7_evenings 28 = .ok (.bipush (-102), 2) := by decide +kernel
theorem dX7_evenings_30 : decode cX7_evenings 30 = .ok (.ireturn, 1) := by decide +kernel
theorem dX7_evenings_31 : decode cX7_evenings 31 = .ok (.aload_n 0, 1) := by decide +kernel
theorem dX7_evenings_32 : decode cX7_evenings 32 = .ok (.invokevirtual 140, 3) := by decide +kernel
theorem dX7_evenings_35 : decode cX7_evenings 35 = .ok (.ifCond .eq 6, 3) := by decide +kernel
theorem dX7_evenings_38 : decode cX7_evenings 38 = .ok (.bipush (-103), 2) := by decide +kernel
theorem dX7_evenings_40 : decode cX7_evenings 40 = .ok (.ireturn, 1) := by decide +kernel
theorem dX7_evenings_41 : decode cX7_evenings 41 = .ok (.aload_n 0, 1) := by decide +kernel
theorem dX7_evenings_42 : decode cX7_evenings 42 = .ok (.iload_n 2, 1) := by decide +kernel
theorem dX7_evenings_43 : decode cX7_evenings 43 = .ok (.putfield 202, 3) := by decide +kernel
theorem dX7_evenings_46 : decode cX7_evenings 46 = .ok (.aload_n 0, 1) := by decide +kernel
theorem dX7_evenings_47 : decode cX7_evenings 47 = .ok (.getfield 82, 3) := by decide +kernel
theorem dX7_evenings_50 : decode cX7_evenings 50 = .ok (.istore 4, 2) := by decide +kernel
theorem dX7_evenings_52 : decode cX7_evenings 52 = .ok (.aload_n 0, 1) := by decide +kernel
theorem dX7_evenings_53 : decode cX7_evenings 53 = .ok (.getfield 38, 3) := by decide +kernel
theorem dX7_evenings_56 : decode cX7_evenings 56 = .ok (.istore 5, 2) := by decide +kernel
theorem dX7_evenings_58 : decode cX7_evenings 58 = .ok (.iconst 0, 1) := by decide +kernel
theorem dX7_evenings_59 : decode cX7_evenings 59 = .ok (.istore 6, 2) := by decide +kernel
theorem dX7_evenings_61 : decode cX7_evenings 61 = .ok (.iconst 0, 1) := by decide +kernel
theorem dX7_evenings_62 : decode cX7_evenings 62 = .ok (.istore 7, 2) := by decide +kernel
theorem dX7_evenings_64 : decode cX7_evenings 64 = .ok (.iconst 0, 1) := by decide +kernel
theorem dX7_evenings_65 : decode cX7_evenings 65 = .ok (.istore 8, 2) := by decide +kernel
theorem dX7_evenings_67 : decode cX7_evenings 67 = .ok (.iload 8, 2) := by decide +kernel
theorem dX7_evenings_69 : decode cX7_evenings 69 = .ok (.iload_n 1, 1) := by decide +kernel
theorem dX7_evenings_70 : decode cX7_evenings 70 = .ok (.if_icmp .ge 57, 3) := by decide +kernel
theorem dX7_evenings_73 : decode cX7_evenings 73 = .ok (.aload_n 0, 1) := by decide +kernel
theorem dX7_evenings_74 : decode cX7_evenings 74 = .ok (.aload_n 0, 1) := by decide +kernel
theorem dX7_evenings_75 : decode cX7_evenings 75 = .ok (.aload_n 0, 1) := by decide +kernel
theorem dX7_evenings_76 : decode cX7_evenings 76 = .ok (.getfield 76, 3) := by decide +kernel
theorem dX7_evenings_79 : decode cX7_evenings 79 = .ok (.iload 4, 2) := by decide +kernel
theorem dX7_evenings_81 : decode cX7_evenings 81 = .ok (.iload 5, 2) := by decide +kernel
theorem dX7_evenings_83 : decode cX7_evenings 83 = .ok (.invokevirtual 98, 3) := by decide +kernel
theorem dX7_evenings_86 : decode cX7_evenings 86 = .ok (.invokevirtual 215, 3) := by decide +kernel
theorem dX7_evenings_89 : decode cX7_evenings 89 = .ok (.istore 5, 2) := by decide +kernel
theorem dX7_evenings_91 : decode cX7_evenings 91 = .ok (.aload_n 0, 1) := by decide +kernel
theorem dX7_evenings_92 : decode cX7_evenings 92 = .ok (.iload 4, 2) := by decide +kernel
theorem dX7_evenings_94 : decode cX7_evenings 94 = .ok (.iload 5, 2) := by decide +kernel
theorem dX7_evenings_96 : decode cX7_evenings 96 = .ok (.invokevirtual 144, 3) := by decide +kernel
theorem dX7_evenings_99 : decode cX7_evenings 99 = .ok (.istore 4, 2) := by decide +kernel
theorem dX7_evenings_101 : decode cX7_evenings 101 = .ok (.iload 6, 2) := by decide +kernel
theorem dX7_evenings_103 : decode cX7_evenings 103 = .ok (.iconst 1, 1) := by decide +kernel
theorem dX7_evenings_104 : decode cX7_evenings 104 = .ok (.iload 5, 2) := by decide +kernel
theorem dX7_evenings_106 : decode cX7_evenings 106 = .ok (.ishl, 1) := by decide +kernel
theorem dX7_evenings_107 : decode cX7_evenings 107 = .ok (.ior, 1) := by decide +kernel
theorem dX7_evenings_108 : decode cX7_evenings 108 = .ok (.istore 6, 2) := by decide +kernel
theorem dX7_evenings_110 : decode cX7_evenings 110 = .ok (.iload 7, 2) := by decide +kernel
theorem dX7_evenings_112 : decode cX7_evenings 112 = .ok (.aload_n 0, 1) := by decide +kernel
theorem dX7_evenings_113 : decode cX7_evenings 113 = .ok (.iload 5, 2) := by decide +kernel
theorem dX7_evenings_115 : decode cX7_evenings 115 = .ok (.invokevirtual 126, 3) := by decide +kernel
theorem dX7_evenings_118 : decode cX7_evenings 118 = .ok (.iadd, 1) := by decide +kernel
theorem dX7_evenings_119 : decode cX7_evenings 119 = .ok (.istore 7, 2) := by decide +kernel
theorem dX7_evenings_121 : decode cX7_evenings 121 = .ok (.iinc 8 1, 3) := by decide +kernel
theorem dX7_evenings_124 : decode cX7_evenings 124 = .ok (.goto (-57), 3) := by decide +kernel
theorem dX7_evenings_127 : decode cX7_evenings 127 = .ok (.iload_n 3, 1) := by decide +kernel
theorem dX7_evenings_128 : decode cX7_evenings 128 = .ok (.ifCond .ne 11, 3) := by decide +kernel
theorem dX7_evenings_131 : decode cX7_evenings 131 = .ok (.iload 6, 2) := by decide +kernel
theorem dX7_evenings_133 : decode cX7_evenings 133 = .ok (.invokestatic 109, 3) := by decide +kernel
theorem dX7_evenings_136 : decode cX7_evenings 136 = .ok (.goto 17, 3) := by decide +kernel
theorem dX7_evenings_139 : decode cX7_evenings 139 = .ok (.iload_n 3, 1) := by decide +kernel
theorem dX7_evenings_140 : decode cX7_evenings 140 = .ok (.iconst 1, 1) := by decide +kernel
theorem dX7_evenings_141 : decode cX7_evenings 141 = .ok (.if_icmp .ne 8, 3) := by decide +kernel
theorem dX7_evenings_144 : decode cX7_evenings 144 = .ok (.iload 7, 2) := by decide +kernel
theorem dX7_evenings_146 : decode cX7_evenings 146 = .ok (.goto 7, 3) := by decide +kernel
theorem dX7_evenings_149 : decode cX7_evenings 149 = .ok (.aload_n 0, 1) := by decide +kernel
theorem dX7_evenings_150 : decode cX7_evenings 150 = .ok (.getfield 202, 3) := by decide +kernel
theorem dX7_evenings_153 : decode cX7_evenings 153 = .ok (.ireturn, 1) := by decide +kernel
theorem dX7_sumAt_0 : decode cX7_sumAt 0 = .ok (.iconst 0, 1) := by decide +kernel
theorem dX7_sumAt_1 : decode cX7_sumAt 1 = .ok (.istore_n 2, 1) := by decide +kernel
theorem dX7_sumAt_2 : decode cX7_sumAt 2 = .ok (.iconst 0, 1) := by decide +kernel
theorem dX7_sumAt_3 : decode cX7_sumAt 3 = .ok (.istore_n 3, 1) := by decide +kernel
theorem dX7_sumAt_4 : decode cX7_sumAt 4 = .ok (.iload_n 3, 1) := by decide +kernel
theorem dX7_sumAt_5 : decode cX7_sumAt 5 = .ok (.aload_n 0, 1) := by decide +kernel
theorem dX7_sumAt_6 : decode cX7_sumAt 6 = .ok (.getfield 73, 3) := by decide +kernel
theorem dX7_sumAt_9 : decode cX7_sumAt 9 = .ok (.if_icmp .ge 22, 3) := by decide +kernel
theorem dX7_sumAt_12 : decode cX7_sumAt 12 = .ok (.iload_n 2, 1) := by decide +kernel
theorem dX7_sumAt_13 : decode cX7_sumAt 13 = .ok (.aload_n 0, 1) := by decide +kernel
theorem dX7_sumAt_14 : decode cX7_sumAt 14 = .ok (.getfield 16, 3) := by decide +kernel
theorem dX7_sumAt_17 : decode cX7_sumAt 17 = .ok (.iconst 4, 1) := by decide +kernel
theorem dX7_sumAt_18 : decode cX7_sumAt 18 = .ok (.iload_n 3, 1) := by decide +kernel
theorem dX7_sumAt_19 : decode cX7_sumAt 19 = .ok (.imul, 1) := by decide +kernel
theorem dX7_sumAt_20 : decode cX7_sumAt 20 = .ok (.iload_n 1, 1) := by decide +kernel
theorem dX7_sumAt_21 : decode cX7_sumAt 21 = .ok (.iadd, 1) := by decide +kernel
theorem dX7_sumAt_22 : decode cX7_sumAt 22 = .ok (.iaload, 1) := by decide +kernel
theorem dX7_sumAt_23 : decode cX7_sumAt 23 = .ok (.iadd, 1) := by decide +kernel
theorem dX7_sumAt_24 : decode cX7_sumAt 24 = .ok (.istore_n 2, 1) := by decide +kernel
theorem dX7_sumAt_25 : decode cX7_sumAt 25 = .ok (.iinc 3 1, 3) := by decide +kernel
theorem dX7_sumAt_28 : decode cX7_sumAt 28 = .ok (.goto (-24), 3) := by decide +kernel
theorem dX7_sumAt_31 : decode cX7_sumAt 31 = .ok (.iload_n 2, 1) := by decide +kernel
theorem dX7_sumAt_32 : decode cX7_sumAt 32 = .ok (.ireturn, 1) := by decide +kernel
set_option maxRecDepth 20000 in
theorem ggX7_image_X7_lacks : GoodIn wsX7_image wsX7_lacks := goodIn_r _ [21, 22, 30, 31, 32, 33, 34, 35, 36, 37, 38, 39, 40, 41, 42, 43, 44, 45, 46, 47, 48, 49, 50, 51, 52, 53, 54, 55, 56, 57, 58, 59] (by decide +kernel) (by decide +kernel)
set_option maxRecDepth 20000 in
theorem gX7_image_X7_lacks : GoodIn wsX7_image (wsV RX7 140 RX7 yX7_lacks wsX7_lacks) := goodIn_app (goodIn_of _ (by decide +kernel)) ggX7_image_X7_lacks
set_option maxRecDepth 20000 in
theorem ggX7_image_X7_copy : GoodIn wsX7_image wsX7_copy := goodIn_r _ [25] (by decide +kernel) (by decide +kernel)
set_option maxRecDepth 20000 in
theorem gX7_image_X7_copy : GoodIn wsX7_image (va_wsS RX7 172 yX7_copy wsX7_copy) := goodIn_app (goodIn_of _ (by decide +kernel)) ggX7_image_X7_copy
set_option maxRecDepth 20000 in
theorem ggX7_image_X7_sumAt : GoodIn wsX7_image wsX7_sumAt := goodIn_r _ [29, 22, 1, 30, 31, 32, 33, 34, 35, 36, 37, 38, 39, 40, 41, 42, 43, 44, 45, 46, 47, 48, 49, 50, 51, 52, 53, 54, 55, 56, 57, 58, 59] (by decide +kernel) (by decide +kernel)
set_option maxRecDepth 20000 in
theorem gX7_image_X7_sumAt : GoodIn wsX7_image (wsV RX7 233 RX7 yX7_sumAt wsX7_sumAt) := goodIn_app (goodIn_of _ (by decide +kernel)) ggX7_image_X7_sumAt
theorem dX7_image_0 : decode cX7_image 0 = .ok (.aload_n 0, 1) := by decide +kernel
theorem dX7_image_1 : decode cX7_image 1 = .ok (.invokevirtual 140, 3) := by decide +kernel
theorem dX7_image_4 : decode cX7_image 4 = .ok (.ifCond .eq 6, 3) := by decide +kernel
theorem dX7_image_7 : decode cX7_image 7 = .ok (.bipush (-103), 2) := by decide +kernel
theorem dX7_image_9 : decode cX7_image 9 = .ok (.ireturn, 1) := by decide +kernel
theorem dX7_image_10 : decode cX7_image 10 = .ok (.aload_n 0, 1) := by decide +kernel
theorem dX7_image_11 : decode cX7_image 11 = .ok (.getfield 16, 3) := by decide +kernel
theorem dX7_image_14 : decode cX7_image 14 = .ok (.aload_n 0, 1) := by decide +kernel
theorem dX7_image_15 : decode cX7_image 15 = .ok (.getfield 28, 3) := by decide +kernel
theorem dX7_image_18 : decode cX7_image 18 = .ok (.invokestatic 172, 3) := by decide +kernel
theorem dX7_image_21 : decode cX7_image 21 = .ok (.aload_n 0, 1) := by decide +kernel
theorem dX7_image_22 : decode cX7_image 22 = .ok (.getfield 25, 3) := by decide +kernel
theorem dX7_image_25 : decode cX7_image 25 = .ok (.aload_n 0, 1) := by decide +kernel
theorem dX7_image_26 : decode cX7_image 26 = .ok (.getfield 31, 3) := by decide +kernel
theorem dX7_image_29 : decode cX7_image 29 = .ok (.invokestatic 172, 3) := by decide +kernel
theorem dX7_image_32 : decode cX7_image 32 = .ok (.aload_n 0, 1) := by decide +kernel
theorem dX7_image_33 : decode cX7_image 33 = .ok (.aload_n 0, 1) := by decide +kernel
theorem dX7_image_34 : decode cX7_image 34 = .ok (.getfield 76, 3) := by decide +kernel
theorem dX7_image_37 : decode cX7_image 37 = .ok (.putfield 218, 3) := by decide +kernel
theorem dX7_image_40 : decode cX7_image 40 = .ok (.aload_n 0, 1) := by decide +kernel
theorem dX7_image_41 : decode cX7_image 41 = .ok (.aload_n 0, 1) := by decide +kernel
theorem dX7_image_42 : decode cX7_image 42 = .ok (.getfield 82, 3) := by decide +kernel
theorem dX7_image_45 : decode cX7_image 45 = .ok (.putfield 221, 3) := by decide +kernel
theorem dX7_image_48 : decode cX7_image 48 = .ok (.aload_n 0, 1) := by decide +kernel
theorem dX7_image_49 : decode cX7_image 49 = .ok (.aload_n 0, 1) := by decide +kernel
theorem dX7_image_50 : decode cX7_image 50 = .ok (.getfield 38, 3) := by decide +kernel
theorem dX7_image_53 : decode cX7_image 53 = .ok (.putfield 224, 3) := by decide +kernel
theorem dX7_image_56 : decode cX7_image 56 = .ok (.aload_n 0, 1) := by decide +kernel
theorem dX7_image_57 : decode cX7_image 57 = .ok (.aload_n 0, 1) := by decide +kernel
theorem dX7_image_58 : decode cX7_image 58 = .ok (.getfield 85, 3) := by decide +kernel
theorem dX7_image_61 : decode cX7_image 61 = .ok (.putfield 227, 3) := by decide +kernel
theorem dX7_image_64 : decode cX7_image 64 = .ok (.aload_n 0, 1) := by decide +kernel
theorem dX7_image_65 : decode cX7_image 65 = .ok (.aload_n 0, 1) := by decide +kernel
theorem dX7_image_66 : decode cX7_image 66 = .ok (.getfield 89, 3) := by decide +kernel
theorem dX7_image_69 : decode cX7_image 69 = .ok (.putfield 230, 3) := by decide +kernel
theorem dX7_image_72 : decode cX7_image 72 = .ok (.aload_n 0, 1) := by decide +kernel
theorem dX7_image_73 : decode cX7_image 73 = .ok (.aload_n 0, 1) := by decide +kernel
theorem dX7_image_74 : decode cX7_image 74 = .ok (.getfield 92, 3) := by decide +kernel
theorem dX7_image_77 : decode cX7_image 77 = .ok (.putfield 34, 3) := by decide +kernel
theorem dX7_image_80 : decode cX7_image 80 = .ok (.aload_n 0, 1) := by decide +kernel
theorem dX7_image_81 : decode cX7_image 81 = .ok (.iconst 2, 1) := by decide +kernel
theorem dX7_image_82 : decode cX7_image 82 = .ok (.invokevirtual 233, 3) := by decide +kernel
theorem dX7_image_85 : decode cX7_image 85 = .ok (.ireturn, 1) := by decide +kernel
set_option maxRecDepth 20000 in
theorem ggX7_restore_X7_copy : GoodIn wsX7_restore wsX7_copy := goodIn_r _ [20] (by decide +kernel) (by decide +kernel)
set_option maxRecDepth 20000 in
theorem gX7_restore_X7_copy : GoodIn wsX7_restore (va_wsS RX7 172 yX7_copy wsX7_copy) := goodIn_app (goodIn_of _ (by decide +kernel)) ggX7_restore_X7_copy
set_option maxRecDepth 20000 in
theorem ggX7_restore_X7_sumAt : GoodIn wsX7_restore wsX7_sumAt := goodIn_r _ [24, 25, 4, 26, 27, 28, 29, 30, 31, 32, 33, 34, 35, 36, 37, 38, 39, 40, 41, 42, 43, 44, 45, 46, 47, 48, 49, 50, 51, 52, 53, 54, 55] (by decide +kernel) (by decide +kernel)
set_option maxRecDepth 20000 in
theorem gX7_restore_X7_sumAt : GoodIn wsX7_restore (wsV RX7 233 RX7 yX7_sumAt wsX7_sumAt) := goodIn_app (goodIn_of _ (by decide +kernel)) ggX7_restore_X7_sumAt
theorem dX7_restore_0 : decode cX7_restore 0 = .ok (.aload_n 0, 1) := by decide +kernel
theorem dX7_restore_1 : decode cX7_restore 1 = .ok (.getfield 34, 3) := by decide +kernel
theorem dX7_restore_4 : decode cX7_restore 4 = .ok (.aload_n 0, 1) := by decide +kernel
theorem dX7_restore_5 : decode cX7_restore 5 = .ok (.getfield 92, 3) := by decide +kernel
theorem dX7_restore_8 : decode cX7_restore 8 = .ok (.if_icmp .eq 6, 3) := by decide +kernel
theorem dX7_restore_11 : decode cX7_restore 11 = .ok (.bipush (-103), 2) := by decide +kernel
theorem dX7_restore_13 : decode cX7_restore 13 = .ok (.ireturn, 1) := by decide +kernel
theorem dX7_restore_14 : decode cX7_restore 14 = .ok (.aload_n 0, 1) := by decide +kernel
theorem dX7_restore_15 : decode cX7_restore 15 = .ok (.getfield 28, 3) := by decide +kernel
theorem dX7_restore_18 : decode cX7_restore 18 = .ok (.aload_n 0, 1) := by decide +kernel
theorem dX7_restore_19 : decode cX7_restore 19 = .ok (.getfield 16, 3) := by decide +kernel
theorem dX7_restore_22 : decode cX7_restore 22 = .ok (.invokestatic 172, 3) := by decide +kernel
theorem dX7_restore_25 : decode cX7_restore 25 = .ok (.aload_n 0, 1) := by decide +kernel
theorem dX7_restore_26 : decode cX7_restore 26 = .ok (.getfield 31, 3) := by decide +kernel
theorem dX7_restore_29 : decode cX7_restore 29 = .ok (.aload_n 0, 1) := by decide +kernel
theorem dX7_restore_30 : decode cX7_restore 30 = .ok (.getfield 25, 3) := by decide +kernel
theorem dX7_restore_33 : decode cX7_restore 33 = .ok (.invokestatic 172, 3) := by decide +kernel
theorem dX7_restore_36 : decode cX7_restore 36 = .ok (.aload_n 0, 1) := by decide +kernel
theorem dX7_restore_37 : decode cX7_restore 37 = .ok (.aload_n 0, 1) := by decide +kernel
theorem dX7_restore_38 : decode cX7_restore 38 = .ok (.getfield 218, 3) := by decide +kernel
theorem dX7_restore_41 : decode cX7_restore 41 = .ok (.putfield 76, 3) := by decide +kernel
theorem dX7_restore_44 : decode cX7_restore 44 = .ok (.aload_n 0, 1) := by decide +kernel
theorem dX7_restore_45 : decode cX7_restore 45 = .ok (.aload_n 0, 1) := by decide +kernel
theorem dX7_restore_46 : decode cX7_restore 46 = .ok (.getfield 221, 3) := by decide +kernel
theorem dX7_restore_49 : decode cX7_restore 49 = .ok (.putfield 82, 3) := by decide +kernel
theorem dX7_restore_52 : decode cX7_restore 52 = .ok (.aload_n 0, 1) := by decide +kernel
theorem dX7_restore_53 : decode cX7_restore 53 = .ok (.aload_n 0, 1) := by decide +kernel
theorem dX7_restore_54 : decode cX7_restore 54 = .ok (.getfield 224, 3) := by decide +kernel
theorem dX7_restore_57 : decode cX7_restore 57 = .ok (.putfield 38, 3) := by decide +kernel
theorem dX7_restore_60 : decode cX7_restore 60 = .ok (.aload_n 0, 1) := by decide +kernel
theorem dX7_restore_61 : decode cX7_restore 61 = .ok (.aload_n 0, 1) := by decide +kernel
theorem dX7_restore_62 : decode cX7_restore 62 = .ok (.getfield 227, 3) := by decide +kernel
theorem dX7_restore_65 : decode cX7_restore 65 = .ok (.putfield 85, 3) := by decide +kernel
theorem dX7_restore_68 : decode cX7_restore 68 = .ok (.aload_n 0, 1) := by decide +kernel
theorem dX7_restore_69 : decode cX7_restore 69 = .ok (.aload_n 0, 1) := by decide +kernel
theorem dX7_restore_70 : decode cX7_restore 70 = .ok (.getfield 230, 3) := by decide +kernel
theorem dX7_restore_73 : decode cX7_restore 73 = .ok (.putfield 89, 3) := by decide +kernel
theorem dX7_restore_76 : decode cX7_restore 76 = .ok (.aload_n 0, 1) := by decide +kernel
theorem dX7_restore_77 : decode cX7_restore 77 = .ok (.iconst 2, 1) := by decide +kernel
theorem dX7_restore_78 : decode cX7_restore 78 = .ok (.invokevirtual 233, 3) := by decide +kernel
theorem dX7_restore_81 : decode cX7_restore 81 = .ok (.ireturn, 1) := by decide +kernel
set_option maxRecDepth 20000 in
theorem ggX7_minutesAll_X7_minutesOf : GoodIn wsX7_minutesAll wsX7_minutesOf := goodIn_r _ [7, 2, 8, 9, 10, 11, 12, 13, 14, 15, 16, 17, 18, 19, 20, 21, 22, 23, 24, 25, 26, 27, 28, 29, 30, 31, 32, 33, 34, 35, 36, 37] (by decide +kernel) (by decide +kernel)
set_option maxRecDepth 20000 in
theorem gX7_minutesAll_X7_minutesOf : GoodIn wsX7_minutesAll (wsV RX7 126 RX7 yX7_minutesOf wsX7_minutesOf) := goodIn_app (goodIn_of _ (by decide +kernel)) ggX7_minutesAll_X7_minutesOf
theorem dX7_minutesAll_0 : decode cX7_minutesAll 0 = .ok (.iconst 0, 1) := by decide +kernel
theorem dX7_minutesAll_1 : decode cX7_minutesAll 1 = .ok (.istore_n 1, 1) := by decide +kernel
theorem dX7_minutesAll_2 : decode cX7_minutesAll 2 = .ok (.iconst 0, 1) := by decide +kernel
theorem dX7_minutesAll_3 : decode cX7_minutesAll 3 = .ok (.istore_n 2, 1) := by decide +kernel
theorem dX7_minutesAll_4 : decode cX7_minutesAll 4 = .ok (.iload_n 2, 1) := by decide +kernel
theorem dX7_minutesAll_5 : decode cX7_minutesAll 5 = .ok (.aload_n 0, 1) := by decide +kernel
theorem dX7_minutesAll_6 : decode cX7_minutesAll 6 = .ok (.getfield 73, 3) := by decide +kernel
theorem dX7_minutesAll_9 : decode cX7_minutesAll 9 = .ok (.if_icmp .ge 28, 3) := by decide +kernel
theorem dX7_minutesAll_12 : decode cX7_minutesAll 12 = .ok (.iload_n 1, 1) := by decide +kernel
theorem dX7_minutesAll_13 : decode cX7_minutesAll 13 = .ok (.aload_n 0, 1) := by decide +kernel
theorem dX7_minutesAll_14 : decode cX7_minutesAll 14 = .ok (.getfield 16, 3) := by decide +kernel
theorem dX7_minutesAll_17 : decode cX7_minutesAll 17 = .ok (.iconst 4, 1) := by decide +kernel
theorem dX7_minutesAll_18 : decode cX7_minutesAll 18 = .ok (.iload_n 2, 1) := by decide +kernel
theorem dX7_minutesAll_19 : decode cX7_minutesAll 19 = .ok (.imul, 1) := by decide +kernel
theorem dX7_minutesAll_20 : decode cX7_minutesAll 20 = .ok (.iconst 2, 1) := by decide +kernel
theorem dX7_minutesAll_21 : decode cX7_minutesAll 21 = .ok (.iadd, 1) := by decide +kernel
theorem dX7_minutesAll_22 : decode cX7_minutesAll 22 = .ok (.iaload, 1) := by decide +kernel
theorem dX7_minutesAll_23 : decode cX7_minutesAll 23 = .ok (.aload_n 0, 1) := by decide +kernel
theorem dX7_minutesAll_24 : decode cX7_minutesAll 24 = .ok (.iload_n 2, 1) := by decide +kernel
theorem dX7_minutesAll_25 : decode cX7_minutesAll 25 = .ok (.invokevirtual 126, 3) := by decide +kernel
theorem dX7_minutesAll_28 : decode cX7_minutesAll 28 = .ok (.imul, 1) := by decide +kernel
theorem dX7_minutesAll_29 : decode cX7_minutesAll 29 = .ok (.iadd, 1) := by decide +kernel
theorem dX7_minutesAll_30 : decode cX7_minutesAll 30 = .ok (.istore_n 1, 1) := by decide +kernel
theorem dX7_minutesAll_31 : decode cX7_minutesAll 31 = .ok (.iinc 2 1, 3) := by decide +kernel
theorem dX7_minutesAll_34 : decode cX7_minutesAll 34 = .ok (.goto (-30), 3) := by decide +kernel
theorem dX7_minutesAll_37 : decode cX7_minutesAll 37 = .ok (.iload_n 1, 1) := by decide +kernel
theorem dX7_minutesAll_38 : decode cX7_minutesAll 38 = .ok (.ireturn, 1) := by decide +kernel
theorem dX7_unlike_0 : decode cX7_unlike 0 = .ok (.iconst 0, 1) := by decide +kernel
theorem dX7_unlike_1 : decode cX7_unlike 1 = .ok (.istore_n 1, 1) := by decide +kernel
theorem dX7_unlike_2 : decode cX7_unlike 2 = .ok (.iconst 0, 1) := by decide +kernel
theorem dX7_unlike_3 : decode cX7_unlike 3 = .ok (.istore_n 2, 1) := by decide +kernel
theorem dX7_unlike_4 : decode cX7_unlike 4 = .ok (.iload_n 2, 1) := by decide +kernel
theorem dX7_unlike_5 : decode cX7_unlike 5 = .ok (.aload_n 0, 1) := by decide +kernel
theorem dX7_unlike_6 : decode cX7_unlike 6 = .ok (.getfield 73, 3) := by decide +kernel
theorem dX7_unlike_9 : decode cX7_unlike 9 = .ok (.if_icmp .ge 30, 3) := by decide +kernel
theorem dX7_unlike_12 : decode cX7_unlike 12 = .ok (.iload_n 1, 1) := by decide +kernel
theorem dX7_unlike_13 : decode cX7_unlike 13 = .ok (.aload_n 0, 1) := by decide +kernel
theorem dX7_unlike_14 : decode cX7_unlike 14 = .ok (.getfield 16, 3) := by decide +kernel
theorem dX7_unlike_17 : decode cX7_unlike 17 = .ok (.iconst 4, 1) := by decide +kernel
theorem dX7_unlike_18 : decode cX7_unlike 18 = .ok (.iload_n 2, 1) := by decide +kernel
theorem dX7_unlike_19 : decode cX7_unlike 19 = .ok (.imul, 1) := by decide +kernel
theorem dX7_unlike_20 : decode cX7_unlike 20 = .ok (.iconst 2, 1) := by decide +kernel
theorem dX7_unlike_21 : decode cX7_unlike 21 = .ok (.iadd, 1) := by decide +kernel
theorem dX7_unlike_22 : decode cX7_unlike 22 = .ok (.iaload, 1) := by decide +kernel
theorem dX7_unlike_23 : decode cX7_unlike 23 = .ok (.ifCond .le 7, 3) := by decide +kernel
theorem dX7_unlike_26 : decode cX7_unlike 26 = .ok (.iconst 1, 1) := by decide +kernel
theorem dX7_unlike_27 : decode cX7_unlike 27 = .ok (.goto 4, 3) := by decide +kernel
theorem dX7_unlike_30 : decode cX7_unlike 30 = .ok (.iconst 0, 1) := by decide +kernel
theorem dX7_unlike_31 : decode cX7_unlike 31 = .ok (.iadd, 1) := by decide +kernel
theorem dX7_unlike_32 : decode cX7_unlike 32 = .ok (.istore_n 1, 1) := by decide +kernel
theorem dX7_unlike_33 : decode cX7_unlike 33 = .ok (.iinc 2 1, 3) := by decide +kernel
theorem dX7_unlike_36 : decode cX7_unlike 36 = .ok (.goto (-32), 3) := by decide +kernel
theorem dX7_unlike_39 : decode cX7_unlike 39 = .ok (.iload_n 1, 1) := by decide +kernel
theorem dX7_unlike_40 : decode cX7_unlike 40 = .ok (.ireturn, 1) := by decide +kernel
set_option maxRecDepth 20000 in
theorem ggX7_countOf_X7_sumAt : GoodIn wsX7_countOf wsX7_sumAt := goodIn_r _ [12, 1, 13, 41, 42, 43, 44, 45, 46, 47, 48, 49, 50, 51, 52, 53, 54, 55, 56, 57, 58, 59, 60, 61, 62, 63, 64, 65, 66, 67, 68, 69, 70] (by decide +kernel) (by decide +kernel)
set_option maxRecDepth 20000 in
theorem gX7_countOf_X7_sumAt : GoodIn wsX7_countOf (wsV RX7 233 RX7 yX7_sumAt wsX7_sumAt) := goodIn_app (goodIn_of _ (by decide +kernel)) ggX7_countOf_X7_sumAt
set_option maxRecDepth 20000 in
theorem ggX7_countOf_X7_minutesAll : GoodIn wsX7_countOf wsX7_minutesAll := goodIn_r _ [17, 1, 13, 18, 19, 20, 11, 21, 41, 42, 43, 44, 45, 46, 47, 48, 49, 50, 51, 52, 53, 54, 55, 56, 57, 58, 59, 60, 61, 62, 63, 64, 65, 66, 67, 68, 69, 70] (by decide +kernel) (by decide +kernel)
set_option maxRecDepth 20000 in
theorem gX7_countOf_X7_minutesAll : GoodIn wsX7_countOf (wsV RX7 236 RX7 yX7_minutesAll wsX7_minutesAll) := goodIn_app (goodIn_of _ (by decide +kernel)) ggX7_countOf_X7_minutesAll
set_option maxRecDepth 20000 in
theorem ggX7_countOf_X7_unlike : GoodIn wsX7_countOf wsX7_unlike := goodIn_r _ [25, 1, 13, 41, 42, 43, 44, 45, 46, 47, 48, 49, 50, 51, 52, 53, 54, 55, 56, 57, 58, 59, 60, 61, 62, 63, 64, 65, 66, 67, 68, 69, 70] (by decide +kernel) (by decide +kernel)
set_option maxRecDepth 20000 in
theorem gX7_countOf_X7_unlike : GoodIn wsX7_countOf (wsV RX7 239 RX7 yX7_unlike wsX7_unlike) := goodIn_app (goodIn_of _ (by decide +kernel)) ggX7_countOf_X7_unlike
set_option maxRecDepth 20000 in
theorem ggX7_countOf_X7_ones : GoodIn wsX7_countOf wsX7_ones := goodIn_r _ [28] (by decide +kernel) (by decide +kernel)
set_option maxRecDepth 20000 in
theorem gX7_countOf_X7_ones : GoodIn wsX7_countOf (va_wsS RX7 109 yX7_ones wsX7_ones) := goodIn_app (goodIn_of _ (by decide +kernel)) ggX7_countOf_X7_ones
set_option maxRecDepth 20000 in
theorem ggX7_countOf_X7_mayNow : GoodIn wsX7_countOf wsX7_mayNow := goodIn_r _ [32, 2, 3, 4, 33, 34, 35, 11, 36, 1, 13, 37, 38, 39, 40, 41, 42, 43, 44, 45, 46, 47, 48, 49, 50, 51, 52, 53, 54, 55, 56, 57, 58, 59, 60, 61, 62, 63, 64, 65, 66, 67, 68, 69, 70] (by decide +kernel) (by decide +kernel)
set_option maxRecDepth 20000 in
theorem gX7_countOf_X7_mayNow : GoodIn wsX7_countOf (wsV RX7 112 RX7 yX7_mayNow wsX7_mayNow) := goodIn_app (goodIn_of _ (by decide +kernel)) ggX7_countOf_X7_mayNow
theorem dX7_countOf_0 : decode cX7_countOf 0 = .ok (.iload_n 1, 1) := by decide +kernel
theorem dX7_countOf_1 : decode cX7_countOf 1 = .ok (.tableswitch 131 0 11 #[63, 68, 73, 79, 85, 90, 95, 103, 111, 116, 121, 126], 63) := by decide +kernel
theorem dX7_countOf_64 : decode cX7_countOf 64 = .ok (.aload_n 0, 1) := by decide +kernel
theorem dX7_countOf_65 : decode cX7_countOf 65 = .ok (.getfield 73, 3) := by decide +kernel
theorem dX7_countOf_68 : decode cX7_countOf 68 = .ok (.ireturn, 1) := by decide +kernel
theorem dX7_countOf_69 : decode cX7_countOf 69 = .ok (.aload_n 0, 1) := by decide +kernel
theorem dX7_countOf_70 : decode cX7_countOf 70 = .ok (.getfield 76, 3) := by decide +kernel
theorem dX7_countOf_73 : decode cX7_countOf 73 = .ok (.ireturn, 1) := by decide +kernel
theorem dX7_countOf_74 : decode cX7_countOf 74 = .ok (.aload_n 0, 1) := by decide +kernel
theorem dX7_countOf_75 : decode cX7_countOf 75 = .ok (.iconst 2, 1) := by decide +kernel
theorem dX7_countOf_76 : decode cX7_countOf 76 = .ok (.invokevirtual 233, 3) := by decide +kernel
theorem dX7_countOf_79 : decode cX7_countOf 79 = .ok (.ireturn, 1) := by decide +kernel
theorem dX7_countOf_80 : decode cX7_countOf 80 = .ok (.aload_n 0, 1) := by decide +kernel
theorem dX7_countOf_81 : decode cX7_countOf 81 = .ok (.iconst 3, 1) := by decide +kernel
theorem dX7_countOf_82 : decode cX7_countOf 82 = .ok (.invokevirtual 233, 3) := by decide +kernel
theorem dX7_countOf_85 : decode cX7_countOf 85 = .ok (.ireturn, 1) := by decide +kernel
theorem dX7_countOf_86 : decode cX7_countOf 86 = .ok (.aload_n 0, 1) := by decide +kernel
theorem dX7_countOf_87 : decode cX7_countOf 87 = .ok (.invokevirtual 236, 3) := by decide +kernel
theorem dX7_countOf_90 : decode cX7_countOf 90 = .ok (.ireturn, 1) := by decide +kernel
theorem dX7_countOf_91 : decode cX7_countOf 91 = .ok (.aload_n 0, 1) := by decide +kernel
theorem dX7_countOf_92 : decode cX7_countOf 92 = .ok (.invokevirtual 239, 3) := by decide +kernel
theorem dX7_countOf_95 : decode cX7_countOf 95 = .ok (.ireturn, 1) := by decide +kernel
theorem dX7_countOf_96 : decode cX7_countOf 96 = .ok (.aload_n 0, 1) := by decide +kernel
theorem dX7_countOf_97 : decode cX7_countOf 97 = .ok (.getfield 82, 3) := by decide +kernel
theorem dX7_countOf_100 : decode cX7_countOf 100 = .ok (.invokestatic 109, 3) := by decide +kernel
theorem dX7_countOf_103 : decode cX7_countOf 103 = .ok (.ireturn, 1) := by decide +kernel
theorem dX7_countOf_104 : decode cX7_countOf 104 = .ok (.aload_n 0, 1) := by decide +kernel
theorem dX7_countOf_105 : decode cX7_countOf 105 = .ok (.invokevirtual 112, 3) := by decide +kernel
theorem dX7_countOf_108 : decode cX7_countOf 108 = .ok (.invokestatic 109, 3) := by decide +kernel
theorem dX7_countOf_111 : decode cX7_countOf 111 = .ok (.ireturn, 1) := by decide +kernel
theorem dX7_countOf_112 : decode cX7_countOf 112 = .ok (.aload_n 0, 1) := by decide +kernel
theorem dX7_countOf_113 : decode cX7_countOf 113 = .ok (.getfield 38, 3) := by decide +kernel
theorem dX7_countOf_116 : decode cX7_countOf 116 = .ok (.ireturn, 1) := by decide +kernel
theorem dX7_countOf_117 : decode cX7_countOf 117 = .ok (.aload_n 0, 1) := by decide +kernel
theorem dX7_countOf_118 : decode cX7_countOf 118 = .ok (.getfield 89, 3) := by decide +kernel
theorem dX7_countOf_121 : decode cX7_countOf 121 = .ok (.ireturn, 1) := by decide +kernel
theorem dX7_countOf_122 : decode cX7_countOf 122 = .ok (.aload_n 0, 1) := by decide +kernel
theorem dX7_countOf_123 : decode cX7_countOf 123 = .ok (.getfield 47, 3) := by decide +kernel
theorem dX7_countOf_126 : decode cX7_countOf 126 = .ok (.ireturn, 1) := by decide +kernel
theorem dX7_countOf_127 : decode cX7_countOf 127 = .ok (.aload_n 0, 1) := by decide +kernel
theorem dX7_countOf_128 : decode cX7_countOf 128 = .ok (.getfield 92, 3) := by decide +kernel
theorem dX7_countOf_131 : decode cX7_countOf 131 = .ok (.ireturn, 1) := by decide +kernel
theorem dX7_countOf_132 : decode cX7_countOf 132 = .ok (.bipush (-102), 2) := by decide +kernel
theorem dX7_countOf_134 : decode cX7_countOf 134 = .ok (.ireturn, 1) := by decide +kernel
set_option maxRecDepth 20000 in
theorem ggX7_count_X7_countOf : GoodIn wsX7_count wsX7_countOf := goodIn_r _ [5, 6, 7, 8, 9, 10, 11, 12, 13, 14, 15, 4, 16, 17, 18, 19, 20, 21, 22, 23, 24, 25, 26, 27, 28, 29, 30, 31, 32, 33, 34, 35, 36, 37, 38, 39, 40, 41, 42, 43, 44, 45, 46, 47, 48, 49, 50, 51, 52, 53, 54, 55, 56, 57, 58, 59, 60, 61, 62, 63, 64, 65, 66, 67, 68, 69, 70, 71, 72, 73, 74] (by decide +kernel) (by decide +kernel)
set_option maxRecDepth 20000 in
theorem gX7_count_X7_countOf : GoodIn wsX7_count (wsV RX7 242 RX7 yX7_countOf wsX7_countOf) := goodIn_app (goodIn_of _ (by decide +kernel)) ggX7_count_X7_countOf
theorem dX7_count_0 : decode cX7_count 0 = .ok (.aload_n 0, 1) := by decide +kernel
theorem dX7_count_1 : decode cX7_count 1 = .ok (.iload_n 1, 1) := by decide +kernel
theorem dX7_count_2 : decode cX7_count 2 = .ok (.invokevirtual 242, 3) := by decide +kernel
theorem dX7_count_5 : decode cX7_count 5 = .ok (.ireturn, 1) := by decide +kernel
theorem dX7_say_0 : decode cX7_say 0 = .ok (.aload_n 0, 1) := by decide +kernel
theorem dX7_say_1 : decode cX7_say 1 = .ok (.ldc2_w 245, 3) := by decide +kernel
theorem dX7_say_4 : decode cX7_say 4 = .ok (.aload_n 0, 1) := by decide +kernel
theorem dX7_say_5 : decode cX7_say 5 = .ok (.getfield 247, 3) := by decide +kernel
theorem dX7_say_8 : decode cX7_say 8 = .ok (.lmul, 1) := by decide +kernel
theorem dX7_say_9 : decode cX7_say 9 = .ok (.lload_n 1, 1) := by decide +kernel
theorem dX7_say_10 : decode cX7_say 10 = .ok (.ladd, 1) := by decide +kernel
theorem dX7_say_11 : decode cX7_say 11 = .ok (.putfield 247, 3) := by decide +kernel
theorem dX7_say_14 : decode cX7_say 14 = .ok (.return_, 1) := by decide +kernel
set_option maxRecDepth 20000 in
theorem ggX7_sayPlayer_X7_twiceOf : GoodIn wsX7_sayPlayer wsX7_twiceOf := goodIn_r _ [5, 6, 7, 8, 9, 10, 4, 11, 12, 13, 14, 15, 16, 17, 18, 19, 20, 21, 22, 23, 24, 25, 26, 27, 28, 29, 30, 31, 32, 33, 34, 35, 36, 37, 38, 39, 40, 41, 42, 43, 44, 45, 46, 47, 48, 49, 50, 51, 52, 53, 54, 55, 56, 57, 58, 59, 60, 61, 98, 99, 100, 101, 102, 103, 104, 105, 106, 107, 108, 109, 110, 111, 112, 113, 114, 115, 116, 117, 118, 119, 120, 121, 122, 123, 124, 125, 126, 127] (by decide +kernel) (by decide +kernel)
set_option maxRecDepth 20000 in
theorem gX7_sayPlayer_X7_twiceOf : GoodIn wsX7_sayPlayer (wsV RX7 162 RX7 yX7_twiceOf wsX7_twiceOf) := goodIn_app (goodIn_of _ (by decide +kernel)) ggX7_sayPlayer_X7_twiceOf
set_option maxRecDepth 20000 in
theorem ggX7_sayPlayer_X7_say : GoodIn wsX7_sayPlayer wsX7_say := goodIn_r _ [65, 66, 67, 98, 99, 100, 101, 102, 103, 104, 105, 106, 107, 108, 109, 110, 111, 112, 113, 114, 115, 116, 117, 118, 119, 120, 121, 122, 123, 124, 125, 126, 127] (by decide +kernel) (by decide +kernel)
set_option maxRecDepth 20000 in
theorem gX7_sayPlayer_X7_say : GoodIn wsX7_sayPlayer (wsV RX7 250 RX7 yX7_say wsX7_say) := goodIn_app (goodIn_of _ (by decide +kernel)) ggX7_sayPlayer_X7_say
set_option maxRecDepth 20000 in
theorem ggX7_sayPlayer_X7_all : GoodIn wsX7_sayPlayer wsX7_all := goodIn_r _ [23, 6, 98, 99, 100, 101, 102, 103, 104, 105, 106, 107, 108, 109, 110, 111, 112, 113, 114, 115, 116, 117, 118, 119, 120, 121, 122, 123, 124, 125, 126, 127] (by decide +kernel) (by decide +kernel)
set_option maxRecDepth 20000 in
theorem gX7_sayPlayer_X7_all : GoodIn wsX7_sayPlayer (wsV RX7 79 RX7 yX7_all wsX7_all) := goodIn_app (goodIn_of _ (by decide +kernel)) ggX7_sayPlayer_X7_all
set_option maxRecDepth 20000 in
theorem ggX7_sayPlayer_X7_partyOf : GoodIn wsX7_sayPlayer wsX7_partyOf := goodIn_r _ [71, 72, 6, 73, 74, 56, 57, 4, 58, 75, 76, 77, 78, 19, 79, 80, 81, 98, 99, 100, 101, 102, 103, 104, 105, 106, 107, 108, 109, 110, 111, 112, 113, 114, 115, 116, 117, 118, 119, 120, 121, 122, 123, 124, 125, 126, 127] (by decide +kernel) (by decide +kernel)
set_option maxRecDepth 20000 in
theorem gX7_sayPlayer_X7_partyOf : GoodIn wsX7_sayPlayer (wsV RX7 180 RX7 yX7_partyOf wsX7_partyOf) := goodIn_app (goodIn_of _ (by decide +kernel)) ggX7_sayPlayer_X7_partyOf
set_option maxRecDepth 20000 in
theorem ggX7_sayPlayer_X7_rulesOf : GoodIn wsX7_sayPlayer wsX7_rulesOf := goodIn_r _ [85, 86, 87, 88, 89, 4, 90, 91, 92, 93, 20, 21, 22, 23, 6, 15, 16, 17, 18, 19, 32, 33, 34, 35, 28, 29, 30, 31, 36, 37, 38, 39, 44, 45, 46, 47, 98, 99, 100, 101, 102, 103, 104, 105, 106, 107, 108, 109, 110, 111, 112, 113, 114, 115, 116, 117, 118, 119, 120, 121, 122, 123, 124, 125, 126, 127] (by decide +kernel) (by decide +kernel)
set_option maxRecDepth 20000 in
theorem gX7_sayPlayer_X7_rulesOf : GoodIn wsX7_sayPlayer (wsV RX7 194 RX7 yX7_rulesOf wsX7_rulesOf) := goodIn_app (goodIn_of _ (by decide +kernel)) ggX7_sayPlayer_X7_rulesOf
set_option maxRecDepth 20000 in
theorem ggX7_sayPlayer_X7_likelyOf : GoodIn wsX7_sayPlayer wsX7_likelyOf := goodIn_r _ [97, 86, 91, 87, 88, 89, 4, 90, 92, 93, 20, 21, 22, 23, 6, 15, 16, 17, 18, 19, 32, 33, 34, 35, 28, 29, 30, 31, 36, 37, 38, 39, 44, 45, 46, 47, 98, 99, 100, 101, 102, 103, 104, 105, 106, 107, 108, 109, 110, 111, 112, 113, 114, 115, 116, 117, 118, 119, 120, 121, 122, 123, 124, 125, 126, 127] (by decide +kernel) (by decide +kernel)
set_option maxRecDepth 20000 in
theorem gX7_sayPlayer_X7_likelyOf : GoodIn wsX7_sayPlayer (wsV RX7 197 RX7 yX7_likelyOf wsX7_likelyOf) := goodIn_app (goodIn_of _ (by decide +kernel)) ggX7_sayPlayer_X7_likelyOf
theorem dX7_sayPlayer_0 : decode cX7_sayPlayer 0 = .ok (.aload_n 0, 1) := by decide +kernel
theorem dX7_sayPlayer_1 : decode cX7_sayPlayer 1 = .ok (.aload_n 0, 1) := by decide +kernel
theorem dX7_sayPlayer_2 : decode cX7_sayPlayer 2 = .ok (.iconst 2, 1) := by decide +kernel
theorem dX7_sayPlayer_3 : decode cX7_sayPlayer 3 = .ok (.iconst 0, 1) := by decide +kernel
theorem dX7_sayPlayer_4 : decode cX7_sayPlayer 4 = .ok (.invokevirtual 162, 3) := by decide +kernel
theorem dX7_sayPlayer_7 : decode cX7_sayPlayer 7 = .ok (.invokevirtual 250, 3) := by decide +kernel
theorem dX7_sayPlayer_10 : decode cX7_sayPlayer 10 = .ok (.aload_n 0, 1) := by decide +kernel
theorem dX7_sayPlayer_11 : decode cX7_sayPlayer 11 = .ok (.aload_n 0, 1) := by decide +kernel
theorem dX7_sayPlayer_12 : decode cX7_sayPlayer 12 = .ok (.iconst 2, 1) := by decide +kernel
theorem dX7_sayPlayer_13 : decode cX7_sayPlayer 13 = .ok (.iconst 1, 1) := by decide +kernel
theorem dX7_sayPlayer_14 : decode cX7_sayPlayer 14 = .ok (.invokevirtual 162, 3) := by decide +kernel
theorem dX7_sayPlayer_17 : decode cX7_sayPlayer 17 = .ok (.invokevirtual 250, 3) := by decide +kernel
theorem dX7_sayPlayer_20 : decode cX7_sayPlayer 20 = .ok (.aload_n 0, 1) := by decide +kernel
theorem dX7_sayPlayer_21 : decode cX7_sayPlayer 21 = .ok (.aload_n 0, 1) := by decide +kernel
theorem dX7_sayPlayer_22 : decode cX7_sayPlayer 22 = .ok (.aload_n 0, 1) := by decide +kernel
theorem dX7_sayPlayer_23 : decode cX7_sayPlayer 23 = .ok (.invokevirtual 79, 3) := by decide +kernel
theorem dX7_sayPlayer_26 : decode cX7_sayPlayer 26 = .ok (.iconst 0, 1) := by decide +kernel
theorem dX7_sayPlayer_27 : decode cX7_sayPlayer 27 = .ok (.invokevirtual 180, 3) := by decide +kernel
theorem dX7_sayPlayer_30 : decode cX7_sayPlayer 30 = .ok (.i2l, 1) := by decide +kernel
theorem dX7_sayPlayer_31 : decode cX7_sayPlayer 31 = .ok (.invokevirtual 250, 3) := by decide +kernel
theorem dX7_sayPlayer_34 : decode cX7_sayPlayer 34 = .ok (.bipush 10, 2) := by decide +kernel
theorem dX7_sayPlayer_36 : decode cX7_sayPlayer 36 = .ok (.istore_n 1, 1) := by decide +kernel
theorem dX7_sayPlayer_37 : decode cX7_sayPlayer 37 = .ok (.iload_n 1, 1) := by decide +kernel
theorem dX7_sayPlayer_38 : decode cX7_sayPlayer 38 = .ok (.bipush 16, 2) := by decide +kernel
theorem dX7_sayPlayer_40 : decode cX7_sayPlayer 40 = .ok (.if_icmp .ge 23, 3) := by decide +kernel
theorem dX7_sayPlayer_43 : decode cX7_sayPlayer 43 = .ok (.aload_n 0, 1) := by decide +kernel
theorem dX7_sayPlayer_44 : decode cX7_sayPlayer 44 = .ok (.aload_n 0, 1) := by decide +kernel
theorem dX7_sayPlayer_45 : decode cX7_sayPlayer 45 = .ok (.aload_n 0, 1) := by decide +kernel
theorem dX7_sayPlayer_46 : decode cX7_sayPlayer 46 = .ok (.invokevirtual 79, 3) := by decide +kernel
theorem dX7_sayPlayer_49 : decode cX7_sayPlayer 49 = .ok (.iload_n 1, 1) := by decide +kernel
theorem dX7_sayPlayer_50 : decode cX7_sayPlayer 50 = .ok (.invokevirtual 180, 3) := by decide +kernel
theorem dX7_sayPlayer_53 : decode cX7_sayPlayer 53 = .ok (.i2l, 1) := by decide +kernel
theorem dX7_sayPlayer_54 : decode cX7_sayPlayer 54 = .ok (.invokevirtual 250, 3) := by decide +kernel
theorem dX7_sayPlayer_57 : decode cX7_sayPlayer 57 = .ok (.iinc 1 1, 3) := by decide +kernel
theorem dX7_sayPlayer_60 : decode cX7_sayPlayer 60 = .ok (.goto (-23), 3) := by decide +kernel
theorem dX7_sayPlayer_63 : decode cX7_sayPlayer 63 = .ok (.aload_n 0, 1) := by decide +kernel
theorem dX7_sayPlayer_64 : decode cX7_sayPlayer 64 = .ok (.aload_n 0, 1) := by decide +kernel
theorem dX7_sayPlayer_65 : decode cX7_sayPlayer 65 = .ok (.invokevirtual 194, 3) := by decide +kernel
theorem dX7_sayPlayer_68 : decode cX7_sayPlayer 68 = .ok (.i2l, 1) := by decide +kernel
theorem dX7_sayPlayer_69 : decode cX7_sayPlayer 69 = .ok (.invokevirtual 250, 3) := by decide +kernel
theorem dX7_sayPlayer_72 : decode cX7_sayPlayer 72 = .ok (.aload_n 0, 1) := by decide +kernel
theorem dX7_sayPlayer_73 : decode cX7_sayPlayer 73 = .ok (.aload_n 0, 1) := by decide +kernel
theorem dX7_sayPlayer_74 : decode cX7_sayPlayer 74 = .ok (.invokevirtual 197, 3) := by decide +kernel
theorem dX7_sayPlayer_77 : decode cX7_sayPlayer 77 = .ok (.i2l, 1) := by decide +kernel
theorem dX7_sayPlayer_78 : decode cX7_sayPlayer 78 = .ok (.invokevirtual 250, 3) := by decide +kernel
theorem dX7_sayPlayer_81 : decode cX7_sayPlayer 81 = .ok (.return_, 1) := by decide +kernel
set_option maxRecDepth 20000 in
theorem ggX7_digest_X7_tell : GoodIn wsX7_digest wsX7_tell := goodIn_r _ [10, 11, 12, 13, 14, 15, 9, 16, 17, 18, 19, 20, 21, 22, 23, 24, 25, 26, 27, 28, 29, 30, 31, 32, 33, 34, 3, 35, 36, 37, 38, 39, 40, 41, 42, 43, 44, 45, 46, 47, 48, 49, 50, 51, 52, 53, 54, 55, 56, 57, 58, 59, 60, 138, 139, 140, 141, 142, 143, 144, 145, 146, 147, 148, 149, 150, 151, 152, 153, 154, 155, 156, 157, 158, 159, 160, 161, 162, 163, 164, 165, 166, 167] (by decide +kernel) (by decide +kernel)
set_option maxRecDepth 20000 in
theorem gX7_digest_X7_tell : GoodIn wsX7_digest (wsV RX7 135 RX7 yX7_tell wsX7_tell) := goodIn_app (goodIn_of _ (by decide +kernel)) ggX7_digest_X7_tell
set_option maxRecDepth 20000 in
theorem ggX7_digest_X7_say : GoodIn wsX7_digest wsX7_say := goodIn_r _ [64, 65, 2, 138, 139, 140, 141, 142, 143, 144, 145, 146, 147, 148, 149, 150, 151, 152, 153, 154, 155, 156, 157, 158, 159, 160, 161, 162, 163, 164, 165, 166, 167] (by decide +kernel) (by decide +kernel)
set_option maxRecDepth 20000 in
theorem gX7_digest_X7_say : GoodIn wsX7_digest (wsV RX7 250 RX7 yX7_say wsX7_say) := goodIn_app (goodIn_of _ (by decide +kernel)) ggX7_digest_X7_say
set_option maxRecDepth 20000 in
theorem ggX7_digest_X7_lacks : GoodIn wsX7_digest wsX7_lacks := goodIn_r _ [69, 3, 138, 139, 140, 141, 142, 143, 144, 145, 146, 147, 148, 149, 150, 151, 152, 153, 154, 155, 156, 157, 158, 159, 160, 161, 162, 163, 164, 165, 166, 167] (by decide +kernel) (by decide +kernel)
set_option maxRecDepth 20000 in
theorem gX7_digest_X7_lacks : GoodIn wsX7_digest (wsV RX7 140 RX7 yX7_lacks wsX7_lacks) := goodIn_app (goodIn_of _ (by decide +kernel)) ggX7_digest_X7_lacks
set_option maxRecDepth 20000 in
theorem ggX7_digest_X7_sayPlayer : GoodIn wsX7_digest wsX7_sayPlayer := goodIn_r _ [73, 74, 75, 76, 9, 77, 3, 78, 25, 26, 27, 28, 29, 12, 30, 31, 32, 33, 34, 11, 35, 36, 37, 38, 54, 55, 56, 57, 47, 48, 49, 50, 17, 18, 19, 20, 13, 14, 15, 16, 79, 80, 81, 82, 83, 84, 85, 86, 87, 88, 89, 90, 43, 44, 45, 46, 51, 52, 53, 58, 59, 60, 61, 62, 63, 64, 65, 2, 91, 92, 93, 94, 95, 96, 97, 98, 99, 100, 101, 102, 103, 104, 105, 106, 107, 108, 109, 110, 111, 112, 113, 114, 115, 116, 117, 118, 119, 120, 138, 139, 140, 141, 142, 143, 144, 145, 146, 147, 148, 149, 150, 151, 152, 153, 154, 155, 156, 157, 158, 159, 160, 161, 162, 163, 164, 165, 166, 167] (by decide +kernel) (by decide +kernel)
set_option maxRecDepth 20000 in
theorem gX7_digest_X7_sayPlayer : GoodIn wsX7_digest (wsV RX7 256 RX7 yX7_sayPlayer wsX7_sayPlayer) := goodIn_app (goodIn_of _ (by decide +kernel)) ggX7_digest_X7_sayPlayer
set_option maxRecDepth 20000 in
theorem ggX7_digest_X7_countOf : GoodIn wsX7_digest wsX7_countOf := goodIn_r _ [124, 3, 29, 12, 30, 115, 4, 125, 126, 127, 128, 9, 129, 11, 130, 131, 132, 133, 21, 22, 23, 24, 134, 135, 136, 137, 51, 52, 53, 25, 26, 27, 28, 31, 32, 33, 34, 35, 36, 37, 38, 138, 139, 140, 141, 142, 143, 144, 145, 146, 147, 148, 149, 150, 151, 152, 153, 154, 155, 156, 157, 158, 159, 160, 161, 162, 163, 164, 165, 166, 167] (by decide +kernel) (by decide +kernel)
set_option maxRecDepth 20000 in
theorem gX7_digest_X7_countOf : GoodIn wsX7_digest (wsV RX7 242 RX7 yX7_countOf wsX7_countOf) := goodIn_app (goodIn_of _ (by decide +kernel)) ggX7_digest_X7_countOf
theorem dX7_digest_0 : decode cX7_digest 0 = .ok (.aload_n 0, 1) := by decide +kernel
theorem dX7_digest_1 : decode cX7_digest 1 = .ok (.ldc2_w 254, 3) := by decide +kernel
theorem dX7_digest_4 : decode cX7_digest 4 = .ok (.putfield 247, 3) := by decide +kernel
theorem dX7_digest_7 : decode cX7_digest 7 = .ok (.iconst 0, 1) := by decide +kernel
theorem dX7_digest_8 : decode cX7_digest 8 = .ok (.istore_n 1, 1) := by decide +kernel
theorem dX7_digest_9 : decode cX7_digest 9 = .ok (.iload_n 1, 1) := by decide +kernel
theorem dX7_digest_10 : decode cX7_digest 10 = .ok (.aload_n 0, 1) := by decide +kernel
theorem dX7_digest_11 : decode cX7_digest 11 = .ok (.getfield 73, 3) := by decide +kernel
theorem dX7_digest_14 : decode cX7_digest 14 = .ok (.if_icmp .ge 34, 3) := by decide +kernel
theorem dX7_digest_17 : decode cX7_digest 17 = .ok (.iconst 0, 1) := by decide +kernel
theorem dX7_digest_18 : decode cX7_digest 18 = .ok (.istore_n 2, 1) := by decide +kernel
theorem dX7_digest_19 : decode cX7_digest 19 = .ok (.iload_n 2, 1) := by decide +kernel
theorem dX7_digest_20 : decode cX7_digest 20 = .ok (.bipush 10, 2) := by decide +kernel
theorem dX7_digest_22 : decode cX7_digest 22 = .ok (.if_icmp .ge 20, 3) := by decide +kernel
theorem dX7_digest_25 : decode cX7_digest 25 = .ok (.aload_n 0, 1) := by decide +kernel
theorem dX7_digest_26 : decode cX7_digest 26 = .ok (.aload_n 0, 1) := by decide +kernel
theorem dX7_digest_27 : decode cX7_digest 27 = .ok (.iload_n 1, 1) := by decide +kernel
theorem dX7_digest_28 : decode cX7_digest 28 = .ok (.iload_n 2, 1) := by decide +kernel
theorem dX7_digest_29 : decode cX7_digest 29 = .ok (.invokevirtual 135, 3) := by decide +kernel
theorem dX7_digest_32 : decode cX7_digest 32 = .ok (.i2l, 1) := by decide +kernel
theorem dX7_digest_33 : decode cX7_digest 33 = .ok (.invokevirtual 250, 3) := by decide +kernel
theorem dX7_digest_36 : decode cX7_digest 36 = .ok (.iinc 2 1, 3) := by decide +kernel
theorem dX7_digest_39 : decode cX7_digest 39 = .ok (.goto (-20), 3) := by decide +kernel
theorem dX7_digest_42 : decode cX7_digest 42 = .ok (.iinc 1 1, 3) := by decide +kernel
theorem dX7_digest_45 : decode cX7_digest 45 = .ok (.goto (-36), 3) := by decide +kernel
theorem dX7_digest_48 : decode cX7_digest 48 = .ok (.aload_n 0, 1) := by decide +kernel
theorem dX7_digest_49 : decode cX7_digest 49 = .ok (.invokevirtual 140, 3) := by decide +kernel
theorem dX7_digest_52 : decode cX7_digest 52 = .ok (.ifCond .ne 7, 3) := by decide +kernel
theorem dX7_digest_55 : decode cX7_digest 55 = .ok (.aload_n 0, 1) := by decide +kernel
theorem dX7_digest_56 : decode cX7_digest 56 = .ok (.invokevirtual 256, 3) := by decide +kernel
theorem dX7_digest_59 : decode cX7_digest 59 = .ok (.iconst 0, 1) := by decide +kernel
theorem dX7_digest_60 : decode cX7_digest 60 = .ok (.istore_n 1, 1) := by decide +kernel
theorem dX7_digest_61 : decode cX7_digest 61 = .ok (.iload_n 1, 1) := by decide +kernel
theorem dX7_digest_62 : decode cX7_digest 62 = .ok (.aload_n 0, 1) := by decide +kernel
theorem dX7_digest_63 : decode cX7_digest 63 = .ok (.getfield 47, 3) := by decide +kernel
theorem dX7_digest_66 : decode cX7_digest 66 = .ok (.if_icmp .ge 20, 3) := by decide +kernel
theorem dX7_digest_69 : decode cX7_digest 69 = .ok (.aload_n 0, 1) := by decide +kernel
theorem dX7_digest_70 : decode cX7_digest 70 = .ok (.aload_n 0, 1) := by decide +kernel
theorem dX7_digest_71 : decode cX7_digest 71 = .ok (.getfield 7, 3) := by decide +kernel
theorem dX7_digest_74 : decode cX7_digest 74 = .ok (.iload_n 1, 1) := by decide +kernel
theorem dX7_digest_75 : decode cX7_digest 75 = .ok (.iaload, 1) := by decide +kernel
theorem dX7_digest_76 : decode cX7_digest 76 = .ok (.i2l, 1) := by decide +kernel
theorem dX7_digest_77 : decode cX7_digest 77 = .ok (.invokevirtual 250, 3) := by decide +kernel
theorem dX7_digest_80 : decode cX7_digest 80 = .ok (.iinc 1 1, 3) := by decide +kernel
theorem dX7_digest_83 : decode cX7_digest 83 = .ok (.goto (-22), 3) := by decide +kernel
theorem dX7_digest_86 : decode cX7_digest 86 = .ok (.iconst 0, 1) := by decide +kernel
theorem dX7_digest_87 : decode cX7_digest 87 = .ok (.istore_n 1, 1) := by decide +kernel
theorem dX7_digest_88 : decode cX7_digest 88 = .ok (.iload_n 1, 1) := by decide +kernel
theorem dX7_digest_89 : decode cX7_digest 89 = .ok (.bipush 12, 2) := by decide +kernel
theorem dX7_digest_91 : decode cX7_digest 91 = .ok (.if_icmp .ge 19, 3) := by decide +kernel
theorem dX7_digest_94 : decode cX7_digest 94 = .ok (.aload_n 0, 1) := by decide +kernel
theorem dX7_digest_95 : decode cX7_digest 95 = .ok (.aload_n 0, 1) := by decide +kernel
theorem dX7_digest_96 : decode cX7_digest 96 = .ok (.iload_n 1, 1) := by decide +kernel
theorem dX7_digest_97 : decode cX7_digest 97 = .ok (.invokevirtual 242, 3) := by decide +kernel
theorem dX7_digest_100 : decode cX7_digest 100 = .ok (.i2l, 1) := by decide +kernel
theorem dX7_digest_101 : decode cX7_digest 101 = .ok (.invokevirtual 250, 3) := by decide +kernel
theorem dX7_digest_104 : decode cX7_digest 104 = .ok (.iinc 1 1, 3) := by decide +kernel
theorem dX7_digest_107 : decode cX7_digest 107 = .ok (.goto (-19), 3) := by decide +kernel
theorem dX7_digest_110 : decode cX7_digest 110 = .ok (.aload_n 0, 1) := by decide +kernel
theorem dX7_digest_111 : decode cX7_digest 111 = .ok (.getfield 247, 3) := by decide +kernel
theorem dX7_digest_114 : decode cX7_digest 114 = .ok (.lreturn, 1) := by decide +kernel
