set_option maxRecDepth 20000 in
theorem ggX7_partsOf_X7_shareOf : GoodIn wsX7_partsOf wsX7_shareOf := goodIn_r _ [7, 8, 9, 10, 6, 11, 1, 12, 13, 14, 15, 16, 17, 18, 19, 20, 28, 29, 30, 31, 32, 33, 34, 35, 36, 37, 38, 39, 40, 41, 42, 43, 44, 45, 46, 47, 48, 49, 50, 51, 52, 53, 54, 55, 56, 57] (by decide +kernel) (by decide +kernel)
set_option maxRecDepth 20000 in
theorem gX7_partsOf_X7_shareOf : GoodIn wsX7_partsOf (wsV RX7 118 RX7 yX7_shareOf wsX7_shareOf) := goodIn_app (goodIn_of _ (by decide +kernel)) ggX7_partsOf_X7_shareOf
set_option maxRecDepth 20000 in
theorem ggX7_partsOf_X7_sharesOf : GoodIn wsX7_partsOf wsX7_sharesOf := goodIn_r _ [24, 8, 9, 10, 6, 11, 1, 12, 13, 14, 15, 16, 17, 18, 19, 20, 25, 26, 27, 28, 29, 30, 31, 32, 33, 34, 35, 36, 37, 38, 39, 40, 41, 42, 43, 44, 45, 46, 47, 48, 49, 50, 51, 52, 53, 54, 55, 56, 57] (by decide +kernel) (by decide +kernel)
set_option maxRecDepth 20000 in
theorem gX7_partsOf_X7_sharesOf : GoodIn wsX7_partsOf (wsV RX7 115 RX7 yX7_sharesOf wsX7_sharesOf) := goodIn_app (goodIn_of _ (by decide +kernel)) ggX7_partsOf_X7_sharesOf
theorem dX7_partsOf_0 : decode cX7_partsOf 0 = .ok (.lconst 0, 1) := by decide +kernel
theorem dX7_partsOf_1 : decode cX7_partsOf 1 = .ok (.lstore_n 3, 1) := by decide +kernel
theorem dX7_partsOf_2 : decode cX7_partsOf 2 = .ok (.iconst 0, 1) := by decide +kernel
theorem dX7_partsOf_3 : decode cX7_partsOf 3 = .ok (.istore 5, 2) := by decide +kernel
theorem dX7_partsOf_5 : decode cX7_partsOf 5 = .ok (.iload 5, 2) := by decide +kernel
theorem dX7_partsOf_7 : decode cX7_partsOf 7 = .ok (.aload_n 0, 1) := by decide +kernel
theorem dX7_partsOf_8 : decode cX7_partsOf 8 = .ok (.getfield 73, 3) := by decide +kernel
theorem dX7_partsOf_11 : decode cX7_partsOf 11 = .ok (.if_icmp .ge 27, 3) := by decide +kernel
theorem dX7_partsOf_14 : decode cX7_partsOf 14 = .ok (.lload_n 3, 1) := by decide +kernel
theorem dX7_partsOf_15 : decode cX7_partsOf 15 = .ok (.iload_n 1, 1) := by decide +kernel
theorem dX7_partsOf_16 : decode cX7_partsOf 16 = .ok (.iload 5, 2) := by decide +kernel
theorem dX7_partsOf_18 : decode cX7_partsOf 18 = .ok (.ishr, 1) := by decide +kernel
theorem dX7_partsOf_19 : decode cX7_partsOf 19 = .ok (.iconst 1, 1) := by decide +kernel
theorem dX7_partsOf_20 : decode cX7_partsOf 20 = .ok (.iand, 1) := by decide +kernel
theorem dX7_partsOf_21 : decode cX7_partsOf 21 = .ok (.aload_n 0, 1) := by decide +kernel
theorem dX7_partsOf_22 : decode cX7_partsOf 22 = .ok (.iload 5, 2) := by decide +kernel
theorem dX7_partsOf_24 : decode cX7_partsOf 24 = .ok (.iload_n 2, 1) := by decide +kernel
theorem dX7_partsOf_25 : decode cX7_partsOf 25 = .ok (.invokevirtual 118, 3) := by decide +kernel
theorem dX7_partsOf_28 : decode cX7_partsOf 28 = .ok (.imul, 1) := by decide +kernel
theorem dX7_partsOf_29 : decode cX7_partsOf 29 = .ok (.i2l, 1) := by decide +kernel
theorem dX7_partsOf_30 : decode cX7_partsOf 30 = .ok (.ladd, 1) := by decide +kernel
theorem dX7_partsOf_31 : decode cX7_partsOf 31 = .ok (.lstore_n 3, 1) := by decide +kernel
theorem dX7_partsOf_32 : decode cX7_partsOf 32 = .ok (.iinc 5 1, 3) := by decide +kernel
theorem dX7_partsOf_35 : decode cX7_partsOf 35 = .ok (.goto (-30), 3) := by decide +kernel
theorem dX7_partsOf_38 : decode cX7_partsOf 38 = .ok (.lload_n 3, 1) := by decide +kernel
theorem dX7_partsOf_39 : decode cX7_partsOf 39 = .ok (.ldc2_w 147, 3) := by decide +kernel
theorem dX7_partsOf_42 : decode cX7_partsOf 42 = .ok (.aload_n 0, 1) := by decide +kernel
theorem dX7_partsOf_43 : decode cX7_partsOf 43 = .ok (.iload_n 2, 1) := by decide +kernel
theorem dX7_partsOf_44 : decode cX7_partsOf 44 = .ok (.invokevirtual 115, 3) := by decide +kernel
theorem dX7_partsOf_47 : decode cX7_partsOf 47 = .ok (.i2l, 1) := by decide +kernel
theorem dX7_partsOf_48 : decode cX7_partsOf 48 = .ok (.ldiv, 1) := by decide +kernel
theorem dX7_partsOf_49 : decode cX7_partsOf 49 = .ok (.lmul, 1) := by decide +kernel
theorem dX7_partsOf_50 : decode cX7_partsOf 50 = .ok (.lreturn, 1) := by decide +kernel
set_option maxRecDepth 20000 in
theorem ggX7_behindOne_X7_bagBehind : GoodIn wsX7_behindOne wsX7_bagBehind := goodIn_r _ [9, 10, 11, 12, 8, 13, 3, 46, 47, 48, 49, 50, 51, 52, 53, 54, 55, 56, 57, 58, 59, 60, 61, 62, 63, 64, 65, 66, 67, 68, 69, 70, 71, 72, 73, 74, 75] (by decide +kernel) (by decide +kernel)
set_option maxRecDepth 20000 in
theorem gX7_behindOne_X7_bagBehind : GoodIn wsX7_behindOne (wsV RX7 144 RX7 yX7_bagBehind wsX7_bagBehind) := goodIn_app (goodIn_of _ (by decide +kernel)) ggX7_behindOne_X7_bagBehind
set_option maxRecDepth 20000 in
theorem ggX7_behindOne_X7_mayBy : GoodIn wsX7_behindOne wsX7_mayBy := goodIn_r _ [17, 3, 18, 10, 11, 12, 8, 13, 46, 47, 48, 49, 50, 51, 52, 53, 54, 55, 56, 57, 58, 59, 60, 61, 62, 63, 64, 65, 66, 67, 68, 69, 70, 71, 72, 73, 74, 75] (by decide +kernel) (by decide +kernel)
set_option maxRecDepth 20000 in
theorem gX7_behindOne_X7_mayBy : GoodIn wsX7_behindOne (wsV RX7 98 RX7 yX7_mayBy wsX7_mayBy) := goodIn_app (goodIn_of _ (by decide +kernel)) ggX7_behindOne_X7_mayBy
set_option maxRecDepth 20000 in
theorem ggX7_behindOne_X7_partsOf : GoodIn wsX7_behindOne wsX7_partsOf := goodIn_r _ [22, 3, 4, 23, 24, 25, 8, 26, 27, 28, 29, 30, 31, 32, 33, 34, 18, 35, 36, 37, 38, 39, 40, 41, 42, 43, 44, 45, 46, 47, 48, 49, 50, 51, 52, 53, 54, 55, 56, 57, 58, 59, 60, 61, 62, 63, 64, 65, 66, 67, 68, 69, 70, 71, 72, 73, 74, 75] (by decide +kernel) (by decide +kernel)
set_option maxRecDepth 20000 in
theorem gX7_behindOne_X7_partsOf : GoodIn wsX7_behindOne (wsV RX7 149 RX7 yX7_partsOf wsX7_partsOf) := goodIn_app (goodIn_of _ (by decide +kernel)) ggX7_behindOne_X7_partsOf
set_option maxRecDepth 20000 in
theorem ggX7_behindOne_X7_shareOf : GoodIn wsX7_behindOne wsX7_shareOf := goodIn_r _ [26, 27, 28, 29, 8, 30, 3, 31, 32, 33, 34, 18, 35, 36, 37, 38, 46, 47, 48, 49, 50, 51, 52, 53, 54, 55, 56, 57, 58, 59, 60, 61, 62, 63, 64, 65, 66, 67, 68, 69, 70, 71, 72, 73, 74, 75] (by decide +kernel) (by decide +kernel)
set_option maxRecDepth 20000 in
theorem gX7_behindOne_X7_shareOf : GoodIn wsX7_behindOne (wsV RX7 118 RX7 yX7_shareOf wsX7_shareOf) := goodIn_app (goodIn_of _ (by decide +kernel)) ggX7_behindOne_X7_shareOf
set_option maxRecDepth 20000 in
theorem ggX7_behindOne_X7_sharesOf : GoodIn wsX7_behindOne wsX7_sharesOf := goodIn_r _ [42, 27, 28, 29, 8, 30, 3, 31, 32, 33, 34, 18, 35, 36, 37, 38, 43, 44, 45, 46, 47, 48, 49, 50, 51, 52, 53, 54, 55, 56, 57, 58, 59, 60, 61, 62, 63, 64, 65, 66, 67, 68, 69, 70, 71, 72, 73, 74, 75] (by decide +kernel) (by decide +kernel)
set_option maxRecDepth 20000 in
theorem gX7_behindOne_X7_sharesOf : GoodIn wsX7_behindOne (wsV RX7 115 RX7 yX7_sharesOf wsX7_sharesOf) := goodIn_app (goodIn_of _ (by decide +kernel)) ggX7_behindOne_X7_sharesOf
theorem dX7_behindOne_0 : decode cX7_behindOne 0 = .ok (.aload_n 0, 1) := by decide +kernel
theorem dX7_behindOne_1 : decode cX7_behindOne 1 = .ok (.aload_n 0, 1) := by decide +kernel
theorem dX7_behindOne_2 : decode cX7_behindOne 2 = .ok (.getfield 82, 3) := by decide +kernel
theorem dX7_behindOne_5 : decode cX7_behindOne 5 = .ok (.iload_n 1, 1) := by decide +kernel
theorem dX7_behindOne_6 : decode cX7_behindOne 6 = .ok (.invokevirtual 144, 3) := by decide +kernel
theorem dX7_behindOne_9 : decode cX7_behindOne 9 = .ok (.istore_n 3, 1) := by decide +kernel
theorem dX7_behindOne_10 : decode cX7_behindOne 10 = .ok (.aload_n 0, 1) := by decide +kernel
theorem dX7_behindOne_11 : decode cX7_behindOne 11 = .ok (.aload_n 0, 1) := by decide +kernel
theorem dX7_behindOne_12 : decode cX7_behindOne 12 = .ok (.getfield 76, 3) := by decide +kernel
theorem dX7_behindOne_15 : decode cX7_behindOne 15 = .ok (.iload_n 3, 1) := by decide +kernel
theorem dX7_behindOne_16 : decode cX7_behindOne 16 = .ok (.iload_n 1, 1) := by decide +kernel
theorem dX7_behindOne_17 : decode cX7_behindOne 17 = .ok (.invokevirtual 98, 3) := by decide +kernel
theorem dX7_behindOne_20 : decode cX7_behindOne 20 = .ok (.istore 4, 2) := by decide +kernel
theorem dX7_behindOne_22 : decode cX7_behindOne 22 = .ok (.iload_n 2, 1) := by decide +kernel
theorem dX7_behindOne_23 : decode cX7_behindOne 23 = .ok (.iconst 1, 1) := by decide +kernel
theorem dX7_behindOne_24 : decode cX7_behindOne 24 = .ok (.if_icmp .ne 13, 3) := by decide +kernel
theorem dX7_behindOne_27 : decode cX7_behindOne 27 = .ok (.aload_n 0, 1) := by decide +kernel
theorem dX7_behindOne_28 : decode cX7_behindOne 28 = .ok (.iconst 1, 1) := by decide +kernel
theorem dX7_behindOne_29 : decode cX7_behindOne 29 = .ok (.iload_n 1, 1) := by decide +kernel
theorem dX7_behindOne_30 : decode cX7_behindOne 30 = .ok (.ishl, 1) := by decide +kernel
theorem dX7_behindOne_31 : decode cX7_behindOne 31 = .ok (.iload 4, 2) := by decide +kernel
theorem dX7_behindOne_33 : decode cX7_behindOne 33 = .ok (.invokevirtual 149, 3) := by decide +kernel
theorem dX7_behindOne_36 : decode cX7_behindOne 36 = .ok (.lreturn, 1) := by decide +kernel
theorem dX7_behindOne_37 : decode cX7_behindOne 37 = .ok (.lconst 0, 1) := by decide +kernel
theorem dX7_behindOne_38 : decode cX7_behindOne 38 = .ok (.lstore 5, 2) := by decide +kernel
theorem dX7_behindOne_40 : decode cX7_behindOne 40 = .ok (.iconst 0, 1) := by decide +kernel
theorem dX7_behindOne_41 : decode cX7_behindOne 41 = .ok (.istore 7, 2) := by decide +kernel
theorem dX7_behindOne_43 : decode cX7_behindOne 43 = .ok (.iload 7, 2) := by decide +kernel
theorem dX7_behindOne_45 : decode cX7_behindOne 45 = .ok (.aload_n 0, 1) := by decide +kernel
theorem dX7_behindOne_46 : decode cX7_behindOne 46 = .ok (.getfield 73, 3) := by decide +kernel
theorem dX7_behindOne_49 : decode cX7_behindOne 49 = .ok (.if_icmp .ge 73, 3) := by decide +kernel
theorem dX7_behindOne_52 : decode cX7_behindOne 52 = .ok (.aload_n 0, 1) := by decide +kernel
theorem dX7_behindOne_53 : decode cX7_behindOne 53 = .ok (.aload_n 0, 1) := by decide +kernel
theorem dX7_behindOne_54 : decode cX7_behindOne 54 = .ok (.getfield 76, 3) := by decide +kernel
theorem dX7_behindOne_57 : decode cX7_behindOne 57 = .ok (.aload_n 0, 1) := by decide +kernel
theorem dX7_behindOne_58 : decode cX7_behindOne 58 = .ok (.iload_n 3, 1) := by decide +kernel
theorem dX7_behindOne_59 : decode cX7_behindOne 59 = .ok (.iload 7, 2) := by decide +kernel
theorem dX7_behindOne_61 : decode cX7_behindOne 61 = .ok (.invokevirtual 144, 3) := by decide +kernel
theorem dX7_behindOne_64 : decode cX7_behindOne 64 = .ok (.iload 7, 2) := by decide +kernel
theorem dX7_behindOne_66 : decode cX7_behindOne 66 = .ok (.invokevirtual 98, 3) := by decide +kernel
theorem dX7_behindOne_69 : decode cX7_behindOne 69 = .ok (.istore 8, 2) := by decide +kernel
theorem dX7_behindOne_71 : decode cX7_behindOne 71 = .ok (.iload 7, 2) := by decide +kernel
theorem dX7_behindOne_73 : decode cX7_behindOne 73 = .ok (.iload_n 1, 1) := by decide +kernel
theorem dX7_behindOne_74 : decode cX7_behindOne 74 = .ok (.if_icmp .ne 9, 3) := by decide +kernel
theorem dX7_behindOne_77 : decode cX7_behindOne 77 = .ok (.ldc2_w 147, 3) := by decide +kernel
theorem dX7_behindOne_80 : decode cX7_behindOne 80 = .ok (.goto 17, 3) := by decide +kernel
theorem dX7_behindOne_83 : decode cX7_behindOne 83 = .ok (.aload_n 0, 1) := by decide +kernel
theorem dX7_behindOne_84 : decode cX7_behindOne 84 = .ok (.iconst 1, 1) := by decide +kernel
theorem dX7_behindOne_85 : decode cX7_behindOne 85 = .ok (.iload_n 1, 1) := by decide +kernel
theorem dX7_behindOne_86 : decode cX7_behindOne 86 = .ok (.ishl, 1) := by decide +kernel
theorem dX7_behindOne_87 : decode cX7_behindOne 87 = .ok (.iconst 1, 1) := by decide +kernel
theorem dX7_behindOne_88 : decode cX7_behindOne 88 = .ok (.iload 7, 2) := by decide +kernel
theorem dX7_behindOne_90 : decode cX7_behindOne 90 = .ok (.ishl, 1) := by decide +kernel
theorem dX7_behindOne_91 : decode cX7_behindOne 91 = .ok (.ior, 1) := by decide +kernel
theorem dX7_behindOne_92 : decode cX7_behindOne 92 = .ok (.iload 8, 2) := by decide +kernel
theorem dX7_behindOne_94 : decode cX7_behindOne 94 = .ok (.invokevirtual 149, 3) := by decide +kernel
theorem dX7_behindOne_97 : decode cX7_behindOne 97 = .ok (.lstore 9, 2) := by decide +kernel
theorem dX7_behindOne_99 : decode cX7_behindOne 99 = .ok (.lload 5, 2) := by decide +kernel
theorem dX7_behindOne_101 : decode cX7_behindOne 101 = .ok (.aload_n 0, 1) := by decide +kernel
theorem dX7_behindOne_102 : decode cX7_behindOne 102 = .ok (.iload 7, 2) := by decide +kernel
theorem dX7_behindOne_104 : decode cX7_behindOne 104 = .ok (.iload 4, 2) := by decide +kernel
theorem dX7_behindOne_106 : decode cX7_behindOne 106 = .ok (.invokevirtual 118, 3) := by decide +kernel
theorem dX7_behindOne_109 : decode cX7_behindOne 109 = .ok (.i2l, 1) := by decide +kernel
theorem dX7_behindOne_110 : decode cX7_behindOne 110 = .ok (.lload 9, 2) := by decide +kernel
theorem dX7_behindOne_112 : decode cX7_behindOne 112 = .ok (.lmul, 1) := by decide +kernel
theorem dX7_behindOne_113 : decode cX7_behindOne 113 = .ok (.ladd, 1) := by decide +kernel
theorem dX7_behindOne_114 : decode cX7_behindOne 114 = .ok (.lstore 5, 2) := by decide +kernel
theorem dX7_behindOne_116 : decode cX7_behindOne 116 = .ok (.iinc 7 1, 3) := by decide +kernel
theorem dX7_behindOne_119 : decode cX7_behindOne 119 = .ok (.goto (-76), 3) := by decide +kernel
theorem dX7_behindOne_122 : decode cX7_behindOne 122 = .ok (.lload 5, 2) := by decide +kernel
theorem dX7_behindOne_124 : decode cX7_behindOne 124 = .ok (.ldc2_w 147, 3) := by decide +kernel
theorem dX7_behindOne_127 : decode cX7_behindOne 127 = .ok (.aload_n 0, 1) := by decide +kernel
theorem dX7_behindOne_128 : decode cX7_behindOne 128 = .ok (.iload 4, 2) := by decide +kernel
theorem dX7_behindOne_130 : decode cX7_behindOne 130 = .ok (.invokevirtual 115, 3) := by decide +kernel
theorem dX7_behindOne_133 : decode cX7_behindOne 133 = .ok (.i2l, 1) := by decide +kernel
theorem dX7_behindOne_134 : decode cX7_behindOne 134 = .ok (.ldiv, 1) := by decide +kernel
theorem dX7_behindOne_135 : decode cX7_behindOne 135 = .ok (.lmul, 1) := by decide +kernel
theorem dX7_behindOne_136 : decode cX7_behindOne 136 = .ok (.lreturn, 1) := by decide +kernel
set_option maxRecDepth 20000 in
theorem ggX7_twiceOf_X7_mayNow : GoodIn wsX7_twiceOf wsX7_mayNow := goodIn_r _ [7, 8, 9, 10, 11, 12, 13, 6, 14, 1, 15, 16, 17, 18, 19, 58, 59, 60, 61, 62, 63, 64, 65, 66, 67, 68, 69, 70, 71, 72, 73, 74, 75, 76, 77, 78, 79, 80, 81, 82, 83, 84, 85, 86, 87] (by decide +kernel) (by decide +kernel)
set_option maxRecDepth 20000 in
theorem gX7_twiceOf_X7_mayNow : GoodIn wsX7_twiceOf (wsV RX7 112 RX7 yX7_mayNow wsX7_mayNow) := goodIn_app (goodIn_of _ (by decide +kernel)) ggX7_twiceOf_X7_mayNow
set_option maxRecDepth 20000 in
theorem ggX7_twiceOf_X7_shareOf : GoodIn wsX7_twiceOf wsX7_shareOf := goodIn_r _ [23, 24, 25, 26, 6, 27, 1, 28, 29, 30, 31, 15, 32, 33, 34, 35, 58, 59, 60, 61, 62, 63, 64, 65, 66, 67, 68, 69, 70, 71, 72, 73, 74, 75, 76, 77, 78, 79, 80, 81, 82, 83, 84, 85, 86, 87] (by decide +kernel) (by decide +kernel)
set_option maxRecDepth 20000 in
theorem gX7_twiceOf_X7_shareOf : GoodIn wsX7_twiceOf (wsV RX7 118 RX7 yX7_shareOf wsX7_shareOf) := goodIn_app (goodIn_of _ (by decide +kernel)) ggX7_twiceOf_X7_shareOf
set_option maxRecDepth 20000 in
theorem ggX7_twiceOf_X7_behindOne : GoodIn wsX7_twiceOf wsX7_behindOne := goodIn_r _ [39, 9, 8, 1, 2, 40, 41, 42, 6, 43, 16, 17, 18, 19, 11, 12, 13, 14, 15, 44, 45, 46, 47, 20, 21, 22, 23, 24, 25, 26, 27, 28, 29, 30, 31, 32, 33, 34, 35, 48, 49, 50, 51, 52, 53, 54, 58, 59, 60, 61, 62, 63, 64, 65, 66, 67, 68, 69, 70, 71, 72, 73, 74, 75, 76, 77, 78, 79, 80, 81, 82, 83, 84, 85, 86, 87] (by decide +kernel) (by decide +kernel)
set_option maxRecDepth 20000 in
theorem gX7_twiceOf_X7_behindOne : GoodIn wsX7_twiceOf (wsV RX7 153 RX7 yX7_behindOne wsX7_behindOne) := goodIn_app (goodIn_of _ (by decide +kernel)) ggX7_twiceOf_X7_behindOne
set_option maxRecDepth 20000 in
theorem ggX7_twiceOf_X7_sharesOf : GoodIn wsX7_twiceOf wsX7_sharesOf := goodIn_r _ [51, 24, 25, 26, 6, 27, 1, 28, 29, 30, 31, 15, 32, 33, 34, 35, 52, 53, 54, 58, 59, 60, 61, 62, 63, 64, 65, 66, 67, 68, 69, 70, 71, 72, 73, 74, 75, 76, 77, 78, 79, 80, 81, 82, 83, 84, 85, 86, 87] (by decide +kernel) (by decide +kernel)
set_option maxRecDepth 20000 in
theorem gX7_twiceOf_X7_sharesOf : GoodIn wsX7_twiceOf (wsV RX7 115 RX7 yX7_sharesOf wsX7_sharesOf) := goodIn_app (goodIn_of _ (by decide +kernel)) ggX7_twiceOf_X7_sharesOf
set_option maxRecDepth 20000 in
theorem ggX7_twiceOf_X7_common : GoodIn wsX7_twiceOf wsX7_common := goodIn_r _ [57] (by decide +kernel) (by decide +kernel)
set_option maxRecDepth 20000 in
theorem gX7_twiceOf_X7_common : GoodIn wsX7_twiceOf (va_wsS RX7 122 yX7_common wsX7_common) := goodIn_app (goodIn_of _ (by decide +kernel)) ggX7_twiceOf_X7_common
theorem dX7_twiceOf_0 : decode cX7_twiceOf 0 = .ok (.aload_n 0, 1) := by decide +kernel
theorem dX7_twiceOf_1 : decode cX7_twiceOf 1 = .ok (.invokevirtual 112, 3) := by decide +kernel
theorem dX7_twiceOf_4 : decode cX7_twiceOf 4 = .ok (.istore_n 3, 1) := by decide +kernel
theorem dX7_twiceOf_5 : decode cX7_twiceOf 5 = .ok (.lconst 0, 1) := by decide +kernel
theorem dX7_twiceOf_6 : decode cX7_twiceOf 6 = .ok (.lstore 4, 2) := by decide +kernel
theorem dX7_twiceOf_8 : decode cX7_twiceOf 8 = .ok (.iconst 0, 1) := by decide +kernel
theorem dX7_twiceOf_9 : decode cX7_twiceOf 9 = .ok (.istore 6, 2) := by decide +kernel
theorem dX7_twiceOf_11 : decode cX7_twiceOf 11 = .ok (.iload 6, 2) := by decide +kernel
theorem dX7_twiceOf_13 : decode cX7_twiceOf 13 = .ok (.aload_n 0, 1) := by decide +kernel
theorem dX7_twiceOf_14 : decode cX7_twiceOf 14 = .ok (.getfield 73, 3) := by decide +kernel
theorem dX7_twiceOf_17 : decode cX7_twiceOf 17 = .ok (.if_icmp .ge 32, 3) := by decide +kernel
theorem dX7_twiceOf_20 : decode cX7_twiceOf 20 = .ok (.lload 4, 2) := by decide +kernel
theorem dX7_twiceOf_22 : decode cX7_twiceOf 22 = .ok (.aload_n 0, 1) := by decide +kernel
theorem dX7_twiceOf_23 : decode cX7_twiceOf 23 = .ok (.iload 6, 2) := by decide +kernel
theorem dX7_twiceOf_25 : decode cX7_twiceOf 25 = .ok (.iload_n 3, 1) := by decide +kernel
theorem dX7_twiceOf_26 : decode cX7_twiceOf 26 = .ok (.invokevirtual 118, 3) := by decide +kernel
theorem dX7_twiceOf_29 : decode cX7_twiceOf 29 = .ok (.i2l, 1) := by decide +kernel
theorem dX7_twiceOf_30 : decode cX7_twiceOf 30 = .ok (.aload_n 0, 1) := by decide +kernel
theorem dX7_twiceOf_31 : decode cX7_twiceOf 31 = .ok (.iload 6, 2) := by decide +kernel
theorem dX7_twiceOf_33 : decode cX7_twiceOf 33 = .ok (.iload_n 1, 1) := by decide +kernel
theorem dX7_twiceOf_34 : decode cX7_twiceOf 34 = .ok (.iconst 1, 1) := by decide +kernel
theorem dX7_twiceOf_35 : decode cX7_twiceOf 35 = .ok (.isub, 1) := by decide +kernel
theorem dX7_twiceOf_36 : decode cX7_twiceOf 36 = .ok (.invokevirtual 153, 3) := by decide +kernel
theorem dX7_twiceOf_39 : decode cX7_twiceOf 39 = .ok (.lmul, 1) := by decide +kernel
theorem dX7_twiceOf_40 : decode cX7_twiceOf 40 = .ok (.ladd, 1) := by decide +kernel
theorem dX7_twiceOf_41 : decode cX7_twiceOf 41 = .ok (.lstore 4, 2) := by decide +kernel
theorem dX7_twiceOf_43 : decode cX7_twiceOf 43 = .ok (.iinc 6 1, 3) := by decide +kernel
theorem dX7_twiceOf_46 : decode cX7_twiceOf 46 = .ok (.goto (-35), 3) := by decide +kernel
theorem dX7_twiceOf_49 : decode cX7_twiceOf 49 = .ok (.aload_n 0, 1) := by decide +kernel
theorem dX7_twiceOf_50 : decode cX7_twiceOf 50 = .ok (.iload_n 3, 1) := by decide +kernel
theorem dX7_twiceOf_51 : decode cX7_twiceOf 51 = .ok (.invokevirtual 115, 3) := by decide +kernel
theorem dX7_twiceOf_54 : decode cX7_twiceOf 54 = .ok (.i2l, 1) := by decide +kernel
theorem dX7_twiceOf_55 : decode cX7_twiceOf 55 = .ok (.ldc2_w 147, 3) := by decide +kernel
theorem dX7_twiceOf_58 : decode cX7_twiceOf 58 = .ok (.lmul, 1) := by decide +kernel
theorem dX7_twiceOf_59 : decode cX7_twiceOf 59 = .ok (.iload_n 1, 1) := by decide +kernel
theorem dX7_twiceOf_60 : decode cX7_twiceOf 60 = .ok (.iconst 3, 1) := by decide +kernel
theorem dX7_twiceOf_61 : decode cX7_twiceOf 61 = .ok (.if_icmp .ne 9, 3) := by decide +kernel
theorem dX7_twiceOf_64 : decode cX7_twiceOf 64 = .ok (.ldc2_w 147, 3) := by decide +kernel
theorem dX7_twiceOf_67 : decode cX7_twiceOf 67 = .ok (.goto 4, 3) := by decide +kernel
theorem dX7_twiceOf_70 : decode cX7_twiceOf 70 = .ok (.lconst 1, 1) := by decide +kernel
theorem dX7_twiceOf_71 : decode cX7_twiceOf 71 = .ok (.lmul, 1) := by decide +kernel
theorem dX7_twiceOf_72 : decode cX7_twiceOf 72 = .ok (.lstore 6, 2) := by decide +kernel
theorem dX7_twiceOf_74 : decode cX7_twiceOf 74 = .ok (.lload 6, 2) := by decide +kernel
theorem dX7_twiceOf_76 : decode cX7_twiceOf 76 = .ok (.lload 4, 2) := by decide +kernel
theorem dX7_twiceOf_78 : decode cX7_twiceOf 78 = .ok (.invokestatic 122, 3) := by decide +kernel
theorem dX7_twiceOf_81 : decode cX7_twiceOf 81 = .ok (.lstore 8, 2) := by decide +kernel
theorem dX7_twiceOf_83 : decode cX7_twiceOf 83 = .ok (.iload_n 2, 1) := by decide +kernel
theorem dX7_twiceOf_84 : decode cX7_twiceOf 84 = .ok (.ifCond .ne 11, 3) := by decide +kernel
theorem dX7_twiceOf_87 : decode cX7_twiceOf 87 = .ok (.lload 4, 2) := by decide +kernel
theorem dX7_twiceOf_89 : decode cX7_twiceOf 89 = .ok (.lload 8, 2) := by decide +kernel
theorem dX7_twiceOf_91 : decode cX7_twiceOf 91 = .ok (.ldiv, 1) := by decide +kernel
theorem dX7_twiceOf_92 : decode cX7_twiceOf 92 = .ok (.goto 8, 3) := by decide +kernel
theorem dX7_twiceOf_95 : decode cX7_twiceOf 95 = .ok (.lload 6, 2) := by decide +kernel
theorem dX7_twiceOf_97 : decode cX7_twiceOf 97 = .ok (.lload 8, 2) := by decide +kernel
theorem dX7_twiceOf_99 : decode cX7_twiceOf 99 = .ok (.ldiv, 1) := by decide +kernel
theorem dX7_twiceOf_100 : decode cX7_twiceOf 100 = .ok (.lreturn, 1) := by decide +kernel
set_option maxRecDepth 20000 in
theorem ggX7_twice_X7_in : GoodIn wsX7_twice wsX7_in := goodIn_r _ [8] (by decide +kernel) (by decide +kernel)
set_option maxRecDepth 20000 in
theorem gX7_twice_X7_in : GoodIn wsX7_twice (va_wsS RX7 43 yX7_in wsX7_in) := goodIn_app (goodIn_of _ (by decide +kernel)) ggX7_twice_X7_in
set_option maxRecDepth 20000 in
theorem ggX7_twice_X7_lacks : GoodIn wsX7_twice wsX7_lacks := goodIn_r _ [12, 13, 73, 74, 75, 76, 77, 78, 79, 80, 81, 82, 83, 84, 85, 86, 87, 88, 89, 90, 91, 92, 93, 94, 95, 96, 97, 98, 99, 100, 101, 102] (by decide +kernel) (by decide +kernel)
set_option maxRecDepth 20000 in
theorem gX7_twice_X7_lacks : GoodIn wsX7_twice (wsV RX7 140 RX7 yX7_lacks wsX7_lacks) := goodIn_app (goodIn_of _ (by decide +kernel)) ggX7_twice_X7_lacks
set_option maxRecDepth 20000 in
theorem ggX7_twice_X7_twiceOf : GoodIn wsX7_twice wsX7_twiceOf := goodIn_r _ [17, 13, 18, 19, 20, 21, 7, 22, 23, 24, 25, 26, 27, 28, 29, 30, 31, 32, 33, 34, 35, 36, 37, 38, 39, 40, 41, 42, 43, 44, 45, 46, 47, 48, 49, 50, 51, 52, 53, 54, 55, 56, 57, 58, 59, 60, 61, 62, 63, 64, 65, 66, 67, 68, 69, 70, 71, 72, 73, 74, 75, 76, 77, 78, 79, 80, 81, 82, 83, 84, 85, 86, 87, 88, 89, 90, 91, 92, 93, 94, 95, 96, 97, 98, 99, 100, 101, 102] (by decide +kernel) (by decide +kernel)
set_option maxRecDepth 20000 in
theorem gX7_twice_X7_twiceOf : GoodIn wsX7_twice (wsV RX7 162 RX7 yX7_twiceOf wsX7_twiceOf) := goodIn_app (goodIn_of _ (by decide +kernel)) ggX7_twice_X7_twiceOf
theorem dX7_twice_0 : decode cX7_twice 0 = .ok (.iload_n 1, 1) := by decide +kernel
theorem dX7_twice_1 : decode cX7_twice 1 = .ok (.i2l, 1) := by decide +kernel
theorem dX7_twice_2 : decode cX7_twice 2 = .ok (.ldc2_w 156, 3) := by decide +kernel
theorem dX7_twice_5 : decode cX7_twice 5 = .ok (.ldc2_w 60, 3) := by decide +kernel
theorem dX7_twice_8 : decode cX7_twice 8 = .ok (.invokestatic 43, 3) := by decide +kernel
theorem dX7_twice_11 : decode cX7_twice 11 = .ok (.ifCond .eq 13, 3) := by decide +kernel
theorem dX7_twice_14 : decode cX7_twice 14 = .ok (.iload_n 2, 1) := by decide +kernel
theorem dX7_twice_15 : decode cX7_twice 15 = .ok (.i2l, 1) := by decide +kernel
theorem dX7_twice_16 : decode cX7_twice 16 = .ok (.lconst 0, 1) := by decide +kernel
theorem dX7_twice_17 : decode cX7_twice 17 = .ok (.lconst 1, 1) := by decide +kernel
theorem dX7_twice_18 : decode cX7_twice 18 = .ok (.invokestatic 43, 3) := by decide +kernel
theorem dX7_twice_21 : decode cX7_twice 21 = .ok (.ifCond .ne 7, 3) := by decide +kernel
theorem dX7_twice_24 : decode cX7_twice 24 = .ok (.ldc2_w 158, 3) := by decide +kernel
theorem dX7_twice_27 : decode cX7_twice 27 = .ok (.lreturn, 1) := by decide +kernel
theorem dX7_twice_28 : decode cX7_twice 28 = .ok (.aload_n 0, 1) := by decide +kernel
theorem dX7_twice_29 : decode cX7_twice 29 = .ok (.invokevirtual 140, 3) := by decide +kernel
theorem dX7_twice_32 : decode cX7_twice 32 = .ok (.ifCond .eq 9, 3) := by decide +kernel
theorem dX7_twice_35 : decode cX7_twice 35 = .ok (.ldc2_w 160, 3) := by decide +kernel
theorem dX7_twice_38 : decode cX7_twice 38 = .ok (.goto 9, 3) := by decide +kernel
theorem dX7_twice_41 : decode cX7_twice 41 = .ok (.aload_n 0, 1) := by decide +kernel
theorem dX7_twice_42 : decode cX7_twice 42 = .ok (.iload_n 1, 1) := by decide +kernel
theorem dX7_twice_43 : decode cX7_twice 43 = .ok (.iload_n 2, 1) := by decide +kernel
theorem dX7_twice_44 : decode cX7_twice 44 = .ok (.invokevirtual 162, 3) := by decide +kernel
theorem dX7_twice_47 : decode cX7_twice 47 = .ok (.lreturn, 1) := by decide +kernel
theorem dX7_layRow_0 : decode cX7_layRow 0 = .ok (.iload_n 2, 1) := by decide +kernel
theorem dX7_layRow_1 : decode cX7_layRow 1 = .ok (.istore_n 3, 1) := by decide +kernel
theorem dX7_layRow_2 : decode cX7_layRow 2 = .ok (.iconst 0, 1) := by decide +kernel
theorem dX7_layRow_3 : decode cX7_layRow 3 = .ok (.istore 4, 2) := by decide +kernel
theorem dX7_layRow_5 : decode cX7_layRow 5 = .ok (.aload_n 0, 1) := by decide +kernel
theorem dX7_layRow_6 : decode cX7_layRow 6 = .ok (.getfield 165, 3) := by decide +kernel
theorem dX7_layRow_9 : decode cX7_layRow 9 = .ok (.iconst 1, 1) := by decide +kernel
theorem dX7_layRow_10 : decode cX7_layRow 10 = .ok (.isub, 1) := by decide +kernel
theorem dX7_layRow_11 : decode cX7_layRow 11 = .ok (.istore 5, 2) := by decide +kernel
theorem dX7_layRow_13 : decode cX7_layRow 13 = .ok (.iload 5, 2) := by decide +kernel
theorem dX7_layRow_15 : decode cX7_layRow 15 = .ok (.ifCond .lt 43, 3) := by decide +kernel
theorem dX7_layRow_18 : decode cX7_layRow 18 = .ok (.aload_n 0, 1) := by decide +kernel
theorem dX7_layRow_19 : decode cX7_layRow 19 = .ok (.getfield 19, 3) := by decide +kernel
theorem dX7_layRow_22 : decode cX7_layRow 22 = .ok (.iload 5, 2) := by decide +kernel
theorem dX7_layRow_24 : decode cX7_layRow 24 = .ok (.iload_n 3, 1) := by decide +kernel
theorem dX7_layRow_25 : decode cX7_layRow 25 = .ok (.aload_n 0, 1) := by decide +kernel
theorem dX7_layRow_26 : decode cX7_layRow 26 = .ok (.getfield 73, 3) := by decide +kernel
theorem dX7_layRow_29 : decode cX7_layRow 29 = .ok (.irem, 1) := by decide +kernel
theorem dX7_layRow_30 : decode cX7_layRow 30 = .ok (.iastore, 1) := by decide +kernel
theorem dX7_layRow_31 : decode cX7_layRow 31 = .ok (.iload 4, 2) := by decide +kernel
theorem dX7_layRow_33 : decode cX7_layRow 33 = .ok (.iconst 1, 1) := by decide +kernel
theorem dX7_layRow_34 : decode cX7_layRow 34 = .ok (.aload_n 0, 1) := by decide +kernel
theorem dX7_layRow_35 : decode cX7_layRow 35 = .ok (.getfield 19, 3) := by decide +kernel
theorem dX7_layRow_38 : decode cX7_layRow 38 = .ok (.iload 5, 2) := by decide +kernel
theorem dX7_layRow_40 : decode cX7_layRow 40 = .ok (.iaload, 1) := by decide +kernel
theorem dX7_layRow_41 : decode cX7_layRow 41 = .ok (.ishl, 1) := by decide +kernel
theorem dX7_layRow_42 : decode cX7_layRow 42 = .ok (.ior, 1) := by decide +kernel
theorem dX7_layRow_43 : decode cX7_layRow 43 = .ok (.istore 4, 2) := by decide +kernel
theorem dX7_layRow_45 : decode cX7_layRow 45 = .ok (.iload_n 3, 1) := by decide +kernel
theorem dX7_layRow_46 : decode cX7_layRow 46 = .ok (.aload_n 0, 1) := by decide +kernel
theorem dX7_layRow_47 : decode cX7_layRow 47 = .ok (.getfield 73, 3) := by decide +kernel
theorem dX7_layRow_50 : decode cX7_layRow 50 = .ok (.idiv, 1) := by decide +kernel
theorem dX7_layRow_51 : decode cX7_layRow 51 = .ok (.istore_n 3, 1) := by decide +kernel
theorem dX7_layRow_52 : decode cX7_layRow 52 = .ok (.iinc 5 (-1), 3) := by decide +kernel
theorem dX7_layRow_55 : decode cX7_layRow 55 = .ok (.goto (-42), 3) := by decide +kernel
theorem dX7_layRow_58 : decode cX7_layRow 58 = .ok (.iload 4, 2) := by decide +kernel
theorem dX7_layRow_60 : decode cX7_layRow 60 = .ok (.iload_n 1, 1) := by decide +kernel
theorem dX7_layRow_61 : decode cX7_layRow 61 = .ok (.if_icmp .ne 7, 3) := by decide +kernel
theorem dX7_layRow_64 : decode cX7_layRow 64 = .ok (.iconst 1, 1) := by decide +kernel
theorem dX7_layRow_65 : decode cX7_layRow 65 = .ok (.goto 4, 3) := by decide +kernel
theorem dX7_layRow_68 : decode cX7_layRow 68 = .ok (.iconst 0, 1) := by decide +kernel
theorem dX7_layRow_69 : decode cX7_layRow 69 = .ok (.istore 5, 2) := by decide +kernel
theorem dX7_layRow_71 : decode cX7_layRow 71 = .ok (.iconst 1, 1) := by decide +kernel
theorem dX7_layRow_72 : decode cX7_layRow 72 = .ok (.istore 6, 2) := by decide +kernel
theorem dX7_layRow_74 : decode cX7_layRow 74 = .ok (.iload 6, 2) := by decide +kernel
theorem dX7_layRow_76 : decode cX7_layRow 76 = .ok (.aload_n 0, 1) := by decide +kernel
theorem dX7_layRow_77 : decode cX7_layRow 77 = .ok (.getfield 165, 3) := by decide +kernel
theorem dX7_layRow_80 : decode cX7_layRow 80 = .ok (.if_icmp .ge 58, 3) := by decide +kernel
theorem dX7_layRow_83 : decode cX7_layRow 83 = .ok (.iload 5, 2) := by decide +kernel
theorem dX7_layRow_85 : decode cX7_layRow 85 = .ok (.ifCond .eq 44, 3) := by decide +kernel
theorem dX7_layRow_88 : decode cX7_layRow 88 = .ok (.aload_n 0, 1) := by decide +kernel
theorem dX7_layRow_89 : decode cX7_layRow 89 = .ok (.getfield 16, 3) := by decide +kernel
theorem dX7_layRow_92 : decode cX7_layRow 92 = .ok (.iconst 4, 1) := by decide +kernel
theorem dX7_layRow_93 : decode cX7_layRow 93 = .ok (.aload_n 0, 1) := by decide +kernel
theorem dX7_layRow_94 : decode cX7_layRow 94 = .ok (.getfield 19, 3) := by decide +kernel
theorem dX7_layRow_97 : decode cX7_layRow 97 = .ok (.iload 6, 2) := by decide +kernel
theorem dX7_layRow_99 : decode cX7_layRow 99 = .ok (.iaload, 1) := by decide +kernel
theorem dX7_layRow_100 : decode cX7_layRow 100 = .ok (.imul, 1) := by decide +kernel
theorem dX7_layRow_101 : decode cX7_layRow 101 = .ok (.iconst 1, 1) := by decide +kernel
theorem dX7_layRow_102 : decode cX7_layRow 102 = .ok (.iadd, 1) := by decide +kernel
theorem dX7_layRow_103 : decode cX7_layRow 103 = .ok (.iaload, 1) := by decide +kernel
theorem dX7_layRow_104 : decode cX7_layRow 104 = .ok (.aload_n 0, 1) := by decide +kernel
theorem dX7_layRow_105 : decode cX7_layRow 105 = .ok (.getfield 16, 3) := by decide +kernel
theorem dX7_layRow_108 : decode cX7_layRow 108 = .ok (.iconst 4, 1) := by decide +kernel
theorem dX7_layRow_109 : decode cX7_layRow 109 = .ok (.aload_n 0, 1) := by decide +kernel
theorem dX7_layRow_110 : decode cX7_layRow 110 = .ok (.getfield 19, 3) := by decide +kernel
theorem dX7_layRow_113 : decode cX7_layRow 113 = .ok (.iload 6, 2) := by decide +kernel
theorem dX7_layRow_115 : decode cX7_layRow 115 = .ok (.iconst 1, 1) := by decide +kernel
theorem dX7_layRow_116 : decode cX7_layRow 116 = .ok (.isub, 1) := by decide +kernel
theorem dX7_layRow_117 : decode cX7_layRow 117 = .ok (.iaload, 1) := by decide +kernel
theorem dX7_layRow_118 : decode cX7_layRow 118 = .ok (.imul, 1) := by decide +kernel
theorem dX7_layRow_119 : decode cX7_layRow 119 = .ok (.iconst 1, 1) := by decide +kernel
theorem dX7_layRow_120 : decode cX7_layRow 120 = .ok (.iadd, 1) := by decide +kernel
theorem dX7_layRow_121 : decode cX7_layRow 121 = .ok (.iaload, 1) := by decide +kernel
theorem dX7_layRow_122 : decode cX7_layRow 122 = .ok (.if_icmp .eq 7, 3) := by decide +kernel
theorem dX7_layRow_125 : decode cX7_layRow 125 = .ok (.iconst 1, 1) := by decide +kernel
theorem dX7_layRow_126 : decode cX7_layRow 126 = .ok (.goto 4, 3) := by decide +kernel
theorem dX7_layRow_129 : decode cX7_layRow 129 = .ok (.iconst 0, 1) := by decide +kernel
theorem dX7_layRow_130 : decode cX7_layRow 130 = .ok (.istore 5, 2) := by decide +kernel
theorem dX7_layRow_132 : decode cX7_layRow 132 = .ok (.iinc 6 1, 3) := by decide +kernel
theorem dX7_layRow_135 : decode cX7_layRow 135 = .ok (.goto (-61), 3) := by decide +kernel
theorem dX7_layRow_138 : decode cX7_layRow 138 = .ok (.iload 5, 2) := by decide +kernel
theorem dX7_layRow_140 : decode cX7_layRow 140 = .ok (.ireturn, 1) := by decide +kernel
set_option maxRecDepth 20000 in
theorem ggX7_partyOf_X7_ones : GoodIn wsX7_partyOf wsX7_ones := goodIn_r _ [8] (by decide +kernel) (by decide +kernel)
set_option maxRecDepth 20000 in
theorem gX7_partyOf_X7_ones : GoodIn wsX7_partyOf (va_wsS RX7 109 yX7_ones wsX7_ones) := goodIn_app (goodIn_of _ (by decide +kernel)) ggX7_partyOf_X7_ones
set_option maxRecDepth 20000 in
theorem ggX7_partyOf_X7_layRow : GoodIn wsX7_partyOf wsX7_layRow := goodIn_r _ [12, 1, 3, 2, 13, 17, 18, 19, 20, 21, 22, 23, 24, 25, 26, 27, 28, 29, 30, 31, 32, 33, 34, 35, 36, 37, 38, 39, 40, 41, 42, 43, 44, 45, 46] (by decide +kernel) (by decide +kernel)
set_option maxRecDepth 20000 in
theorem gX7_partyOf_X7_layRow : GoodIn wsX7_partyOf (wsV RX7 168 RX7 yX7_layRow wsX7_layRow) := goodIn_app (goodIn_of _ (by decide +kernel)) ggX7_partyOf_X7_layRow
set_option maxRecDepth 20000 in
theorem ggX7_partyOf_X7_copy : GoodIn wsX7_partyOf wsX7_copy := goodIn_r _ [16] (by decide +kernel) (by decide +kernel)
set_option maxRecDepth 20000 in
theorem gX7_partyOf_X7_copy : GoodIn wsX7_partyOf (va_wsS RX7 172 yX7_copy wsX7_copy) := goodIn_app (goodIn_of _ (by decide +kernel)) ggX7_partyOf_X7_copy
theorem dX7_partyOf_0 : decode cX7_partyOf 0 = .ok (.aload_n 0, 1) := by decide +kernel
theorem dX7_partyOf_1 : decode cX7_partyOf 1 = .ok (.iload_n 1, 1) := by decide +kernel
theorem dX7_partyOf_2 : decode cX7_partyOf 2 = .ok (.invokestatic 109, 3) := by decide +kernel
theorem dX7_partyOf_5 : decode cX7_partyOf 5 = .ok (.putfield 165, 3) := by decide +kernel
theorem dX7_partyOf_8 : decode cX7_partyOf 8 = .ok (.iconst 1, 1) := by decide +kernel
theorem dX7_partyOf_9 : decode cX7_partyOf 9 = .ok (.istore_n 3, 1) := by decide +kernel
theorem dX7_partyOf_10 : decode cX7_partyOf 10 = .ok (.iconst 0, 1) := by decide +kernel
theorem dX7_partyOf_11 : decode cX7_partyOf 11 = .ok (.istore 4, 2) := by decide +kernel
theorem dX7_partyOf_13 : decode cX7_partyOf 13 = .ok (.iload 4, 2) := by decide +kernel
theorem dX7_partyOf_15 : decode cX7_partyOf 15 = .ok (.aload_n 0, 1) := by decide +kernel
theorem dX7_partyOf_16 : decode cX7_partyOf 16 = .ok (.getfield 165, 3) := by decide +kernel
theorem dX7_partyOf_19 : decode cX7_partyOf 19 = .ok (.if_icmp .ge 16, 3) := by decide +kernel
theorem dX7_partyOf_22 : decode cX7_partyOf 22 = .ok (.iload_n 3, 1) := by decide +kernel
theorem dX7_partyOf_23 : decode cX7_partyOf 23 = .ok (.aload_n 0, 1) := by decide +kernel
theorem dX7_partyOf_24 : decode cX7_partyOf 24 = .ok (.getfield 73, 3) := by decide +kernel
theorem dX7_partyOf_27 : decode cX7_partyOf 27 = .ok (.imul, 1) := by decide +kernel
theorem dX7_partyOf_28 : decode cX7_partyOf 28 = .ok (.istore_n 3, 1) := by decide +kernel
theorem dX7_partyOf_29 : decode cX7_partyOf 29 = .ok (.iinc 4 1, 3) := by decide +kernel
theorem dX7_partyOf_32 : decode cX7_partyOf 32 = .ok (.goto (-19), 3) := by decide +kernel
theorem dX7_partyOf_35 : decode cX7_partyOf 35 = .ok (.iconst 0, 1) := by decide +kernel
theorem dX7_partyOf_36 : decode cX7_partyOf 36 = .ok (.istore 4, 2) := by decide +kernel
theorem dX7_partyOf_38 : decode cX7_partyOf 38 = .ok (.iconst 0, 1) := by decide +kernel
theorem dX7_partyOf_39 : decode cX7_partyOf 39 = .ok (.istore 5, 2) := by decide +kernel
theorem dX7_partyOf_41 : decode cX7_partyOf 41 = .ok (.iload 5, 2) := by decide +kernel
theorem dX7_partyOf_43 : decode cX7_partyOf 43 = .ok (.iload_n 3, 1) := by decide +kernel
theorem dX7_partyOf_44 : decode cX7_partyOf 44 = .ok (.if_icmp .ge 39, 3) := by decide +kernel
theorem dX7_partyOf_47 : decode cX7_partyOf 47 = .ok (.aload_n 0, 1) := by decide +kernel
theorem dX7_partyOf_48 : decode cX7_partyOf 48 = .ok (.iload_n 1, 1) := by decide +kernel
theorem dX7_partyOf_49 : decode cX7_partyOf 49 = .ok (.iload 5, 2) := by decide +kernel
theorem dX7_partyOf_51 : decode cX7_partyOf 51 = .ok (.invokevirtual 168, 3) := by decide +kernel
theorem dX7_partyOf_54 : decode cX7_partyOf 54 = .ok (.ifCond .eq 23, 3) := by decide +kernel
theorem dX7_partyOf_57 : decode cX7_partyOf 57 = .ok (.iinc 4 1, 3) := by decide +kernel
theorem dX7_partyOf_60 : decode cX7_partyOf 60 = .ok (.iload 4, 2) := by decide +kernel
theorem dX7_partyOf_62 : decode cX7_partyOf 62 = .ok (.iconst 1, 1) := by decide +kernel
theorem dX7_partyOf_63 : decode cX7_partyOf 63 = .ok (.if_icmp .ne 14, 3) := by decide +kernel
theorem dX7_partyOf_66 : decode cX7_partyOf 66 = .ok (.aload_n 0, 1) := by decide +kernel
theorem dX7_partyOf_67 : decode cX7_partyOf 67 = .ok (.getfield 19, 3) := by decide +kernel
theorem dX7_partyOf_70 : decode cX7_partyOf 70 = .ok (.aload_n 0, 1) := by decide +kernel
theorem dX7_partyOf_71 : decode cX7_partyOf 71 = .ok (.getfield 22, 3) := by decide +kernel
theorem dX7_partyOf_74 : decode cX7_partyOf 74 = .ok (.invokestatic 172, 3) := by decide +kernel
theorem dX7_partyOf_77 : decode cX7_partyOf 77 = .ok (.iinc 5 1, 3) := by decide +kernel
theorem dX7_partyOf_80 : decode cX7_partyOf 80 = .ok (.goto (-39), 3) := by decide +kernel
theorem dX7_partyOf_83 : decode cX7_partyOf 83 = .ok (.iload_n 2, 1) := by decide +kernel
theorem dX7_partyOf_84 : decode cX7_partyOf 84 = .ok (.ifCond .ne 6, 3) := by decide +kernel
theorem dX7_partyOf_87 : decode cX7_partyOf 87 = .ok (.iload 4, 2) := by decide +kernel
theorem dX7_partyOf_89 : decode cX7_partyOf 89 = .ok (.ireturn, 1) := by decide +kernel
theorem dX7_partyOf_90 : decode cX7_partyOf 90 = .ok (.iload 4, 2) := by decide +kernel
theorem dX7_partyOf_92 : decode cX7_partyOf 92 = .ok (.ifCond .eq 14, 3) := by decide +kernel
theorem dX7_partyOf_95 : decode cX7_partyOf 95 = .ok (.iload_n 2, 1) := by decide +kernel
theorem dX7_partyOf_96 : decode cX7_partyOf 96 = .ok (.bipush 10, 2) := by decide +kernel
theorem dX7_partyOf_98 : decode cX7_partyOf 98 = .ok (.isub, 1) := by decide +kernel
theorem dX7_partyOf_99 : decode cX7_partyOf 99 = .ok (.aload_n 0, 1) := by decide +kernel
theorem dX7_partyOf_100 : decode cX7_partyOf 100 = .ok (.getfield 165, 3) := by decide +kernel
theorem dX7_partyOf_103 : decode cX7_partyOf 103 = .ok (.if_icmp .lt 7, 3) := by decide +kernel
theorem dX7_partyOf_106 : decode cX7_partyOf 106 = .ok (.iconst (-1), 1) := by decide +kernel
theorem dX7_partyOf_107 : decode cX7_partyOf 107 = .ok (.goto 12, 3) := by decide +kernel
theorem dX7_partyOf_110 : decode cX7_partyOf 110 = .ok (.aload_n 0, 1) := by decide +kernel
theorem dX7_partyOf_111 : decode cX7_partyOf 111 = .ok (.getfield 22, 3) := by decide +kernel
theorem dX7_partyOf_114 : decode cX7_partyOf 114 = .ok (.iload_n 2, 1) := by decide +kernel
theorem dX7_partyOf_115 : decode cX7_partyOf 115 = .ok (.bipush 10, 2) := by decide +kernel
theorem dX7_partyOf_117 : decode cX7_partyOf 117 = .ok (.isub, 1) := by decide +kernel
theorem dX7_partyOf_118 : decode cX7_partyOf 118 = .ok (.iaload, 1) := by decide +kernel
theorem dX7_partyOf_119 : decode cX7_partyOf 119 = .ok (.ireturn, 1) := by decide +kernel
set_option maxRecDepth 20000 in
theorem ggX7_party_X7_all : GoodIn wsX7_party wsX7_all := goodIn_r _ [7, 8, 34, 35, 36, 37, 38, 39, 40, 41, 42, 43, 44, 45, 46, 47, 48, 49, 50, 51, 52, 53, 54, 55, 56, 57, 58, 59, 60, 61, 62, 63] (by decide +kernel) (by decide +kernel)
set_option maxRecDepth 20000 in
theorem gX7_party_X7_all : GoodIn wsX7_party (wsV RX7 79 RX7 yX7_all wsX7_all) := goodIn_app (goodIn_of _ (by decide +kernel)) ggX7_party_X7_all
set_option maxRecDepth 20000 in
theorem ggX7_party_X7_in : GoodIn wsX7_party wsX7_in := goodIn_r _ [11] (by decide +kernel) (by decide +kernel)
set_option maxRecDepth 20000 in
theorem gX7_party_X7_in : GoodIn wsX7_party (va_wsS RX7 43 yX7_in wsX7_in) := goodIn_app (goodIn_of _ (by decide +kernel)) ggX7_party_X7_in
set_option maxRecDepth 20000 in
theorem ggX7_party_X7_lacks : GoodIn wsX7_party wsX7_lacks := goodIn_r _ [15, 8, 34, 35, 36, 37, 38, 39, 40, 41, 42, 43, 44, 45, 46, 47, 48, 49, 50, 51, 52, 53, 54, 55, 56, 57, 58, 59, 60, 61, 62, 63] (by decide +kernel) (by decide +kernel)
set_option maxRecDepth 20000 in
theorem gX7_party_X7_lacks : GoodIn wsX7_party (wsV RX7 140 RX7 yX7_lacks wsX7_lacks) := goodIn_app (goodIn_of _ (by decide +kernel)) ggX7_party_X7_lacks
set_option maxRecDepth 20000 in
theorem ggX7_party_X7_partyOf : GoodIn wsX7_party wsX7_partyOf := goodIn_r _ [19, 20, 8, 21, 22, 23, 24, 6, 25, 26, 27, 28, 29, 30, 31, 32, 33, 34, 35, 36, 37, 38, 39, 40, 41, 42, 43, 44, 45, 46, 47, 48, 49, 50, 51, 52, 53, 54, 55, 56, 57, 58, 59, 60, 61, 62, 63] (by decide +kernel) (by decide +kernel)
set_option maxRecDepth 20000 in
theorem gX7_party_X7_partyOf : GoodIn wsX7_party (wsV RX7 180 RX7 yX7_partyOf wsX7_partyOf) := goodIn_app (goodIn_of _ (by decide +kernel)) ggX7_party_X7_partyOf
theorem dX7_party_0 : decode cX7_party 0 = .ok (.iload_n 1, 1) := by decide +kernel
theorem dX7_party_1 : decode cX7_party 1 = .ok (.i2l, 1) := by decide +kernel
theorem dX7_party_2 : decode cX7_party 2 = .ok (.lconst 0, 1) := by decide +kernel
theorem dX7_party_3 : decode cX7_party 3 = .ok (.aload_n 0, 1) := by decide +kernel
theorem dX7_party_4 : decode cX7_party 4 = .ok (.invokevirtual 79, 3) := by decide +kernel
theorem dX7_party_7 : decode cX7_party 7 = .ok (.i2l, 1) := by decide +kernel
theorem dX7_party_8 : decode cX7_party 8 = .ok (.invokestatic 43, 3) := by decide +kernel
theorem dX7_party_11 : decode cX7_party 11 = .ok (.ifCond .eq 21, 3) := by decide +kernel
theorem dX7_party_14 : decode cX7_party 14 = .ok (.iload_n 2, 1) := by decide +kernel
theorem dX7_party_15 : decode cX7_party 15 = .ok (.ifCond .eq 20, 3) := by decide +kernel
theorem dX7_party_18 : decode cX7_party 18 = .ok (.iload_n 2, 1) := by decide +kernel
theorem dX7_party_19 : decode cX7_party 19 = .ok (.i2l, 1) := by decide +kernel
theorem dX7_party_20 : decode cX7_party 20 = .ok (.ldc2_w 176, 3) := by decide +kernel
theorem dX7_party_23 : decode cX7_party 23 = .ok (.ldc2_w 178, 3) := by decide +kernel
theorem dX7_party_26 : decode cX7_party 26 = .ok (.invokestatic 43, 3) := by decide +kernel
theorem dX7_party_29 : decode cX7_party 29 = .ok (.ifCond .ne 6, 3) := by decide +kernel
theorem dX7_party_32 : decode cX7_party 32 = .ok (.bipush (-102), 2) := by decide +kernel
theorem dX7_party_34 : decode cX7_party 34 = .ok (.ireturn, 1) := by decide +kernel
theorem dX7_party_35 : decode cX7_party 35 = .ok (.aload_n 0, 1) := by decide +kernel
theorem dX7_party_36 : decode cX7_party 36 = .ok (.invokevirtual 140, 3) := by decide +kernel
theorem dX7_party_39 : decode cX7_party 39 = .ok (.ifCond .eq 8, 3) := by decide +kernel
theorem dX7_party_42 : decode cX7_party 42 = .ok (.bipush (-103), 2) := by decide +kernel
theorem dX7_party_44 : decode cX7_party 44 = .ok (.goto 9, 3) := by decide +kernel
theorem dX7_party_47 : decode cX7_party 47 = .ok (.aload_n 0, 1) := by decide +kernel
theorem dX7_party_48 : decode cX7_party 48 = .ok (.iload_n 1, 1) := by decide +kernel
theorem dX7_party_49 : decode cX7_party 49 = .ok (.iload_n 2, 1) := by decide +kernel
theorem dX7_party_50 : decode cX7_party 50 = .ok (.invokevirtual 180, 3) := by decide +kernel
theorem dX7_party_53 : decode cX7_party 53 = .ok (.ireturn, 1) := by decide +kernel
set_option maxRecDepth 20000 in
theorem ggX7_hear_X7_isSong : GoodIn wsX7_hear wsX7_isSong := goodIn_r _ [7, 8, 9, 10, 6, 11, 12, 13, 14, 15, 16, 17, 18, 19, 20, 21, 22, 23, 24, 25, 26, 27, 28, 29, 30, 31, 32, 33, 34, 35, 36, 37, 38, 39, 40, 41] (by decide +kernel) (by decide +kernel)
set_option maxRecDepth 20000 in
theorem gX7_hear_X7_isSong : GoodIn wsX7_hear (wsV RX7 132 RX7 yX7_isSong wsX7_isSong) := goodIn_app (goodIn_of _ (by decide +kernel)) ggX7_hear_X7_isSong
theorem dX7_hear_0 : decode cX7_hear 0 = .ok (.aload_n 0, 1) := by decide +kernel
theorem dX7_hear_1 : decode cX7_hear 1 = .ok (.iload_n 1, 1) := by decide +kernel
theorem dX7_hear_2 : decode cX7_hear 2 = .ok (.invokevirtual 132, 3) := by decide +kernel
theorem dX7_hear_5 : decode cX7_hear 5 = .ok (.ifCond .ne 6, 3) := by decide +kernel
theorem dX7_hear_8 : decode cX7_hear 8 = .ok (.bipush (-101), 2) := by decide +kernel
theorem dX7_hear_10 : decode cX7_hear 10 = .ok (.ireturn, 1) := by decide +kernel
theorem dX7_hear_11 : decode cX7_hear 11 = .ok (.aload_n 0, 1) := by decide +kernel
theorem dX7_hear_12 : decode cX7_hear 12 = .ok (.getfield 89, 3) := by decide +kernel
theorem dX7_hear_15 : decode cX7_hear 15 = .ok (.bipush 8, 2) := by decide +kernel
theorem dX7_hear_17 : decode cX7_hear 17 = .ok (.if_icmp .ne 6, 3) := by decide +kernel
theorem dX7_hear_20 : decode cX7_hear 20 = .ok (.bipush (-104), 2) := by decide +kernel
theorem dX7_hear_22 : decode cX7_hear 22 = .ok (.ireturn, 1) := by decide +kernel
theorem dX7_hear_23 : decode cX7_hear 23 = .ok (.aload_n 0, 1) := by decide +kernel
theorem dX7_hear_24 : decode cX7_hear 24 = .ok (.getfield 25, 3) := by decide +kernel
theorem dX7_hear_27 : decode cX7_hear 27 = .ok (.aload_n 0, 1) := by decide +kernel
theorem dX7_hear_28 : decode cX7_hear 28 = .ok (.getfield 89, 3) := by decide +kernel
theorem dX7_hear_31 : decode cX7_hear 31 = .ok (.iload_n 1, 1) := by decide +kernel
theorem dX7_hear_32 : decode cX7_hear 32 = .ok (.iastore, 1) := by decide +kernel
theorem dX7_hear_33 : decode cX7_hear 33 = .ok (.aload_n 0, 1) := by decide +kernel
theorem dX7_hear_34 : decode cX7_hear 34 = .ok (.dup, 1) := by decide +kernel
theorem dX7_hear_35 : decode cX7_hear 35 = .ok (.getfield 89, 3) := by decide +kernel
theorem dX7_hear_38 : decode cX7_hear 38 = .ok (.iconst 1, 1) := by decide +kernel
theorem dX7_hear_39 : decode cX7_hear 39 = .ok (.iadd, 1) := by decide +kernel
theorem dX7_hear_40 : decode cX7_hear 40 = .ok (.putfield 89, 3) := by decide +kernel
theorem dX7_hear_43 : decode cX7_hear 43 = .ok (.aload_n 0, 1) := by decide +kernel
theorem dX7_hear_44 : decode cX7_hear 44 = .ok (.getfield 89, 3) := by decide +kernel
theorem dX7_hear_47 : decode cX7_hear 47 = .ok (.ireturn, 1) := by decide +kernel
theorem dX7_forget_0 : decode cX7_forget 0 = .ok (.aload_n 0, 1) := by decide +kernel
theorem dX7_forget_1 : decode cX7_forget 1 = .ok (.getfield 89, 3) := by decide +kernel
theorem dX7_forget_4 : decode cX7_forget 4 = .ok (.istore_n 1, 1) := by decide +kernel
theorem dX7_forget_5 : decode cX7_forget 5 = .ok (.aload_n 0, 1) := by decide +kernel
theorem dX7_forget_6 : decode cX7_forget 6 = .ok (.iconst 0, 1) := by decide +kernel
theorem dX7_forget_7 : decode cX7_forget 7 = .ok (.putfield 89, 3) := by decide +kernel
theorem dX7_forget_10 : decode cX7_forget 10 = .ok (.iload_n 1, 1) := by decide +kernel
theorem dX7_forget_11 : decode cX7_forget 11 = .ok (.ireturn, 1) := by decide +kernel
set_option maxRecDepth 20000 in
theorem ggX7_layHeard_X7_all : GoodIn wsX7_layHeard wsX7_all := goodIn_r _ [9, 10, 32, 33, 34, 35, 36, 37, 38, 39, 40, 41, 42, 43, 44, 45, 46, 47, 48, 49, 50, 51, 52, 53, 54, 55, 56, 57, 58, 59, 60, 61] (by decide +kernel) (by decide +kernel)
set_option maxRecDepth 20000 in
theorem gX7_layHeard_X7_all : GoodIn wsX7_layHeard (wsV RX7 79 RX7 yX7_all wsX7_all) := goodIn_app (goodIn_of _ (by decide +kernel)) ggX7_layHeard_X7_all
set_option maxRecDepth 20000 in
theorem ggX7_layHeard_X7_mayBy : GoodIn wsX7_layHeard wsX7_mayBy := goodIn_r _ [14, 10, 15, 5, 6, 7, 8, 9, 32, 33, 34, 35, 36, 37, 38, 39, 40, 41, 42, 43, 44, 45, 46, 47, 48, 49, 50, 51, 52, 53, 54, 55, 56, 57, 58, 59, 60, 61] (by decide +kernel) (by decide +kernel)
set_option maxRecDepth 20000 in
theorem gX7_layHeard_X7_mayBy : GoodIn wsX7_layHeard (wsV RX7 98 RX7 yX7_mayBy wsX7_mayBy) := goodIn_app (goodIn_of _ (by decide +kernel)) ggX7_layHeard_X7_mayBy
set_option maxRecDepth 20000 in
theorem ggX7_layHeard_X7_baseOf : GoodIn wsX7_layHeard wsX7_baseOf := goodIn_r _ [19, 15, 32, 33, 34, 35, 36, 37, 38, 39, 40, 41, 42, 43, 44, 45, 46, 47, 48, 49, 50, 51, 52, 53, 54, 55, 56, 57, 58, 59, 60, 61] (by decide +kernel) (by decide +kernel)
set_option maxRecDepth 20000 in
theorem gX7_layHeard_X7_baseOf : GoodIn wsX7_layHeard (wsV RX7 95 RX7 yX7_baseOf wsX7_baseOf) := goodIn_app (goodIn_of _ (by decide +kernel)) ggX7_layHeard_X7_baseOf
set_option maxRecDepth 20000 in
theorem ggX7_layHeard_X7_sumOf : GoodIn wsX7_layHeard wsX7_sumOf := goodIn_r _ [23, 10, 16, 17, 18, 8, 19, 15, 24, 25, 26, 27, 32, 33, 34, 35, 36, 37, 38, 39, 40, 41, 42, 43, 44, 45, 46, 47, 48, 49, 50, 51, 52, 53, 54, 55, 56, 57, 58, 59, 60, 61] (by decide +kernel) (by decide +kernel)
set_option maxRecDepth 20000 in
theorem gX7_layHeard_X7_sumOf : GoodIn wsX7_layHeard (wsV RX7 105 RX7 yX7_sumOf wsX7_sumOf) := goodIn_app (goodIn_of _ (by decide +kernel)) ggX7_layHeard_X7_sumOf
set_option maxRecDepth 20000 in
theorem ggX7_layHeard_X7_bagBehind : GoodIn wsX7_layHeard wsX7_bagBehind := goodIn_r _ [31, 5, 6, 7, 8, 9, 10, 32, 33, 34, 35, 36, 37, 38, 39, 40, 41, 42, 43, 44, 45, 46, 47, 48, 49, 50, 51, 52, 53, 54, 55, 56, 57, 58, 59, 60, 61] (by decide +kernel) (by decide +kernel)
set_option maxRecDepth 20000 in
theorem gX7_layHeard_X7_bagBehind : GoodIn wsX7_layHeard (wsV RX7 144 RX7 yX7_bagBehind wsX7_bagBehind) := goodIn_app (goodIn_of _ (by decide +kernel)) ggX7_layHeard_X7_bagBehind
theorem dX7_layHeard_0 : decode cX7_layHeard 0 = .ok (.aload_n 0, 1) := by decide +kernel
theorem dX7_layHeard_1 : decode cX7_layHeard 1 = .ok (.lconst 1, 1) := by decide +kernel
theorem dX7_layHeard_2 : decode cX7_layHeard 2 = .ok (.putfield 183, 3) := by decide +kernel
theorem dX7_layHeard_5 : decode cX7_layHeard 5 = .ok (.aload_n 0, 1) := by decide +kernel
theorem dX7_layHeard_6 : decode cX7_layHeard 6 = .ok (.lconst 1, 1) := by decide +kernel
theorem dX7_layHeard_7 : decode cX7_layHeard 7 = .ok (.putfield 187, 3) := by decide +kernel
theorem dX7_layHeard_10 : decode cX7_layHeard 10 = .ok (.aload_n 0, 1) := by decide +kernel
theorem dX7_layHeard_11 : decode cX7_layHeard 11 = .ok (.invokevirtual 79, 3) := by decide +kernel
theorem dX7_layHeard_14 : decode cX7_layHeard 14 = .ok (.istore_n 2, 1) := by decide +kernel
theorem dX7_layHeard_15 : decode cX7_layHeard 15 = .ok (.iconst (-1), 1) := by decide +kernel
theorem dX7_layHeard_16 : decode cX7_layHeard 16 = .ok (.istore_n 3, 1) := by decide +kernel
theorem dX7_layHeard_17 : decode cX7_layHeard 17 = .ok (.iconst 0, 1) := by decide +kernel
theorem dX7_layHeard_18 : decode cX7_layHeard 18 = .ok (.istore 4, 2) := by decide +kernel
theorem dX7_layHeard_20 : decode cX7_layHeard 20 = .ok (.iload 4, 2) := by decide +kernel
theorem dX7_layHeard_22 : decode cX7_layHeard 22 = .ok (.aload_n 0, 1) := by decide +kernel
theorem dX7_layHeard_23 : decode cX7_layHeard 23 = .ok (.getfield 89, 3) := by decide +kernel
theorem dX7_layHeard_26 : decode cX7_layHeard 26 = .ok (.if_icmp .ge 79, 3) := by decide +kernel
theorem dX7_layHeard_29 : decode cX7_layHeard 29 = .ok (.aload_n 0, 1) := by decide +kernel
theorem dX7_layHeard_30 : decode cX7_layHeard 30 = .ok (.getfield 25, 3) := by decide +kernel
theorem dX7_layHeard_33 : decode cX7_layHeard 33 = .ok (.iload 4, 2) := by decide +kernel
theorem dX7_layHeard_35 : decode cX7_layHeard 35 = .ok (.iaload, 1) := by decide +kernel
theorem dX7_layHeard_36 : decode cX7_layHeard 36 = .ok (.istore 5, 2) := by decide +kernel
theorem dX7_layHeard_38 : decode cX7_layHeard 38 = .ok (.aload_n 0, 1) := by decide +kernel
theorem dX7_layHeard_39 : decode cX7_layHeard 39 = .ok (.iload_n 1, 1) := by decide +kernel
theorem dX7_layHeard_40 : decode cX7_layHeard 40 = .ok (.iload_n 2, 1) := by decide +kernel
theorem dX7_layHeard_41 : decode cX7_layHeard 41 = .ok (.iload_n 3, 1) := by decide +kernel
theorem dX7_layHeard_42 : decode cX7_layHeard 42 = .ok (.invokevirtual 98, 3) := by decide +kernel
theorem dX7_layHeard_45 : decode cX7_layHeard 45 = .ok (.istore 6, 2) := by decide +kernel
theorem dX7_layHeard_47 : decode cX7_layHeard 47 = .ok (.aload_n 0, 1) := by decide +kernel
theorem dX7_layHeard_48 : decode cX7_layHeard 48 = .ok (.dup, 1) := by decide +kernel
theorem dX7_layHeard_49 : decode cX7_layHeard 49 = .ok (.getfield 183, 3) := by decide +kernel
theorem dX7_layHeard_52 : decode cX7_layHeard 52 = .ok (.iload 6, 2) := by decide +kernel
theorem dX7_layHeard_54 : decode cX7_layHeard 54 = .ok (.iload 5, 2) := by decide +kernel
theorem dX7_layHeard_56 : decode cX7_layHeard 56 = .ok (.ishr, 1) := by decide +kernel
theorem dX7_layHeard_57 : decode cX7_layHeard 57 = .ok (.iconst 1, 1) := by decide +kernel
theorem dX7_layHeard_58 : decode cX7_layHeard 58 = .ok (.iand, 1) := by decide +kernel
theorem dX7_layHeard_59 : decode cX7_layHeard 59 = .ok (.aload_n 0, 1) := by decide +kernel
theorem dX7_layHeard_60 : decode cX7_layHeard 60 = .ok (.iload 5, 2) := by decide +kernel
theorem dX7_layHeard_62 : decode cX7_layHeard 62 = .ok (.invokevirtual 95, 3) := by decide +kernel
theorem dX7_layHeard_65 : decode cX7_layHeard 65 = .ok (.imul, 1) := by decide +kernel
theorem dX7_layHeard_66 : decode cX7_layHeard 66 = .ok (.i2l, 1) := by decide +kernel
theorem dX7_layHeard_67 : decode cX7_layHeard 67 = .ok (.lmul, 1) := by decide +kernel
theorem dX7_layHeard_68 : decode cX7_layHeard 68 = .ok (.putfield 183, 3) := by decide +kernel
theorem dX7_layHeard_71 : decode cX7_layHeard 71 = .ok (.aload_n 0, 1) := by decide +kernel
theorem dX7_layHeard_72 : decode cX7_layHeard 72 = .ok (.dup, 1) := by decide +kernel
theorem dX7_layHeard_73 : decode cX7_layHeard 73 = .ok (.getfield 187, 3) := by decide +kernel
theorem dX7_layHeard_76 : decode cX7_layHeard 76 = .ok (.aload_n 0, 1) := by decide +kernel
theorem dX7_layHeard_77 : decode cX7_layHeard 77 = .ok (.iload 6, 2) := by decide +kernel
theorem dX7_layHeard_79 : decode cX7_layHeard 79 = .ok (.iconst 1, 1) := by decide +kernel
theorem dX7_layHeard_80 : decode cX7_layHeard 80 = .ok (.invokevirtual 105, 3) := by decide +kernel
theorem dX7_layHeard_83 : decode cX7_layHeard 83 = .ok (.i2l, 1) := by decide +kernel
theorem dX7_layHeard_84 : decode cX7_layHeard 84 = .ok (.lmul, 1) := by decide +kernel
theorem dX7_layHeard_85 : decode cX7_layHeard 85 = .ok (.putfield 187, 3) := by decide +kernel
theorem dX7_layHeard_88 : decode cX7_layHeard 88 = .ok (.aload_n 0, 1) := by decide +kernel
theorem dX7_layHeard_89 : decode cX7_layHeard 89 = .ok (.iload_n 2, 1) := by decide +kernel
theorem dX7_layHeard_90 : decode cX7_layHeard 90 = .ok (.iload 5, 2) := by decide +kernel
theorem dX7_layHeard_92 : decode cX7_layHeard 92 = .ok (.invokevirtual 144, 3) := by decide +kernel
theorem dX7_layHeard_95 : decode cX7_layHeard 95 = .ok (.istore_n 2, 1) := by decide +kernel
theorem dX7_layHeard_96 : decode cX7_layHeard 96 = .ok (.iload 5, 2) := by decide +kernel
theorem dX7_layHeard_98 : decode cX7_layHeard 98 = .ok (.istore_n 3, 1) := by decide +kernel
theorem dX7_layHeard_99 : decode cX7_layHeard 99 = .ok (.iinc 4 1, 3) := by decide +kernel
theorem dX7_layHeard_102 : decode cX7_layHeard 102 = .ok (.goto (-82), 3) := by decide +kernel
theorem dX7_layHeard_105 : decode cX7_layHeard 105 = .ok (.return_, 1) := by decide +kernel
set_option maxRecDepth 20000 in
theorem ggX7_rulesOf_X7_layHeard : GoodIn wsX7_rulesOf wsX7_layHeard := goodIn_r _ [6, 1, 7, 8, 9, 10, 11, 12, 5, 13, 14, 15, 16, 17, 18, 19, 20, 21, 22, 23, 24, 25, 26, 27, 28, 29, 30, 31, 32, 33, 34, 35, 36, 37, 38, 39, 40, 41, 42, 43, 44, 45, 46, 47, 48, 49, 50, 51, 52, 53, 54, 55, 56, 57, 58, 59, 60, 61, 62, 63, 64, 65] (by decide +kernel) (by decide +kernel)
set_option maxRecDepth 20000 in
theorem gX7_rulesOf_X7_layHeard : GoodIn wsX7_rulesOf (wsV RX7 190 RX7 yX7_layHeard wsX7_layHeard) := goodIn_app (goodIn_of _ (by decide +kernel)) ggX7_rulesOf_X7_layHeard
theorem dX7_rulesOf_0 : decode cX7_rulesOf 0 = .ok (.iconst 0, 1) := by decide +kernel
theorem dX7_rulesOf_1 : decode cX7_rulesOf 1 = .ok (.istore_n 1, 1) := by decide +kernel
theorem dX7_rulesOf_2 : decode cX7_rulesOf 2 = .ok (.iconst 0, 1) := by decide +kernel
theorem dX7_rulesOf_3 : decode cX7_rulesOf 3 = .ok (.istore_n 2, 1) := by decide +kernel
theorem dX7_rulesOf_4 : decode cX7_rulesOf 4 = .ok (.iload_n 2, 1) := by decide +kernel
theorem dX7_rulesOf_5 : decode cX7_rulesOf 5 = .ok (.iconst 4, 1) := by decide +kernel
theorem dX7_rulesOf_6 : decode cX7_rulesOf 6 = .ok (.if_icmp .ge 33, 3) := by decide +kernel
theorem dX7_rulesOf_9 : decode cX7_rulesOf 9 = .ok (.aload_n 0, 1) := by decide +kernel
theorem dX7_rulesOf_10 : decode cX7_rulesOf 10 = .ok (.iload_n 2, 1) := by decide +kernel
theorem dX7_rulesOf_11 : decode cX7_rulesOf 11 = .ok (.invokevirtual 190, 3) := by decide +kernel
theorem dX7_rulesOf_14 : decode cX7_rulesOf 14 = .ok (.iload_n 1, 1) := by decide +kernel
theorem dX7_rulesOf_15 : decode cX7_rulesOf 15 = .ok (.aload_n 0, 1) := by decide +kernel
theorem dX7_rulesOf_16 : decode cX7_rulesOf 16 = .ok (.getfield 183, 3) := by decide +kernel
theorem dX7_rulesOf_19 : decode cX7_rulesOf 19 = .ok (.lconst 0, 1) := by decide +kernel
theorem dX7_rulesOf_20 : decode cX7_rulesOf 20 = .ok (.lcmp, 1) := by decide +kernel
theorem dX7_rulesOf_21 : decode cX7_rulesOf 21 = .ok (.ifCond .le 9, 3) := by decide +kernel
theorem dX7_rulesOf_24 : decode cX7_rulesOf 24 = .ok (.iconst 1, 1) := by decide +kernel
theorem dX7_rulesOf_25 : decode cX7_rulesOf 25 = .ok (.iload_n 2, 1) := by decide +kernel
theorem dX7_rulesOf_26 : decode cX7_rulesOf 26 = .ok (.ishl, 1) := by decide +kernel
theorem dX7_rulesOf_27 : decode cX7_rulesOf 27 = .ok (.goto 4, 3) := by decide +kernel
theorem dX7_rulesOf_30 : decode cX7_rulesOf 30 = .ok (.iconst 0, 1) := by decide +kernel
theorem dX7_rulesOf_31 : decode cX7_rulesOf 31 = .ok (.ior, 1) := by decide +kernel
theorem dX7_rulesOf_32 : decode cX7_rulesOf 32 = .ok (.istore_n 1, 1) := by decide +kernel
theorem dX7_rulesOf_33 : decode cX7_rulesOf 33 = .ok (.iinc 2 1, 3) := by decide +kernel
theorem dX7_rulesOf_36 : decode cX7_rulesOf 36 = .ok (.goto (-32), 3) := by decide +kernel
theorem dX7_rulesOf_39 : decode cX7_rulesOf 39 = .ok (.iload_n 1, 1) := by decide +kernel
theorem dX7_rulesOf_40 : decode cX7_rulesOf 40 = .ok (.ireturn, 1) := by decide +kernel
set_option maxRecDepth 20000 in
theorem ggX7_rules_X7_lacks : GoodIn wsX7_rules wsX7_lacks := goodIn_r _ [5, 6, 44, 45, 46, 47, 48, 49, 50, 51, 52, 53, 54, 55, 56, 57, 58, 59, 60, 61, 62, 63, 64, 65, 66, 67, 68, 69, 70, 71, 72, 73] (by decide +kernel) (by decide +kernel)
set_option maxRecDepth 20000 in
theorem gX7_rules_X7_lacks : GoodIn wsX7_rules (wsV RX7 140 RX7 yX7_lacks wsX7_lacks) := goodIn_app (goodIn_of _ (by decide +kernel)) ggX7_rules_X7_lacks
set_option maxRecDepth 20000 in
theorem ggX7_rules_X7_rulesOf : GoodIn wsX7_rules wsX7_rulesOf := goodIn_r _ [10, 11, 12, 13, 14, 4, 15, 16, 17, 18, 19, 20, 21, 22, 6, 23, 24, 25, 26, 27, 28, 29, 30, 31, 32, 33, 34, 35, 36, 37, 38, 39, 40, 41, 42, 43, 44, 45, 46, 47, 48, 49, 50, 51, 52, 53, 54, 55, 56, 57, 58, 59, 60, 61, 62, 63, 64, 65, 66, 67, 68, 69, 70, 71, 72, 73] (by decide +kernel) (by decide +kernel)
set_option maxRecDepth 20000 in
theorem gX7_rules_X7_rulesOf : GoodIn wsX7_rules (wsV RX7 194 RX7 yX7_rulesOf wsX7_rulesOf) := goodIn_app (goodIn_of _ (by decide +kernel)) ggX7_rules_X7_rulesOf
theorem dX7_rules_0 : decode cX7_rules 0 = .ok (.aload_n 0, 1) := by decide +kernel
theorem dX7_rules_1 : decode cX7_rules 1 = .ok (.invokevirtual 140, 3) := by decide +kernel
theorem dX7_rules_4 : decode cX7_rules 4 = .ok (.ifCond .eq 8, 3) := by decide +kernel
theorem dX7_rules_7 : decode cX7_rules 7 = .ok (.bipush (-103), 2) := by decide +kernel
theorem dX7_rules_9 : decode cX7_rules 9 = .ok (.goto 7, 3) := by decide +kernel
theorem dX7_rules_12 : decode cX7_rules 12 = .ok (.aload_n 0, 1) := by decide +kernel
theorem dX7_rules_13 : decode cX7_rules 13 = .ok (.invokevirtual 194, 3) := by decide +kernel
theorem dX7_rules_16 : decode cX7_rules 16 = .ok (.ireturn, 1) := by decide +kernel
set_option maxRecDepth 20000 in
theorem ggX7_likelyOf_X7_layHeard : GoodIn wsX7_likelyOf wsX7_layHeard := goodIn_r _ [7, 1, 2, 8, 9, 10, 11, 12, 6, 13, 14, 15, 16, 17, 18, 19, 20, 21, 22, 23, 24, 25, 26, 27, 28, 29, 30, 31, 32, 33, 34, 35, 36, 37, 38, 39, 40, 41, 42, 43, 44, 45, 46, 47, 48, 49, 50, 51, 52, 53, 54, 55, 56, 57, 58, 59, 60, 61, 62, 63, 64, 65] (by decide +kernel) (by decide +kernel)
set_option maxRecDepth 20000 in
theorem gX7_likelyOf_X7_layHeard : GoodIn wsX7_likelyOf (wsV RX7 190 RX7 yX7_layHeard wsX7_layHeard) := goodIn_app (goodIn_of _ (by decide +kernel)) ggX7_likelyOf_X7_layHeard
theorem dX7_likelyOf_0 : decode cX7_likelyOf 0 = .ok (.iconst (-1), 1) := by decide +kernel
theorem dX7_likelyOf_1 : decode cX7_likelyOf 1 = .ok (.istore_n 1, 1) := by decide +kernel
theorem dX7_likelyOf_2 : decode cX7_likelyOf 2 = .ok (.lconst 0, 1) := by decide +kernel
theorem dX7_likelyOf_3 : decode cX7_likelyOf 3 = .ok (.lstore_n 2, 1) := by decide +kernel
theorem dX7_likelyOf_4 : decode cX7_likelyOf 4 = .ok (.lconst 1, 1) := by decide +kernel
theorem dX7_likelyOf_5 : decode cX7_likelyOf 5 = .ok (.lstore 4, 2) := by decide +kernel
theorem dX7_likelyOf_7 : decode cX7_likelyOf 7 = .ok (.iconst 0, 1) := by decide +kernel
theorem dX7_likelyOf_8 : decode cX7_likelyOf 8 = .ok (.istore 6, 2) := by decide +kernel
theorem dX7_likelyOf_10 : decode cX7_likelyOf 10 = .ok (.iload 6, 2) := by decide +kernel
theorem dX7_likelyOf_12 : decode cX7_likelyOf 12 = .ok (.iconst 4, 1) := by decide +kernel
theorem dX7_likelyOf_13 : decode cX7_likelyOf 13 = .ok (.if_icmp .ge 46, 3) := by decide +kernel
theorem dX7_likelyOf_16 : decode cX7_likelyOf 16 = .ok (.aload_n 0, 1) := by decide +kernel
theorem dX7_likelyOf_17 : decode cX7_likelyOf 17 = .ok (.iload 6, 2) := by decide +kernel
theorem dX7_likelyOf_19 : decode cX7_likelyOf 19 = .ok (.invokevirtual 190, 3) := by decide +kernel
theorem dX7_likelyOf_22 : decode cX7_likelyOf 22 = .ok (.aload_n 0, 1) := by decide +kernel
theorem dX7_likelyOf_23 : decode cX7_likelyOf 23 = .ok (.getfield 183, 3) := by decide +kernel
theorem dX7_likelyOf_26 : decode cX7_likelyOf 26 = .ok (.lload 4, 2) := by decide +kernel
theorem dX7_likelyOf_28 : decode cX7_likelyOf 28 = .ok (.lmul, 1) := by decide +kernel
theorem dX7_likelyOf_29 : decode cX7_likelyOf 29 = .ok (.lload_n 2, 1) := by decide +kernel
theorem dX7_likelyOf_30 : decode cX7_likelyOf 30 = .ok (.aload_n 0, 1) := by decide +kernel
theorem dX7_likelyOf_31 : decode cX7_likelyOf 31 = .ok (.getfield 187, 3) := by decide +kernel
theorem dX7_likelyOf_34 : decode cX7_likelyOf 34 = .ok (.lmul, 1) := by decide +kernel
theorem dX7_likelyOf_35 : decode cX7_likelyOf 35 = .ok (.lcmp, 1) := by decide +kernel
theorem dX7_likelyOf_36 : decode cX7_likelyOf 36 = .ok (.ifCond .le 17, 3) := by decide +kernel
theorem dX7_likelyOf_39 : decode cX7_likelyOf 39 = .ok (.iload 6, 2) := by decide +kernel
theorem dX7_likelyOf_41 : decode cX7_likelyOf 41 = .ok (.istore_n 1, 1) := by decide +kernel
theorem dX7_likelyOf_42 : decode cX7_likelyOf 42 = .ok (.aload_n 0, 1) := by decide +kernel
theorem dX7_likelyOf_43 : decode cX7_likelyOf 43 = .ok (.getfield 183, 3) := by decide +kernel
theorem dX7_likelyOf_46 : decode cX7_likelyOf 46 = .ok (.lstore_n 2, 1) := by decide +kernel
theorem dX7_likelyOf_47 : decode cX7_likelyOf 47 = .ok (.aload_n 0, 1) := by decide +kernel
theorem dX7_likelyOf_48 : decode cX7_likelyOf 48 = .ok (.getfield 187, 3) := by decide +kernel
theorem dX7_likelyOf_51 : decode cX7_likelyOf 51 = .ok (.lstore 4, 2) := by decide +kernel
theorem dX7_likelyOf_53 : decode cX7_likelyOf 53 = .ok (.iinc 6 1, 3) := by decide +kernel
theorem dX7_likelyOf_56 : decode cX7_likelyOf 56 = .ok (.goto (-46), 3) := by decide +kernel
theorem dX7_likelyOf_59 : decode cX7_likelyOf 59 = .ok (.iload_n 1, 1) := by decide +kernel
theorem dX7_likelyOf_60 : decode cX7_likelyOf 60 = .ok (.ireturn, 1) := by decide +kernel
set_option maxRecDepth 20000 in
theorem ggX7_likely_X7_lacks : GoodIn wsX7_likely wsX7_lacks := goodIn_r _ [5, 6, 44, 45, 46, 47, 48, 49, 50, 51, 52, 53, 54, 55, 56, 57, 58, 59, 60, 61, 62, 63, 64, 65, 66, 67, 68, 69, 70, 71, 72, 73] (by decide +kernel) (by decide +kernel)
set_option maxRecDepth 20000 in
theorem gX7_likely_X7_lacks : GoodIn wsX7_likely (wsV RX7 140 RX7 yX7_lacks wsX7_lacks) := goodIn_app (goodIn_of _ (by decide +kernel)) ggX7_likely_X7_lacks
set_option maxRecDepth 20000 in
theorem ggX7_likely_X7_likelyOf : GoodIn wsX7_likely wsX7_likelyOf := goodIn_r _ [10, 11, 12, 13, 14, 15, 4, 16, 17, 18, 19, 20, 21, 22, 6, 23, 24, 25, 26, 27, 28, 29, 30, 31, 32, 33, 34, 35, 36, 37, 38, 39, 40, 41, 42, 43, 44, 45, 46, 47, 48, 49, 50, 51, 52, 53, 54, 55, 56, 57, 58, 59, 60, 61, 62, 63, 64, 65, 66, 67, 68, 69, 70, 71, 72, 73] (by decide +kernel) (by decide +kernel)
set_option maxRecDepth 20000 in
theorem gX7_likely_X7_likelyOf : GoodIn wsX7_likely (wsV RX7 197 RX7 yX7_likelyOf wsX7_likelyOf) := goodIn_app (goodIn_of _ (by decide +kernel)) ggX7_likely_X7_likelyOf
theorem dX7_likely_0 : decode cX7_likely 0 = .ok (.aload_n 0, 1) := by decide +kernel
theorem dX7_likely_1 : decode cX7_likely 1 = .ok (.invokevirtual 140, 3) := by decide +kernel
theorem dX7_likely_4 : decode cX7_likely 4 = .ok (.ifCond .eq 8, 3) := by decide +kernel
theorem dX7_likely_7 : decode cX7_likely 7 = .ok (.bipush (-103), 2) := by decide +kernel
theorem dX7_likely_9 : decode cX7_likely 9 = .ok (.goto 7, 3) := by decide +kernel
theorem dX7_likely_12 : decode cX7_likely 12 = .ok (.aload_n 0, 1) := by decide +kernel
theorem dX7_likely_13 : decode cX7_likely 13 = .ok (.invokevirtual 197, 3) := by decide +kernel
theorem dX7_likely_16 : decode cX7_likely 16 = .ok (.ireturn, 1) := by decide +kernel
