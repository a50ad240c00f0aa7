set_option maxRecDepth 20000 in
theorem ggX0_init_X5_init : GoodIn wsX0_init wsX5_init := goodIn_r _ [14, 15, 2, 3, 16, 17, 18, 19, 20, 21, 22] (by decide +kernel) (by decide +kernel)
set_option maxRecDepth 20000 in
theorem gX0_init_X5_init : GoodIn wsX0_init (wsX5_init) := ggX0_init_X5_init
theorem dX0_init_0 : decode cX0_init 0 = .ok (.aload_n 0, 1) := by decide +kernel
theorem dX0_init_1 : decode cX0_init 1 = .ok (.invokespecial 3, 3) := by decide +kernel
theorem dX0_init_4 : decode cX0_init 4 = .ok (.aload_n 0, 1) := by decide +kernel
theorem dX0_init_5 : decode cX0_init 5 = .ok (.new 9, 3) := by decide +kernel
theorem dX0_init_8 : decode cX0_init 8 = .ok (.dup, 1) := by decide +kernel
theorem dX0_init_9 : decode cX0_init 9 = .ok (.bipush 6, 2) := by decide +kernel
theorem dX0_init_11 : decode cX0_init 11 = .ok (.invokespecial 11, 3) := by decide +kernel
theorem dX0_init_14 : decode cX0_init 14 = .ok (.putfield 14, 3) := by decide +kernel
theorem dX0_init_17 : decode cX0_init 17 = .ok (.aload_n 0, 1) := by decide +kernel
theorem dX0_init_18 : decode cX0_init 18 = .ok (.new 9, 3) := by decide +kernel
theorem dX0_init_21 : decode cX0_init 21 = .ok (.dup, 1) := by decide +kernel
theorem dX0_init_22 : decode cX0_init 22 = .ok (.bipush 6, 2) := by decide +kernel
theorem dX0_init_24 : decode cX0_init 24 = .ok (.invokespecial 11, 3) := by decide +kernel
theorem dX0_init_27 : decode cX0_init 27 = .ok (.putfield 20, 3) := by decide +kernel
theorem dX0_init_30 : decode cX0_init 30 = .ok (.aload_n 0, 1) := by decide +kernel
theorem dX0_init_31 : decode cX0_init 31 = .ok (.new 9, 3) := by decide +kernel
theorem dX0_init_34 : decode cX0_init 34 = .ok (.dup, 1) := by decide +kernel
theorem dX0_init_35 : decode cX0_init 35 = .ok (.bipush 6, 2) := by decide +kernel
theorem dX0_init_37 : decode cX0_init 37 = .ok (.invokespecial 11, 3) := by decide +kernel
theorem dX0_init_40 : decode cX0_init 40 = .ok (.putfield 23, 3) := by decide +kernel
theorem dX0_init_43 : decode cX0_init 43 = .ok (.aload_n 0, 1) := by decide +kernel
theorem dX0_init_44 : decode cX0_init 44 = .ok (.new 9, 3) := by decide +kernel
theorem dX0_init_47 : decode cX0_init 47 = .ok (.dup, 1) := by decide +kernel
theorem dX0_init_48 : decode cX0_init 48 = .ok (.bipush 6, 2) := by decide +kernel
theorem dX0_init_50 : decode cX0_init 50 = .ok (.invokespecial 11, 3) := by decide +kernel
theorem dX0_init_53 : decode cX0_init 53 = .ok (.putfield 26, 3) := by decide +kernel
theorem dX0_init_56 : decode cX0_init 56 = .ok (.aload_n 0, 1) := by decide +kernel
theorem dX0_init_57 : decode cX0_init 57 = .ok (.iconst 0, 1) := by decide +kernel
theorem dX0_init_58 : decode cX0_init 58 = .ok (.putfield 29, 3) := by decide +kernel
theorem dX0_init_61 : decode cX0_init 61 = .ok (.return_, 1) := by decide +kernel
set_option maxRecDepth 20000 in
theorem ggX0_read_X3_songsRead : GoodIn wsX0_read wsX3_songsRead := goodIn_r _ [10, 11, 12, 13, 14, 15, 130, 131] (by decide +kernel) (by decide +kernel)
set_option maxRecDepth 20000 in
theorem gX0_read_X3_songsRead : GoodIn wsX0_read (wsV RX0 33 RX3 yX3_songsRead wsX3_songsRead) := goodIn_app (goodIn_of _ (by decide +kernel)) ggX0_read_X3_songsRead
set_option maxRecDepth 20000 in
theorem ggX0_read_X3_kindRead : GoodIn wsX0_read wsX3_kindRead := goodIn_r _ [19, 20, 21, 22, 23, 24, 25, 26, 27, 28, 29, 30, 31, 32, 33, 34, 35, 36, 37, 38, 39, 40, 41, 42, 43, 44, 45, 46, 47, 48, 49, 50, 51, 52, 53, 54, 55, 56, 14, 57, 58, 13, 15, 59, 60, 61, 62, 63, 64, 65, 66, 67, 68, 69, 70, 71, 72, 73, 74, 75, 76, 77, 78, 79, 80, 81, 82, 83, 84, 85, 86, 87, 88, 89, 90, 91, 92, 93, 94, 95, 96, 97, 98, 99, 100, 101, 102, 103, 104, 105, 106, 107, 108, 109, 110, 111, 112, 130, 131, 132] (by decide +kernel) (by decide +kernel)
set_option maxRecDepth 20000 in
theorem gX0_read_X3_kindRead : GoodIn wsX0_read (wsV RX0 39 RX3 yX3_kindRead wsX3_kindRead) := goodIn_app (goodIn_of _ (by decide +kernel)) ggX0_read_X3_kindRead
set_option maxRecDepth 20000 in
theorem ggX0_read_X5_put : GoodIn wsX0_read wsX5_put := goodIn_r _ [116, 26, 132] (by decide +kernel) (by decide +kernel)
set_option maxRecDepth 20000 in
theorem gX0_read_X5_put : GoodIn wsX0_read (wsV RX0 43 RX5 yX5_put wsX5_put) := goodIn_app (goodIn_of _ (by decide +kernel)) ggX0_read_X5_put
set_option maxRecDepth 20000 in
theorem ggX0_read_X3_singerRead : GoodIn wsX0_read wsX3_singerRead := goodIn_r _ [120, 20, 21, 22, 23, 24, 25, 26, 130, 131, 132] (by decide +kernel) (by decide +kernel)
set_option maxRecDepth 20000 in
theorem gX0_read_X3_singerRead : GoodIn wsX0_read (wsV RX0 47 RX3 yX3_singerRead wsX3_singerRead) := goodIn_app (goodIn_of _ (by decide +kernel)) ggX0_read_X3_singerRead
set_option maxRecDepth 20000 in
theorem ggX0_read_X0_weightOf : GoodIn wsX0_read wsX0_weightOf := goodIn_r _ [124] (by decide +kernel) (by decide +kernel)
set_option maxRecDepth 20000 in
theorem gX0_read_X0_weightOf : GoodIn wsX0_read (va_wsS RX0 50 yX0_weightOf wsX0_weightOf) := goodIn_app (goodIn_of _ (by decide +kernel)) ggX0_read_X0_weightOf
theorem dX0_read_0 : decode cX0_read 0 = .ok (.aload_n 0, 1) := by decide +kernel
theorem dX0_read_1 : decode cX0_read 1 = .ok (.aload_n 1, 1) := by decide +kernel
theorem dX0_read_2 : decode cX0_read 2 = .ok (.invokevirtual 33, 3) := by decide +kernel
theorem dX0_read_5 : decode cX0_read 5 = .ok (.putfield 29, 3) := by decide +kernel
theorem dX0_read_8 : decode cX0_read 8 = .ok (.iconst 0, 1) := by decide +kernel
theorem dX0_read_9 : decode cX0_read 9 = .ok (.istore_n 2, 1) := by decide +kernel
theorem dX0_read_10 : decode cX0_read 10 = .ok (.iload_n 2, 1) := by decide +kernel
theorem dX0_read_11 : decode cX0_read 11 = .ok (.aload_n 0, 1) := by decide +kernel
theorem dX0_read_12 : decode cX0_read 12 = .ok (.getfield 29, 3) := by decide +kernel
theorem dX0_read_15 : decode cX0_read 15 = .ok (.if_icmp .ge 68, 3) := by decide +kernel
theorem dX0_read_18 : decode cX0_read 18 = .ok (.aload_n 1, 1) := by decide +kernel
theorem dX0_read_19 : decode cX0_read 19 = .ok (.iload_n 2, 1) := by decide +kernel
theorem dX0_read_20 : decode cX0_read 20 = .ok (.invokevirtual 39, 3) := by decide +kernel
theorem dX0_read_23 : decode cX0_read 23 = .ok (.istore_n 3, 1) := by decide +kernel
theorem dX0_read_24 : decode cX0_read 24 = .ok (.aload_n 0, 1) := by decide +kernel
theorem dX0_read_25 : decode cX0_read 25 = .ok (.getfield 14, 3) := by decide +kernel
theorem dX0_read_28 : decode cX0_read 28 = .ok (.iload_n 2, 1) := by decide +kernel
theorem dX0_read_29 : decode cX0_read 29 = .ok (.iload_n 3, 1) := by decide +kernel
theorem dX0_read_30 : decode cX0_read 30 = .ok (.invokevirtual 43, 3) := by decide +kernel
theorem dX0_read_33 : decode cX0_read 33 = .ok (.aload_n 0, 1) := by decide +kernel
theorem dX0_read_34 : decode cX0_read 34 = .ok (.getfield 20, 3) := by decide +kernel
theorem dX0_read_37 : decode cX0_read 37 = .ok (.iload_n 2, 1) := by decide +kernel
theorem dX0_read_38 : decode cX0_read 38 = .ok (.aload_n 1, 1) := by decide +kernel
theorem dX0_read_39 : decode cX0_read 39 = .ok (.iload_n 2, 1) := by decide +kernel
theorem dX0_read_40 : decode cX0_read 40 = .ok (.invokevirtual 47, 3) := by decide +kernel
theorem dX0_read_43 : decode cX0_read 43 = .ok (.invokevirtual 43, 3) := by decide +kernel
theorem dX0_read_46 : decode cX0_read 46 = .ok (.aload_n 0, 1) := by decide +kernel
theorem dX0_read_47 : decode cX0_read 47 = .ok (.getfield 23, 3) := by decide +kernel
theorem dX0_read_50 : decode cX0_read 50 = .ok (.iload_n 2, 1) := by decide +kernel
theorem dX0_read_51 : decode cX0_read 51 = .ok (.iload_n 3, 1) := by decide +kernel
theorem dX0_read_52 : decode cX0_read 52 = .ok (.invokestatic 50, 3) := by decide +kernel
theorem dX0_read_55 : decode cX0_read 55 = .ok (.invokevirtual 43, 3) := by decide +kernel
theorem dX0_read_58 : decode cX0_read 58 = .ok (.aload_n 0, 1) := by decide +kernel
theorem dX0_read_59 : decode cX0_read 59 = .ok (.getfield 26, 3) := by decide +kernel
theorem dX0_read_62 : decode cX0_read 62 = .ok (.iload_n 2, 1) := by decide +kernel
theorem dX0_read_63 : decode cX0_read 63 = .ok (.iload_n 3, 1) := by decide +kernel
theorem dX0_read_64 : decode cX0_read 64 = .ok (.iconst 1, 1) := by decide +kernel
theorem dX0_read_65 : decode cX0_read 65 = .ok (.if_icmp .ne 8, 3) := by decide +kernel
theorem dX0_read_68 : decode cX0_read 68 = .ok (.bipush 7, 2) := by decide +kernel
theorem dX0_read_70 : decode cX0_read 70 = .ok (.goto 4, 3) := by decide +kernel
theorem dX0_read_73 : decode cX0_read 73 = .ok (.iconst 3, 1) := by decide +kernel
theorem dX0_read_74 : decode cX0_read 74 = .ok (.invokevirtual 43, 3) := by decide +kernel
theorem dX0_read_77 : decode cX0_read 77 = .ok (.iinc 2 1, 3) := by decide +kernel
theorem dX0_read_80 : decode cX0_read 80 = .ok (.goto (-70), 3) := by decide +kernel
theorem dX0_read_83 : decode cX0_read 83 = .ok (.return_, 1) := by decide +kernel
theorem dX0_has_0 : decode cX0_has 0 = .ok (.iload_n 1, 1) := by decide +kernel
theorem dX0_has_1 : decode cX0_has 1 = .ok (.ifCond .lt 15, 3) := by decide +kernel
theorem dX0_has_4 : decode cX0_has 4 = .ok (.iload_n 1, 1) := by decide +kernel
theorem dX0_has_5 : decode cX0_has 5 = .ok (.aload_n 0, 1) := by decide +kernel
theorem dX0_has_6 : decode cX0_has 6 = .ok (.getfield 29, 3) := by decide +kernel
theorem dX0_has_9 : decode cX0_has 9 = .ok (.if_icmp .ge 7, 3) := by decide +kernel
theorem dX0_has_12 : decode cX0_has 12 = .ok (.iconst 1, 1) := by decide +kernel
theorem dX0_has_13 : decode cX0_has 13 = .ok (.goto 4, 3) := by decide +kernel
theorem dX0_has_16 : decode cX0_has 16 = .ok (.iconst 0, 1) := by decide +kernel
theorem dX0_has_17 : decode cX0_has 17 = .ok (.ireturn, 1) := by decide +kernel
theorem dX0_all_0 : decode cX0_all 0 = .ok (.iconst 1, 1) := by decide +kernel
theorem dX0_all_1 : decode cX0_all 1 = .ok (.aload_n 0, 1) := by decide +kernel
theorem dX0_all_2 : decode cX0_all 2 = .ok (.getfield 29, 3) := by decide +kernel
theorem dX0_all_5 : decode cX0_all 5 = .ok (.ishl, 1) := by decide +kernel
theorem dX0_all_6 : decode cX0_all 6 = .ok (.iconst 1, 1) := by decide +kernel
theorem dX0_all_7 : decode cX0_all 7 = .ok (.isub, 1) := by decide +kernel
theorem dX0_all_8 : decode cX0_all 8 = .ok (.ireturn, 1) := by decide +kernel
set_option maxRecDepth 20000 in
theorem ggX0_isOfKind_X5_at : GoodIn wsX0_isOfKind wsX5_at := goodIn_r _ [6, 7, 13] (by decide +kernel) (by decide +kernel)
set_option maxRecDepth 20000 in
theorem gX0_isOfKind_X5_at : GoodIn wsX0_isOfKind (wsV RX0 53 RX5 yX5_at wsX5_at) := goodIn_app (goodIn_of _ (by decide +kernel)) ggX0_isOfKind_X5_at
theorem dX0_isOfKind_0 : decode cX0_isOfKind 0 = .ok (.aload_n 0, 1) := by decide +kernel
theorem dX0_isOfKind_1 : decode cX0_isOfKind 1 = .ok (.getfield 14, 3) := by decide +kernel
theorem dX0_isOfKind_4 : decode cX0_isOfKind 4 = .ok (.iload_n 1, 1) := by decide +kernel
theorem dX0_isOfKind_5 : decode cX0_isOfKind 5 = .ok (.invokevirtual 53, 3) := by decide +kernel
theorem dX0_isOfKind_8 : decode cX0_isOfKind 8 = .ok (.istore_n 3, 1) := by decide +kernel
theorem dX0_isOfKind_9 : decode cX0_isOfKind 9 = .ok (.iload_n 2, 1) := by decide +kernel
theorem dX0_isOfKind_10 : decode cX0_isOfKind 10 = .ok (.iload_n 3, 1) := by decide +kernel
theorem dX0_isOfKind_11 : decode cX0_isOfKind 11 = .ok (.if_icmp .eq 17, 3) := by decide +kernel
theorem dX0_isOfKind_14 : decode cX0_isOfKind 14 = .ok (.iload_n 2, 1) := by decide +kernel
theorem dX0_isOfKind_15 : decode cX0_isOfKind 15 = .ok (.ifCond .eq 13, 3) := by decide +kernel
theorem dX0_isOfKind_18 : decode cX0_isOfKind 18 = .ok (.iload_n 2, 1) := by decide +kernel
theorem dX0_isOfKind_19 : decode cX0_isOfKind 19 = .ok (.iconst 2, 1) := by decide +kernel
theorem dX0_isOfKind_20 : decode cX0_isOfKind 20 = .ok (.if_icmp .ne 12, 3) := by decide +kernel
theorem dX0_isOfKind_23 : decode cX0_isOfKind 23 = .ok (.iload_n 3, 1) := by decide +kernel
theorem dX0_isOfKind_24 : decode cX0_isOfKind 24 = .ok (.iconst 4, 1) := by decide +kernel
theorem dX0_isOfKind_25 : decode cX0_isOfKind 25 = .ok (.if_icmp .ne 7, 3) := by decide +kernel
theorem dX0_isOfKind_28 : decode cX0_isOfKind 28 = .ok (.iconst 1, 1) := by decide +kernel
theorem dX0_isOfKind_29 : decode cX0_isOfKind 29 = .ok (.goto 4, 3) := by decide +kernel
theorem dX0_isOfKind_32 : decode cX0_isOfKind 32 = .ok (.iconst 0, 1) := by decide +kernel
theorem dX0_isOfKind_33 : decode cX0_isOfKind 33 = .ok (.ireturn, 1) := by decide +kernel
theorem dX0_weightOf_0 : decode cX0_weightOf 0 = .ok (.iload_n 0, 1) := by decide +kernel
theorem dX0_weightOf_1 : decode cX0_weightOf 1 = .ok (.lookupswitch 31 #[(2, 27), (4, 29)], 27) := by decide +kernel
theorem dX0_weightOf_28 : decode cX0_weightOf 28 = .ok (.iconst 2, 1) := by decide +kernel
theorem dX0_weightOf_29 : decode cX0_weightOf 29 = .ok (.ireturn, 1) := by decide +kernel
theorem dX0_weightOf_30 : decode cX0_weightOf 30 = .ok (.iconst 3, 1) := by decide +kernel
theorem dX0_weightOf_31 : decode cX0_weightOf 31 = .ok (.ireturn, 1) := by decide +kernel
theorem dX0_weightOf_32 : decode cX0_weightOf 32 = .ok (.iconst 1, 1) := by decide +kernel
theorem dX0_weightOf_33 : decode cX0_weightOf 33 = .ok (.ireturn, 1) := by decide +kernel
set_option maxRecDepth 20000 in
theorem ggX0_weightTogether_X6_holds : GoodIn wsX0_weightTogether wsX6_holds := goodIn_r _ [5] (by decide +kernel) (by decide +kernel)
set_option maxRecDepth 20000 in
theorem gX0_weightTogether_X6_holds_n56 : GoodIn wsX0_weightTogether (wsX6_holds) := ggX0_weightTogether_X6_holds
set_option maxRecDepth 20000 in
theorem ggX0_weightTogether_X5_at : GoodIn wsX0_weightTogether wsX5_at := goodIn_r _ [10, 11, 17] (by decide +kernel) (by decide +kernel)
set_option maxRecDepth 20000 in
theorem gX0_weightTogether_X5_at : GoodIn wsX0_weightTogether (wsV RX0 53 RX5 yX5_at wsX5_at) := goodIn_app (goodIn_of _ (by decide +kernel)) ggX0_weightTogether_X5_at
theorem dX0_weightTogether_0 : decode cX0_weightTogether 0 = .ok (.iconst 0, 1) := by decide +kernel
theorem dX0_weightTogether_1 : decode cX0_weightTogether 1 = .ok (.istore_n 2, 1) := by decide +kernel
theorem dX0_weightTogether_2 : decode cX0_weightTogether 2 = .ok (.iconst 0, 1) := by decide +kernel
theorem dX0_weightTogether_3 : decode cX0_weightTogether 3 = .ok (.istore_n 3, 1) := by decide +kernel
theorem dX0_weightTogether_4 : decode cX0_weightTogether 4 = .ok (.iload_n 3, 1) := by decide +kernel
theorem dX0_weightTogether_5 : decode cX0_weightTogether 5 = .ok (.aload_n 0, 1) := by decide +kernel
theorem dX0_weightTogether_6 : decode cX0_weightTogether 6 = .ok (.getfield 29, 3) := by decide +kernel
theorem dX0_weightTogether_9 : decode cX0_weightTogether 9 = .ok (.if_icmp .ge 32, 3) := by decide +kernel
theorem dX0_weightTogether_12 : decode cX0_weightTogether 12 = .ok (.iload_n 2, 1) := by decide +kernel
theorem dX0_weightTogether_13 : decode cX0_weightTogether 13 = .ok (.iload_n 1, 1) := by decide +kernel
theorem dX0_weightTogether_14 : decode cX0_weightTogether 14 = .ok (.iload_n 3, 1) := by decide +kernel
theorem dX0_weightTogether_15 : decode cX0_weightTogether 15 = .ok (.invokestatic 56, 3) := by decide +kernel
theorem dX0_weightTogether_18 : decode cX0_weightTogether 18 = .ok (.ifCond .eq 14, 3) := by decide +kernel
theorem dX0_weightTogether_21 : decode cX0_weightTogether 21 = .ok (.aload_n 0, 1) := by decide +kernel
theorem dX0_weightTogether_22 : decode cX0_weightTogether 22 = .ok (.getfield 23, 3) := by decide +kernel
theorem dX0_weightTogether_25 : decode cX0_weightTogether 25 = .ok (.iload_n 3, 1) := by decide +kernel
theorem dX0_weightTogether_26 : decode cX0_weightTogether 26 = .ok (.invokevirtual 53, 3) := by decide +kernel
theorem dX0_weightTogether_29 : decode cX0_weightTogether 29 = .ok (.goto 4, 3) := by decide +kernel
theorem dX0_weightTogether_32 : decode cX0_weightTogether 32 = .ok (.iconst 0, 1) := by decide +kernel
theorem dX0_weightTogether_33 : decode cX0_weightTogether 33 = .ok (.iadd, 1) := by decide +kernel
theorem dX0_weightTogether_34 : decode cX0_weightTogether 34 = .ok (.istore_n 2, 1) := by decide +kernel
theorem dX0_weightTogether_35 : decode cX0_weightTogether 35 = .ok (.iinc 3 1, 3) := by decide +kernel
theorem dX0_weightTogether_38 : decode cX0_weightTogether 38 = .ok (.goto (-34), 3) := by decide +kernel
theorem dX0_weightTogether_41 : decode cX0_weightTogether 41 = .ok (.iload_n 2, 1) := by decide +kernel
theorem dX0_weightTogether_42 : decode cX0_weightTogether 42 = .ok (.ireturn, 1) := by decide +kernel
set_option maxRecDepth 20000 in
theorem ggX0_mayCome_X0_all : GoodIn wsX0_mayCome wsX0_all := goodIn_r _ [5, 6, 19, 20, 21, 22, 23] (by decide +kernel) (by decide +kernel)
set_option maxRecDepth 20000 in
theorem gX0_mayCome_X0_all : GoodIn wsX0_mayCome (wsV RX0 60 RX0 yX0_all wsX0_all) := goodIn_app (goodIn_of _ (by decide +kernel)) ggX0_mayCome_X0_all
set_option maxRecDepth 20000 in
theorem ggX0_mayCome_X0_mayFollow : GoodIn wsX0_mayCome wsX0_mayFollow := goodIn_r _ [10, 6, 11, 12, 13, 14, 15, 16, 17, 18, 19, 20, 21, 22, 23, 24] (by decide +kernel) (by decide +kernel)
set_option maxRecDepth 20000 in
theorem gX0_mayCome_X0_mayFollow : GoodIn wsX0_mayCome (wsV RX0 63 RX0 yX0_mayFollow wsX0_mayFollow) := goodIn_app (goodIn_of _ (by decide +kernel)) ggX0_mayCome_X0_mayFollow
theorem dX0_mayCome_0 : decode cX0_mayCome 0 = .ok (.iload_n 1, 1) := by decide +kernel
theorem dX0_mayCome_1 : decode cX0_mayCome 1 = .ok (.iconst 2, 1) := by decide +kernel
theorem dX0_mayCome_2 : decode cX0_mayCome 2 = .ok (.if_icmp .eq 8, 3) := by decide +kernel
theorem dX0_mayCome_5 : decode cX0_mayCome 5 = .ok (.iload_n 1, 1) := by decide +kernel
theorem dX0_mayCome_6 : decode cX0_mayCome 6 = .ok (.iconst 3, 1) := by decide +kernel
theorem dX0_mayCome_7 : decode cX0_mayCome 7 = .ok (.if_icmp .ne 7, 3) := by decide +kernel
theorem dX0_mayCome_10 : decode cX0_mayCome 10 = .ok (.iconst 1, 1) := by decide +kernel
theorem dX0_mayCome_11 : decode cX0_mayCome 11 = .ok (.goto 4, 3) := by decide +kernel
theorem dX0_mayCome_14 : decode cX0_mayCome 14 = .ok (.iconst 0, 1) := by decide +kernel
theorem dX0_mayCome_15 : decode cX0_mayCome 15 = .ok (.istore 4, 2) := by decide +kernel
theorem dX0_mayCome_17 : decode cX0_mayCome 17 = .ok (.iload_n 1, 1) := by decide +kernel
theorem dX0_mayCome_18 : decode cX0_mayCome 18 = .ok (.iconst 1, 1) := by decide +kernel
theorem dX0_mayCome_19 : decode cX0_mayCome 19 = .ok (.if_icmp .eq 8, 3) := by decide +kernel
theorem dX0_mayCome_22 : decode cX0_mayCome 22 = .ok (.iload_n 1, 1) := by decide +kernel
theorem dX0_mayCome_23 : decode cX0_mayCome 23 = .ok (.iconst 3, 1) := by decide +kernel
theorem dX0_mayCome_24 : decode cX0_mayCome 24 = .ok (.if_icmp .ne 7, 3) := by decide +kernel
theorem dX0_mayCome_27 : decode cX0_mayCome 27 = .ok (.iconst 1, 1) := by decide +kernel
theorem dX0_mayCome_28 : decode cX0_mayCome 28 = .ok (.goto 4, 3) := by decide +kernel
theorem dX0_mayCome_31 : decode cX0_mayCome 31 = .ok (.iconst 0, 1) := by decide +kernel
theorem dX0_mayCome_32 : decode cX0_mayCome 32 = .ok (.istore 5, 2) := by decide +kernel
theorem dX0_mayCome_34 : decode cX0_mayCome 34 = .ok (.iload 4, 2) := by decide +kernel
theorem dX0_mayCome_36 : decode cX0_mayCome 36 = .ok (.ifCond .eq 7, 3) := by decide +kernel
theorem dX0_mayCome_39 : decode cX0_mayCome 39 = .ok (.iload_n 2, 1) := by decide +kernel
theorem dX0_mayCome_40 : decode cX0_mayCome 40 = .ok (.goto 7, 3) := by decide +kernel
theorem dX0_mayCome_43 : decode cX0_mayCome 43 = .ok (.aload_n 0, 1) := by decide +kernel
theorem dX0_mayCome_44 : decode cX0_mayCome 44 = .ok (.invokevirtual 60, 3) := by decide +kernel
theorem dX0_mayCome_47 : decode cX0_mayCome 47 = .ok (.istore 6, 2) := by decide +kernel
theorem dX0_mayCome_49 : decode cX0_mayCome 49 = .ok (.iload 5, 2) := by decide +kernel
theorem dX0_mayCome_51 : decode cX0_mayCome 51 = .ok (.ifCond .eq 8, 3) := by decide +kernel
theorem dX0_mayCome_54 : decode cX0_mayCome 54 = .ok (.iload_n 3, 1) := by decide +kernel
theorem dX0_mayCome_55 : decode cX0_mayCome 55 = .ok (.iconst (-1), 1) := by decide +kernel
theorem dX0_mayCome_56 : decode cX0_mayCome 56 = .ok (.if_icmp .ne 6, 3) := by decide +kernel
theorem dX0_mayCome_59 : decode cX0_mayCome 59 = .ok (.iload 6, 2) := by decide +kernel
theorem dX0_mayCome_61 : decode cX0_mayCome 61 = .ok (.ireturn, 1) := by decide +kernel
theorem dX0_mayCome_62 : decode cX0_mayCome 62 = .ok (.iload 6, 2) := by decide +kernel
theorem dX0_mayCome_64 : decode cX0_mayCome 64 = .ok (.aload_n 0, 1) := by decide +kernel
theorem dX0_mayCome_65 : decode cX0_mayCome 65 = .ok (.iload_n 3, 1) := by decide +kernel
theorem dX0_mayCome_66 : decode cX0_mayCome 66 = .ok (.invokevirtual 63, 3) := by decide +kernel
theorem dX0_mayCome_69 : decode cX0_mayCome 69 = .ok (.iand, 1) := by decide +kernel
theorem dX0_mayCome_70 : decode cX0_mayCome 70 = .ok (.istore 7, 2) := by decide +kernel
theorem dX0_mayCome_72 : decode cX0_mayCome 72 = .ok (.iload 7, 2) := by decide +kernel
theorem dX0_mayCome_74 : decode cX0_mayCome 74 = .ok (.ifCond .ne 8, 3) := by decide +kernel
theorem dX0_mayCome_77 : decode cX0_mayCome 77 = .ok (.iload 6, 2) := by decide +kernel
theorem dX0_mayCome_79 : decode cX0_mayCome 79 = .ok (.goto 5, 3) := by decide +kernel
theorem dX0_mayCome_82 : decode cX0_mayCome 82 = .ok (.iload 7, 2) := by decide +kernel
theorem dX0_mayCome_84 : decode cX0_mayCome 84 = .ok (.ireturn, 1) := by decide +kernel
set_option maxRecDepth 20000 in
theorem ggX0_mayFollow_X5_at : GoodIn wsX0_mayFollow wsX5_at := goodIn_r _ [8, 9, 15] (by decide +kernel) (by decide +kernel)
set_option maxRecDepth 20000 in
theorem gX0_mayFollow_X5_at : GoodIn wsX0_mayFollow (wsV RX0 53 RX5 yX5_at wsX5_at) := goodIn_app (goodIn_of _ (by decide +kernel)) ggX0_mayFollow_X5_at
theorem dX0_mayFollow_0 : decode cX0_mayFollow 0 = .ok (.iconst 0, 1) := by decide +kernel
theorem dX0_mayFollow_1 : decode cX0_mayFollow 1 = .ok (.istore_n 2, 1) := by decide +kernel
theorem dX0_mayFollow_2 : decode cX0_mayFollow 2 = .ok (.iconst 0, 1) := by decide +kernel
theorem dX0_mayFollow_3 : decode cX0_mayFollow 3 = .ok (.istore_n 3, 1) := by decide +kernel
theorem dX0_mayFollow_4 : decode cX0_mayFollow 4 = .ok (.iload_n 3, 1) := by decide +kernel
theorem dX0_mayFollow_5 : decode cX0_mayFollow 5 = .ok (.aload_n 0, 1) := by decide +kernel
theorem dX0_mayFollow_6 : decode cX0_mayFollow 6 = .ok (.getfield 29, 3) := by decide +kernel
theorem dX0_mayFollow_9 : decode cX0_mayFollow 9 = .ok (.if_icmp .ge 46, 3) := by decide +kernel
theorem dX0_mayFollow_12 : decode cX0_mayFollow 12 = .ok (.aload_n 0, 1) := by decide +kernel
theorem dX0_mayFollow_13 : decode cX0_mayFollow 13 = .ok (.getfield 20, 3) := by decide +kernel
theorem dX0_mayFollow_16 : decode cX0_mayFollow 16 = .ok (.iload_n 3, 1) := by decide +kernel
theorem dX0_mayFollow_17 : decode cX0_mayFollow 17 = .ok (.invokevirtual 53, 3) := by decide +kernel
theorem dX0_mayFollow_20 : decode cX0_mayFollow 20 = .ok (.aload_n 0, 1) := by decide +kernel
theorem dX0_mayFollow_21 : decode cX0_mayFollow 21 = .ok (.getfield 20, 3) := by decide +kernel
theorem dX0_mayFollow_24 : decode cX0_mayFollow 24 = .ok (.iload_n 1, 1) := by decide +kernel
theorem dX0_mayFollow_25 : decode cX0_mayFollow 25 = .ok (.invokevirtual 53, 3) := by decide +kernel
theorem dX0_mayFollow_28 : decode cX0_mayFollow 28 = .ok (.if_icmp .ne 15, 3) := by decide +kernel
theorem dX0_mayFollow_31 : decode cX0_mayFollow 31 = .ok (.aload_n 0, 1) := by decide +kernel
theorem dX0_mayFollow_32 : decode cX0_mayFollow 32 = .ok (.getfield 14, 3) := by decide +kernel
theorem dX0_mayFollow_35 : decode cX0_mayFollow 35 = .ok (.iload_n 3, 1) := by decide +kernel
theorem dX0_mayFollow_36 : decode cX0_mayFollow 36 = .ok (.invokevirtual 53, 3) := by decide +kernel
theorem dX0_mayFollow_39 : decode cX0_mayFollow 39 = .ok (.iconst 3, 1) := by decide +kernel
theorem dX0_mayFollow_40 : decode cX0_mayFollow 40 = .ok (.if_icmp .ne 9, 3) := by decide +kernel
theorem dX0_mayFollow_43 : decode cX0_mayFollow 43 = .ok (.iload_n 2, 1) := by decide +kernel
theorem dX0_mayFollow_44 : decode cX0_mayFollow 44 = .ok (.iconst 1, 1) := by decide +kernel
theorem dX0_mayFollow_45 : decode cX0_mayFollow 45 = .ok (.iload_n 3, 1) := by decide +kernel
theorem dX0_mayFollow_46 : decode cX0_mayFollow 46 = .ok (.ishl, 1) := by decide +kernel
theorem dX0_mayFollow_47 : decode cX0_mayFollow 47 = .ok (.ior, 1) := by decide +kernel
theorem dX0_mayFollow_48 : decode cX0_mayFollow 48 = .ok (.istore_n 2, 1) := by decide +kernel
theorem dX0_mayFollow_49 : decode cX0_mayFollow 49 = .ok (.iinc 3 1, 3) := by decide +kernel
theorem dX0_mayFollow_52 : decode cX0_mayFollow 52 = .ok (.goto (-48), 3) := by decide +kernel
theorem dX0_mayFollow_55 : decode cX0_mayFollow 55 = .ok (.iload_n 2, 1) := by decide +kernel
theorem dX0_mayFollow_56 : decode cX0_mayFollow 56 = .ok (.ireturn, 1) := by decide +kernel
set_option maxRecDepth 20000 in
theorem ggX0_bagAfter_X0_all : GoodIn wsX0_bagAfter wsX0_all := goodIn_r _ [5, 6, 7, 8, 9, 10, 11] (by decide +kernel) (by decide +kernel)
set_option maxRecDepth 20000 in
theorem gX0_bagAfter_X0_all : GoodIn wsX0_bagAfter (wsV RX0 60 RX0 yX0_all wsX0_all) := goodIn_app (goodIn_of _ (by decide +kernel)) ggX0_bagAfter_X0_all
theorem dX0_bagAfter_0 : decode cX0_bagAfter 0 = .ok (.iload_n 1, 1) := by decide +kernel
theorem dX0_bagAfter_1 : decode cX0_bagAfter 1 = .ok (.iconst 1, 1) := by decide +kernel
theorem dX0_bagAfter_2 : decode cX0_bagAfter 2 = .ok (.iload_n 2, 1) := by decide +kernel
theorem dX0_bagAfter_3 : decode cX0_bagAfter 3 = .ok (.ishl, 1) := by decide +kernel
theorem dX0_bagAfter_4 : decode cX0_bagAfter 4 = .ok (.iconst (-1), 1) := by decide +kernel
theorem dX0_bagAfter_5 : decode cX0_bagAfter 5 = .ok (.ixor, 1) := by decide +kernel
theorem dX0_bagAfter_6 : decode cX0_bagAfter 6 = .ok (.iand, 1) := by decide +kernel
theorem dX0_bagAfter_7 : decode cX0_bagAfter 7 = .ok (.istore_n 3, 1) := by decide +kernel
theorem dX0_bagAfter_8 : decode cX0_bagAfter 8 = .ok (.iload_n 3, 1) := by decide +kernel
theorem dX0_bagAfter_9 : decode cX0_bagAfter 9 = .ok (.ifCond .ne 10, 3) := by decide +kernel
theorem dX0_bagAfter_12 : decode cX0_bagAfter 12 = .ok (.aload_n 0, 1) := by decide +kernel
theorem dX0_bagAfter_13 : decode cX0_bagAfter 13 = .ok (.invokevirtual 60, 3) := by decide +kernel
theorem dX0_bagAfter_16 : decode cX0_bagAfter 16 = .ok (.goto 4, 3) := by decide +kernel
theorem dX0_bagAfter_19 : decode cX0_bagAfter 19 = .ok (.iload_n 3, 1) := by decide +kernel
theorem dX0_bagAfter_20 : decode cX0_bagAfter 20 = .ok (.ireturn, 1) := by decide +kernel
theorem dX1_init_0 : decode cX1_init 0 = .ok (.aload_n 0, 1) := by decide +kernel
theorem dX1_init_1 : decode cX1_init 1 = .ok (.invokespecial 1, 3) := by decide +kernel
theorem dX1_init_4 : decode cX1_init 4 = .ok (.aload_n 0, 1) := by decide +kernel
theorem dX1_init_5 : decode cX1_init 5 = .ok (.lconst 0, 1) := by decide +kernel
theorem dX1_init_6 : decode cX1_init 6 = .ok (.putfield 7, 3) := by decide +kernel
theorem dX1_init_9 : decode cX1_init 9 = .ok (.aload_n 0, 1) := by decide +kernel
theorem dX1_init_10 : decode cX1_init 10 = .ok (.lconst 1, 1) := by decide +kernel
theorem dX1_init_11 : decode cX1_init 11 = .ok (.putfield 13, 3) := by decide +kernel
theorem dX1_init_14 : decode cX1_init 14 = .ok (.return_, 1) := by decide +kernel
set_option maxRecDepth 20000 in
theorem ggX1_become_X1_commonDivisor : GoodIn wsX1_become wsX1_commonDivisor := goodIn_r _ [6] (by decide +kernel) (by decide +kernel)
set_option maxRecDepth 20000 in
theorem gX1_become_X1_commonDivisor : GoodIn wsX1_become (va_wsS RX1 16 yX1_commonDivisor wsX1_commonDivisor) := goodIn_app (goodIn_of _ (by decide +kernel)) ggX1_become_X1_commonDivisor
theorem dX1_become_0 : decode cX1_become 0 = .ok (.lload_n 1, 1) := by decide +kernel
theorem dX1_become_1 : decode cX1_become 1 = .ok (.lload_n 3, 1) := by decide +kernel
theorem dX1_become_2 : decode cX1_become 2 = .ok (.invokestatic 16, 3) := by decide +kernel
theorem dX1_become_5 : decode cX1_become 5 = .ok (.lstore 5, 2) := by decide +kernel
theorem dX1_become_7 : decode cX1_become 7 = .ok (.lload 5, 2) := by decide +kernel
theorem dX1_become_9 : decode cX1_become 9 = .ok (.lconst 0, 1) := by decide +kernel
theorem dX1_become_10 : decode cX1_become 10 = .ok (.lcmp, 1) := by decide +kernel
theorem dX1_become_11 : decode cX1_become 11 = .ok (.ifCond .le 19, 3) := by decide +kernel
theorem dX1_become_14 : decode cX1_become 14 = .ok (.aload_n 0, 1) := by decide +kernel
theorem dX1_become_15 : decode cX1_become 15 = .ok (.lload_n 1, 1) := by decide +kernel
theorem dX1_become_16 : decode cX1_become 16 = .ok (.lload 5, 2) := by decide +kernel
theorem dX1_become_18 : decode cX1_become 18 = .ok (.ldiv, 1) := by decide +kernel
theorem dX1_become_19 : decode cX1_become 19 = .ok (.putfield 7, 3) := by decide +kernel
theorem dX1_become_22 : decode cX1_become 22 = .ok (.aload_n 0, 1) := by decide +kernel
theorem dX1_become_23 : decode cX1_become 23 = .ok (.lload_n 3, 1) := by decide +kernel
theorem dX1_become_24 : decode cX1_become 24 = .ok (.lload 5, 2) := by decide +kernel
theorem dX1_become_26 : decode cX1_become 26 = .ok (.ldiv, 1) := by decide +kernel
theorem dX1_become_27 : decode cX1_become 27 = .ok (.putfield 13, 3) := by decide +kernel
theorem dX1_become_30 : decode cX1_become 30 = .ok (.return_, 1) := by decide +kernel
set_option maxRecDepth 20000 in
theorem ggX1_multiply_X1_become : GoodIn wsX1_multiply wsX1_become := goodIn_r _ [7, 1, 2, 8, 9, 6, 10, 11, 12] (by decide +kernel) (by decide +kernel)
set_option maxRecDepth 20000 in
theorem gX1_multiply_X1_become : GoodIn wsX1_multiply (wsV RX1 20 RX1 yX1_become wsX1_become) := goodIn_app (goodIn_of _ (by decide +kernel)) ggX1_multiply_X1_become
theorem dX1_multiply_0 : decode cX1_multiply 0 = .ok (.aload_n 0, 1) := by decide +kernel
theorem dX1_multiply_1 : decode cX1_multiply 1 = .ok (.aload_n 0, 1) := by decide +kernel
theorem dX1_multiply_2 : decode cX1_multiply 2 = .ok (.getfield 7, 3) := by decide +kernel
theorem dX1_multiply_5 : decode cX1_multiply 5 = .ok (.lload_n 1, 1) := by decide +kernel
theorem dX1_multiply_6 : decode cX1_multiply 6 = .ok (.lmul, 1) := by decide +kernel
theorem dX1_multiply_7 : decode cX1_multiply 7 = .ok (.aload_n 0, 1) := by decide +kernel
theorem dX1_multiply_8 : decode cX1_multiply 8 = .ok (.getfield 13, 3) := by decide +kernel
theorem dX1_multiply_11 : decode cX1_multiply 11 = .ok (.lload_n 3, 1) := by decide +kernel
theorem dX1_multiply_12 : decode cX1_multiply 12 = .ok (.lmul, 1) := by decide +kernel
theorem dX1_multiply_13 : decode cX1_multiply 13 = .ok (.invokevirtual 20, 3) := by decide +kernel
theorem dX1_multiply_16 : decode cX1_multiply 16 = .ok (.return_, 1) := by decide +kernel
set_option maxRecDepth 20000 in
theorem ggX1_add_X1_commonDivisor : GoodIn wsX1_add wsX1_commonDivisor := goodIn_r _ [6] (by decide +kernel) (by decide +kernel)
set_option maxRecDepth 20000 in
theorem gX1_add_X1_commonDivisor : GoodIn wsX1_add (va_wsS RX1 16 yX1_commonDivisor wsX1_commonDivisor) := goodIn_app (goodIn_of _ (by decide +kernel)) ggX1_add_X1_commonDivisor
set_option maxRecDepth 20000 in
theorem ggX1_add_X1_become : GoodIn wsX1_add wsX1_become := goodIn_r _ [10, 2, 1, 3, 4, 5, 6, 11, 12] (by decide +kernel) (by decide +kernel)
set_option maxRecDepth 20000 in
theorem gX1_add_X1_become : GoodIn wsX1_add (wsV RX1 20 RX1 yX1_become wsX1_become) := goodIn_app (goodIn_of _ (by decide +kernel)) ggX1_add_X1_become
theorem dX1_add_0 : decode cX1_add 0 = .ok (.aload_n 0, 1) := by decide +kernel
theorem dX1_add_1 : decode cX1_add 1 = .ok (.getfield 13, 3) := by decide +kernel
theorem dX1_add_4 : decode cX1_add 4 = .ok (.lload_n 3, 1) := by decide +kernel
theorem dX1_add_5 : decode cX1_add 5 = .ok (.invokestatic 16, 3) := by decide +kernel
theorem dX1_add_8 : decode cX1_add 8 = .ok (.lstore 5, 2) := by decide +kernel
theorem dX1_add_10 : decode cX1_add 10 = .ok (.lload 5, 2) := by decide +kernel
theorem dX1_add_12 : decode cX1_add 12 = .ok (.lconst 0, 1) := by decide +kernel
theorem dX1_add_13 : decode cX1_add 13 = .ok (.lcmp, 1) := by decide +kernel
theorem dX1_add_14 : decode cX1_add 14 = .ok (.ifCond .le 37, 3) := by decide +kernel
theorem dX1_add_17 : decode cX1_add 17 = .ok (.lload_n 3, 1) := by decide +kernel
theorem dX1_add_18 : decode cX1_add 18 = .ok (.lload 5, 2) := by decide +kernel
theorem dX1_add_20 : decode cX1_add 20 = .ok (.ldiv, 1) := by decide +kernel
theorem dX1_add_21 : decode cX1_add 21 = .ok (.lstore 7, 2) := by decide +kernel
theorem dX1_add_23 : decode cX1_add 23 = .ok (.aload_n 0, 1) := by decide +kernel
theorem dX1_add_24 : decode cX1_add 24 = .ok (.aload_n 0, 1) := by decide +kernel
theorem dX1_add_25 : decode cX1_add 25 = .ok (.getfield 7, 3) := by decide +kernel
theorem dX1_add_28 : decode cX1_add 28 = .ok (.lload 7, 2) := by decide +kernel
theorem dX1_add_30 : decode cX1_add 30 = .ok (.lmul, 1) := by decide +kernel
theorem dX1_add_31 : decode cX1_add 31 = .ok (.lload_n 1, 1) := by decide +kernel
theorem dX1_add_32 : decode cX1_add 32 = .ok (.aload_n 0, 1) := by decide +kernel
theorem dX1_add_33 : decode cX1_add 33 = .ok (.getfield 13, 3) := by decide +kernel
theorem dX1_add_36 : decode cX1_add 36 = .ok (.lload 5, 2) := by decide +kernel
theorem dX1_add_38 : decode cX1_add 38 = .ok (.ldiv, 1) := by decide +kernel
theorem dX1_add_39 : decode cX1_add 39 = .ok (.lmul, 1) := by decide +kernel
theorem dX1_add_40 : decode cX1_add 40 = .ok (.ladd, 1) := by decide +kernel
theorem dX1_add_41 : decode cX1_add 41 = .ok (.aload_n 0, 1) := by decide +kernel
theorem dX1_add_42 : decode cX1_add 42 = .ok (.getfield 13, 3) := by decide +kernel
theorem dX1_add_45 : decode cX1_add 45 = .ok (.lload 7, 2) := by decide +kernel
theorem dX1_add_47 : decode cX1_add 47 = .ok (.lmul, 1) := by decide +kernel
theorem dX1_add_48 : decode cX1_add 48 = .ok (.invokevirtual 20, 3) := by decide +kernel
theorem dX1_add_51 : decode cX1_add 51 = .ok (.return_, 1) := by decide +kernel
theorem dX1_isMoreThan_0 : decode cX1_isMoreThan 0 = .ok (.aload_n 0, 1) := by decide +kernel
theorem dX1_isMoreThan_1 : decode cX1_isMoreThan 1 = .ok (.getfield 7, 3) := by decide +kernel
theorem dX1_isMoreThan_4 : decode cX1_isMoreThan 4 = .ok (.aload_n 1, 1) := by decide +kernel
theorem dX1_isMoreThan_5 : decode cX1_isMoreThan 5 = .ok (.getfield 13, 3) := by decide +kernel
theorem dX1_isMoreThan_8 : decode cX1_isMoreThan 8 = .ok (.lmul, 1) := by decide +kernel
theorem dX1_isMoreThan_9 : decode cX1_isMoreThan 9 = .ok (.aload_n 1, 1) := by decide +kernel
theorem dX1_isMoreThan_10 : decode cX1_isMoreThan 10 = .ok (.getfield 7, 3) := by decide +kernel
theorem dX1_isMoreThan_13 : decode cX1_isMoreThan 13 = .ok (.aload_n 0, 1) := by decide +kernel
theorem dX1_isMoreThan_14 : decode cX1_isMoreThan 14 = .ok (.getfield 13, 3) := by decide +kernel
theorem dX1_isMoreThan_17 : decode cX1_isMoreThan 17 = .ok (.lmul, 1) := by decide +kernel
theorem dX1_isMoreThan_18 : decode cX1_isMoreThan 18 = .ok (.lcmp, 1) := by decide +kernel
theorem dX1_isMoreThan_19 : decode cX1_isMoreThan 19 = .ok (.ifCond .le 7, 3) := by decide +kernel
theorem dX1_isMoreThan_22 : decode cX1_isMoreThan 22 = .ok (.iconst 1, 1) := by decide +kernel
theorem dX1_isMoreThan_23 : decode cX1_isMoreThan 23 = .ok (.goto 4, 3) := by decide +kernel
theorem dX1_isMoreThan_26 : decode cX1_isMoreThan 26 = .ok (.iconst 0, 1) := by decide +kernel
theorem dX1_isMoreThan_27 : decode cX1_isMoreThan 27 = .ok (.ireturn, 1) := by decide +kernel
theorem dX1_commonDivisor_0 : decode cX1_commonDivisor 0 = .ok (.lload_n 0, 1) := by decide +kernel
theorem dX1_commonDivisor_1 : decode cX1_commonDivisor 1 = .ok (.lstore 4, 2) := by decide +kernel
theorem dX1_commonDivisor_3 : decode cX1_commonDivisor 3 = .ok (.lload_n 2, 1) := by decide +kernel
theorem dX1_commonDivisor_4 : decode cX1_commonDivisor 4 = .ok (.lstore 6, 2) := by decide +kernel
theorem dX1_commonDivisor_6 : decode cX1_commonDivisor 6 = .ok (.iconst 0, 1) := by decide +kernel
theorem dX1_commonDivisor_7 : decode cX1_commonDivisor 7 = .ok (.istore 8, 2) := by decide +kernel
theorem dX1_commonDivisor_9 : decode cX1_commonDivisor 9 = .ok (.iload 8, 2) := by decide +kernel
theorem dX1_commonDivisor_11 : decode cX1_commonDivisor 11 = .ok (.sipush 128, 3) := by decide +kernel
theorem dX1_commonDivisor_14 : decode cX1_commonDivisor 14 = .ok (.if_icmp .ge 31, 3) := by decide +kernel
theorem dX1_commonDivisor_17 : decode cX1_commonDivisor 17 = .ok (.lload 6, 2) := by decide +kernel
theorem dX1_commonDivisor_19 : decode cX1_commonDivisor 19 = .ok (.lconst 0, 1) := by decide +kernel
theorem dX1_commonDivisor_20 : decode cX1_commonDivisor 20 = .ok (.lcmp, 1) := by decide +kernel
theorem dX1_commonDivisor_21 : decode cX1_commonDivisor 21 = .ok (.ifCond .eq 24, 3) := by decide +kernel
theorem dX1_commonDivisor_24 : decode cX1_commonDivisor 24 = .ok (.lload 4, 2) := by decide +kernel
theorem dX1_commonDivisor_26 : decode cX1_commonDivisor 26 = .ok (.lload 6, 2) := by decide +kernel
theorem dX1_commonDivisor_28 : decode cX1_commonDivisor 28 = .ok (.lrem, 1) := by decide +kernel
theorem dX1_commonDivisor_29 : decode cX1_commonDivisor 29 = .ok (.lstore 9, 2) := by decide +kernel
theorem dX1_commonDivisor_31 : decode cX1_commonDivisor 31 = .ok (.lload 6, 2) := by decide +kernel
theorem dX1_commonDivisor_33 : decode cX1_commonDivisor 33 = .ok (.lstore 4, 2) := by decide +kernel
theorem dX1_commonDivisor_35 : decode cX1_commonDivisor 35 = .ok (.lload 9, 2) := by decide +kernel
theorem dX1_commonDivisor_37 : decode cX1_commonDivisor 37 = .ok (.lstore 6, 2) := by decide +kernel
theorem dX1_commonDivisor_39 : decode cX1_commonDivisor 39 = .ok (.iinc 8 1, 3) := by decide +kernel
theorem dX1_commonDivisor_42 : decode cX1_commonDivisor 42 = .ok (.goto (-33), 3) := by decide +kernel
theorem dX1_commonDivisor_45 : decode cX1_commonDivisor 45 = .ok (.lload 4, 2) := by decide +kernel
theorem dX1_commonDivisor_47 : decode cX1_commonDivisor 47 = .ok (.lreturn, 1) := by decide +kernel
set_option maxRecDepth 20000 in
theorem ggX2_init_X5_init : GoodIn wsX2_init wsX5_init := goodIn_r _ [13, 14, 2, 3, 15, 16, 17, 18, 19, 20, 21] (by decide +kernel) (by decide +kernel)
set_option maxRecDepth 20000 in
theorem gX2_init_X5_init : GoodIn wsX2_init (wsX5_init) := ggX2_init_X5_init
theorem dX2_init_0 : decode cX2_init 0 = .ok (.aload_n 0, 1) := by decide +kernel
theorem dX2_init_1 : decode cX2_init 1 = .ok (.invokespecial 3, 3) := by decide +kernel
theorem dX2_init_4 : decode cX2_init 4 = .ok (.aload_n 0, 1) := by decide +kernel
theorem dX2_init_5 : decode cX2_init 5 = .ok (.new 9, 3) := by decide +kernel
theorem dX2_init_8 : decode cX2_init 8 = .ok (.dup, 1) := by decide +kernel
theorem dX2_init_9 : decode cX2_init 9 = .ok (.bipush 6, 2) := by decide +kernel
theorem dX2_init_11 : decode cX2_init 11 = .ok (.invokespecial 11, 3) := by decide +kernel
theorem dX2_init_14 : decode cX2_init 14 = .ok (.putfield 14, 3) := by decide +kernel
theorem dX2_init_17 : decode cX2_init 17 = .ok (.aload_n 0, 1) := by decide +kernel
theorem dX2_init_18 : decode cX2_init 18 = .ok (.new 9, 3) := by decide +kernel
theorem dX2_init_21 : decode cX2_init 21 = .ok (.dup, 1) := by decide +kernel
theorem dX2_init_22 : decode cX2_init 22 = .ok (.bipush 6, 2) := by decide +kernel
theorem dX2_init_24 : decode cX2_init 24 = .ok (.invokespecial 11, 3) := by decide +kernel
theorem dX2_init_27 : decode cX2_init 27 = .ok (.putfield 20, 3) := by decide +kernel
theorem dX2_init_30 : decode cX2_init 30 = .ok (.aload_n 0, 1) := by decide +kernel
theorem dX2_init_31 : decode cX2_init 31 = .ok (.iconst 0, 1) := by decide +kernel
theorem dX2_init_32 : decode cX2_init 32 = .ok (.putfield 23, 3) := by decide +kernel
theorem dX2_init_35 : decode cX2_init 35 = .ok (.aload_n 0, 1) := by decide +kernel
theorem dX2_init_36 : decode cX2_init 36 = .ok (.iconst 0, 1) := by decide +kernel
theorem dX2_init_37 : decode cX2_init 37 = .ok (.putfield 27, 3) := by decide +kernel
theorem dX2_init_40 : decode cX2_init 40 = .ok (.return_, 1) := by decide +kernel
set_option maxRecDepth 20000 in
theorem ggX2_findAll_X2_goOn : GoodIn wsX2_findAll wsX2_goOn := goodIn_r _ [6, 7, 8, 9, 10, 5, 11, 1, 12, 2, 13, 14, 15, 16, 17, 18, 19, 20, 21, 22, 23, 24, 25, 26, 27, 28, 29, 30, 31, 32, 33, 3, 4, 38, 39, 40, 41, 42, 34, 35, 36, 37, 43] (by decide +kernel) (by decide +kernel)
set_option maxRecDepth 20000 in
theorem gX2_findAll_X2_goOn : GoodIn wsX2_findAll (va_wsS RX2 30 yX2_goOn wsX2_goOn) := goodIn_app (goodIn_of _ (by decide +kernel)) ggX2_findAll_X2_goOn
theorem dX2_findAll_0 : decode cX2_findAll 0 = .ok (.aload_n 0, 1) := by decide +kernel
theorem dX2_findAll_1 : decode cX2_findAll 1 = .ok (.iconst 0, 1) := by decide +kernel
theorem dX2_findAll_2 : decode cX2_findAll 2 = .ok (.putfield 27, 3) := by decide +kernel
theorem dX2_findAll_5 : decode cX2_findAll 5 = .ok (.aload_n 0, 1) := by decide +kernel
theorem dX2_findAll_6 : decode cX2_findAll 6 = .ok (.iconst 0, 1) := by decide +kernel
theorem dX2_findAll_7 : decode cX2_findAll 7 = .ok (.putfield 23, 3) := by decide +kernel
theorem dX2_findAll_10 : decode cX2_findAll 10 = .ok (.aload_n 0, 1) := by decide +kernel
theorem dX2_findAll_11 : decode cX2_findAll 11 = .ok (.aload_n 1, 1) := by decide +kernel
theorem dX2_findAll_12 : decode cX2_findAll 12 = .ok (.iload_n 2, 1) := by decide +kernel
theorem dX2_findAll_13 : decode cX2_findAll 13 = .ok (.iconst 0, 1) := by decide +kernel
theorem dX2_findAll_14 : decode cX2_findAll 14 = .ok (.invokestatic 30, 3) := by decide +kernel
theorem dX2_findAll_17 : decode cX2_findAll 17 = .ok (.return_, 1) := by decide +kernel
set_option maxRecDepth 20000 in
theorem ggX2_goOn_X2_take : GoodIn wsX2_goOn wsX2_take := goodIn_r _ [6, 7, 8, 1, 9, 10, 11, 12, 13, 14, 15, 16, 17, 18, 19, 38, 39, 40, 41, 42] (by decide +kernel) (by decide +kernel)
set_option maxRecDepth 20000 in
theorem gX2_goOn_X2_take : GoodIn wsX2_goOn (wsV RX2 34 RX2 yX2_take wsX2_take) := goodIn_app (goodIn_of _ (by decide +kernel)) ggX2_goOn_X2_take
set_option maxRecDepth 20000 in
theorem ggX2_goOn_X6_holds : GoodIn wsX2_goOn wsX6_holds := goodIn_r _ [22] (by decide +kernel) (by decide +kernel)
set_option maxRecDepth 20000 in
theorem gX2_goOn_X6_holds_n40 : GoodIn wsX2_goOn (wsX6_holds) := ggX2_goOn_X6_holds
set_option maxRecDepth 20000 in
theorem ggX2_goOn_X5_at : GoodIn wsX2_goOn wsX5_at := goodIn_r _ [19, 15, 42] (by decide +kernel) (by decide +kernel)
set_option maxRecDepth 20000 in
theorem gX2_goOn_X5_at : GoodIn wsX2_goOn (wsV RX2 44 RX5 yX5_at wsX5_at) := goodIn_app (goodIn_of _ (by decide +kernel)) ggX2_goOn_X5_at
set_option maxRecDepth 20000 in
theorem ggX2_goOn_X2_unlikeSingers : GoodIn wsX2_goOn wsX2_unlikeSingers := goodIn_r _ [26, 23, 17, 18, 13, 19, 15, 33, 34, 35, 36, 37, 42] (by decide +kernel) (by decide +kernel)
set_option maxRecDepth 20000 in
theorem gX2_goOn_X2_unlikeSingers : GoodIn wsX2_goOn (va_wsS RX2 48 yX2_unlikeSingers wsX2_unlikeSingers) := goodIn_app (goodIn_of _ (by decide +kernel)) ggX2_goOn_X2_unlikeSingers
set_option maxRecDepth 20000 in
theorem ggX2_goOn_X5_put : GoodIn wsX2_goOn wsX5_put := goodIn_r _ [30, 15, 42] (by decide +kernel) (by decide +kernel)
set_option maxRecDepth 20000 in
theorem gX2_goOn_X5_put : GoodIn wsX2_goOn (wsV RX2 52 RX5 yX5_put wsX5_put) := goodIn_app (goodIn_of _ (by decide +kernel)) ggX2_goOn_X5_put
set_option maxRecDepth 20000 in
theorem ggX2_goOn_X2_goOn : GoodIn wsX2_goOn wsX2_goOn := goodIn_r _ [0, 1, 2, 3, 4, 5, 6, 7, 8, 9, 10, 11, 12, 13, 14, 15, 16, 17, 18, 19, 20, 21, 22, 23, 24, 25, 26, 27, 28, 29, 30, 31, 32, 33, 34, 35, 36, 37, 38, 39, 40, 41, 42] (by decide +kernel) (by decide +kernel)
set_option maxRecDepth 20000 in
theorem gX2_goOn_X2_goOn : GoodIn wsX2_goOn (va_wsS RX2 30 yX2_goOn wsX2_goOn) := goodIn_app (goodIn_of _ (by decide +kernel)) ggX2_goOn_X2_goOn
theorem dX2_goOn_0 : decode cX2_goOn 0 = .ok (.iload_n 2, 1) := by decide +kernel
theorem dX2_goOn_1 : decode cX2_goOn 1 = .ok (.ifCond .ne 9, 3) := by decide +kernel
theorem dX2_goOn_4 : decode cX2_goOn 4 = .ok (.aload_n 0, 1) := by decide +kernel
theorem dX2_goOn_5 : decode cX2_goOn 5 = .ok (.iload_n 3, 1) := by decide +kernel
theorem dX2_goOn_6 : decode cX2_goOn 6 = .ok (.invokevirtual 34, 3) := by decide +kernel
theorem dX2_goOn_9 : decode cX2_goOn 9 = .ok (.return_, 1) := by decide +kernel
theorem dX2_goOn_10 : decode cX2_goOn 10 = .ok (.iload_n 3, 1) := by decide +kernel
theorem dX2_goOn_11 : decode cX2_goOn 11 = .ok (.bipush 6, 2) := by decide +kernel
theorem dX2_goOn_13 : decode cX2_goOn 13 = .ok (.if_icmp .lt 4, 3) := by decide +kernel
theorem dX2_goOn_16 : decode cX2_goOn 16 = .ok (.return_, 1) := by decide +kernel
theorem dX2_goOn_17 : decode cX2_goOn 17 = .ok (.iconst 0, 1) := by decide +kernel
theorem dX2_goOn_18 : decode cX2_goOn 18 = .ok (.istore 4, 2) := by decide +kernel
theorem dX2_goOn_20 : decode cX2_goOn 20 = .ok (.iload 4, 2) := by decide +kernel
theorem dX2_goOn_22 : decode cX2_goOn 22 = .ok (.aload_n 1, 1) := by decide +kernel
theorem dX2_goOn_23 : decode cX2_goOn 23 = .ok (.getfield 37, 3) := by decide +kernel
theorem dX2_goOn_26 : decode cX2_goOn 26 = .ok (.if_icmp .ge 67, 3) := by decide +kernel
theorem dX2_goOn_29 : decode cX2_goOn 29 = .ok (.iload_n 2, 1) := by decide +kernel
theorem dX2_goOn_30 : decode cX2_goOn 30 = .ok (.iload 4, 2) := by decide +kernel
theorem dX2_goOn_32 : decode cX2_goOn 32 = .ok (.invokestatic 40, 3) := by decide +kernel
theorem dX2_goOn_35 : decode cX2_goOn 35 = .ok (.ifCond .eq 52, 3) := by decide +kernel
theorem dX2_goOn_38 : decode cX2_goOn 38 = .ok (.iload_n 3, 1) := by decide +kernel
theorem dX2_goOn_39 : decode cX2_goOn 39 = .ok (.ifCond .eq 22, 3) := by decide +kernel
theorem dX2_goOn_42 : decode cX2_goOn 42 = .ok (.aload_n 1, 1) := by decide +kernel
theorem dX2_goOn_43 : decode cX2_goOn 43 = .ok (.iload 4, 2) := by decide +kernel
theorem dX2_goOn_45 : decode cX2_goOn 45 = .ok (.aload_n 0, 1) := by decide +kernel
theorem dX2_goOn_46 : decode cX2_goOn 46 = .ok (.getfield 14, 3) := by decide +kernel
theorem dX2_goOn_49 : decode cX2_goOn 49 = .ok (.iload_n 3, 1) := by decide +kernel
theorem dX2_goOn_50 : decode cX2_goOn 50 = .ok (.iconst 1, 1) := by decide +kernel
theorem dX2_goOn_51 : decode cX2_goOn 51 = .ok (.isub, 1) := by decide +kernel
theorem dX2_goOn_52 : decode cX2_goOn 52 = .ok (.invokevirtual 44, 3) := by decide +kernel
theorem dX2_goOn_55 : decode cX2_goOn 55 = .ok (.invokestatic 48, 3) := by decide +kernel
theorem dX2_goOn_58 : decode cX2_goOn 58 = .ok (.ifCond .eq 29, 3) := by decide +kernel
theorem dX2_goOn_61 : decode cX2_goOn 61 = .ok (.aload_n 0, 1) := by decide +kernel
theorem dX2_goOn_62 : decode cX2_goOn 62 = .ok (.getfield 14, 3) := by decide +kernel
theorem dX2_goOn_65 : decode cX2_goOn 65 = .ok (.iload_n 3, 1) := by decide +kernel
theorem dX2_goOn_66 : decode cX2_goOn 66 = .ok (.iload 4, 2) := by decide +kernel
theorem dX2_goOn_68 : decode cX2_goOn 68 = .ok (.invokevirtual 52, 3) := by decide +kernel
theorem dX2_goOn_71 : decode cX2_goOn 71 = .ok (.aload_n 0, 1) := by decide +kernel
theorem dX2_goOn_72 : decode cX2_goOn 72 = .ok (.aload_n 1, 1) := by decide +kernel
theorem dX2_goOn_73 : decode cX2_goOn 73 = .ok (.iload_n 2, 1) := by decide +kernel
theorem dX2_goOn_74 : decode cX2_goOn 74 = .ok (.iconst 1, 1) := by decide +kernel
theorem dX2_goOn_75 : decode cX2_goOn 75 = .ok (.iload 4, 2) := by decide +kernel
theorem dX2_goOn_77 : decode cX2_goOn 77 = .ok (.ishl, 1) := by decide +kernel
theorem dX2_goOn_78 : decode cX2_goOn 78 = .ok (.iconst (-1), 1) := by decide +kernel
theorem dX2_goOn_79 : decode cX2_goOn 79 = .ok (.ixor, 1) := by decide +kernel
theorem dX2_goOn_80 : decode cX2_goOn 80 = .ok (.iand, 1) := by decide +kernel
theorem dX2_goOn_81 : decode cX2_goOn 81 = .ok (.iload_n 3, 1) := by decide +kernel
theorem dX2_goOn_82 : decode cX2_goOn 82 = .ok (.iconst 1, 1) := by decide +kernel
theorem dX2_goOn_83 : decode cX2_goOn 83 = .ok (.iadd, 1) := by decide +kernel
theorem dX2_goOn_84 : decode cX2_goOn 84 = .ok (.invokestatic 30, 3) := by decide +kernel
theorem dX2_goOn_87 : decode cX2_goOn 87 = .ok (.iinc 4 1, 3) := by decide +kernel
theorem dX2_goOn_90 : decode cX2_goOn 90 = .ok (.goto (-70), 3) := by decide +kernel
theorem dX2_goOn_93 : decode cX2_goOn 93 = .ok (.return_, 1) := by decide +kernel
set_option maxRecDepth 20000 in
theorem ggX2_unlikeSingers_X5_at : GoodIn wsX2_unlikeSingers wsX5_at := goodIn_r _ [5, 6, 12] (by decide +kernel) (by decide +kernel)
set_option maxRecDepth 20000 in
theorem gX2_unlikeSingers_X5_at : GoodIn wsX2_unlikeSingers (wsV RX2 44 RX5 yX5_at wsX5_at) := goodIn_app (goodIn_of _ (by decide +kernel)) ggX2_unlikeSingers_X5_at
theorem dX2_unlikeSingers_0 : decode cX2_unlikeSingers 0 = .ok (.aload_n 0, 1) := by decide +kernel
theorem dX2_unlikeSingers_1 : decode cX2_unlikeSingers 1 = .ok (.getfield 56, 3) := by decide +kernel
theorem dX2_unlikeSingers_4 : decode cX2_unlikeSingers 4 = .ok (.iload_n 1, 1) := by decide +kernel
theorem dX2_unlikeSingers_5 : decode cX2_unlikeSingers 5 = .ok (.invokevirtual 44, 3) := by decide +kernel
theorem dX2_unlikeSingers_8 : decode cX2_unlikeSingers 8 = .ok (.aload_n 0, 1) := by decide +kernel
theorem dX2_unlikeSingers_9 : decode cX2_unlikeSingers 9 = .ok (.getfield 56, 3) := by decide +kernel
theorem dX2_unlikeSingers_12 : decode cX2_unlikeSingers 12 = .ok (.iload_n 2, 1) := by decide +kernel
theorem dX2_unlikeSingers_13 : decode cX2_unlikeSingers 13 = .ok (.invokevirtual 44, 3) := by decide +kernel
theorem dX2_unlikeSingers_16 : decode cX2_unlikeSingers 16 = .ok (.if_icmp .eq 7, 3) := by decide +kernel
theorem dX2_unlikeSingers_19 : decode cX2_unlikeSingers 19 = .ok (.iconst 1, 1) := by decide +kernel
theorem dX2_unlikeSingers_20 : decode cX2_unlikeSingers 20 = .ok (.goto 4, 3) := by decide +kernel
theorem dX2_unlikeSingers_23 : decode cX2_unlikeSingers 23 = .ok (.iconst 0, 1) := by decide +kernel
theorem dX2_unlikeSingers_24 : decode cX2_unlikeSingers 24 = .ok (.ireturn, 1) := by decide +kernel
set_option maxRecDepth 20000 in
theorem ggX2_take_X5_become : GoodIn wsX2_take wsX5_become := goodIn_r _ [9, 10, 11, 12, 13, 8, 14, 19] (by decide +kernel) (by decide +kernel)
set_option maxRecDepth 20000 in
theorem gX2_take_X5_become : GoodIn wsX2_take (wsV RX2 59 RX5 yX5_become wsX5_become) := goodIn_app (goodIn_of _ (by decide +kernel)) ggX2_take_X5_become
theorem dX2_take_0 : decode cX2_take 0 = .ok (.aload_n 0, 1) := by decide +kernel
theorem dX2_take_1 : decode cX2_take 1 = .ok (.getfield 27, 3) := by decide +kernel
theorem dX2_take_4 : decode cX2_take 4 = .ok (.ifCond .ne 19, 3) := by decide +kernel
theorem dX2_take_7 : decode cX2_take 7 = .ok (.aload_n 0, 1) := by decide +kernel
theorem dX2_take_8 : decode cX2_take 8 = .ok (.getfield 20, 3) := by decide +kernel
theorem dX2_take_11 : decode cX2_take 11 = .ok (.aload_n 0, 1) := by decide +kernel
theorem dX2_take_12 : decode cX2_take 12 = .ok (.getfield 14, 3) := by decide +kernel
theorem dX2_take_15 : decode cX2_take 15 = .ok (.invokevirtual 59, 3) := by decide +kernel
theorem dX2_take_18 : decode cX2_take 18 = .ok (.aload_n 0, 1) := by decide +kernel
theorem dX2_take_19 : decode cX2_take 19 = .ok (.iload_n 1, 1) := by decide +kernel
theorem dX2_take_20 : decode cX2_take 20 = .ok (.putfield 23, 3) := by decide +kernel
theorem dX2_take_23 : decode cX2_take 23 = .ok (.aload_n 0, 1) := by decide +kernel
theorem dX2_take_24 : decode cX2_take 24 = .ok (.dup, 1) := by decide +kernel
theorem dX2_take_25 : decode cX2_take 25 = .ok (.getfield 27, 3) := by decide +kernel
theorem dX2_take_28 : decode cX2_take 28 = .ok (.iconst 1, 1) := by decide +kernel
theorem dX2_take_29 : decode cX2_take 29 = .ok (.iadd, 1) := by decide +kernel
theorem dX2_take_30 : decode cX2_take 30 = .ok (.putfield 27, 3) := by decide +kernel
theorem dX2_take_33 : decode cX2_take 33 = .ok (.return_, 1) := by decide +kernel
set_option maxRecDepth 20000 in
theorem ggX2_fact_X5_at : GoodIn wsX2_fact wsX5_at := goodIn_r _ [8, 9, 14] (by decide +kernel) (by decide +kernel)
set_option maxRecDepth 20000 in
theorem gX2_fact_X5_at : GoodIn wsX2_fact (wsV RX2 44 RX5 yX5_at wsX5_at) := goodIn_app (goodIn_of _ (by decide +kernel)) ggX2_fact_X5_at
theorem dX2_fact_0 : decode cX2_fact 0 = .ok (.iload_n 1, 1) := by decide +kernel
theorem dX2_fact_1 : decode cX2_fact 1 = .ok (.ifCond .ne 8, 3) := by decide +kernel
theorem dX2_fact_4 : decode cX2_fact 4 = .ok (.aload_n 0, 1) := by decide +kernel
theorem dX2_fact_5 : decode cX2_fact 5 = .ok (.getfield 27, 3) := by decide +kernel
theorem dX2_fact_8 : decode cX2_fact 8 = .ok (.ireturn, 1) := by decide +kernel
theorem dX2_fact_9 : decode cX2_fact 9 = .ok (.iload_n 1, 1) := by decide +kernel
theorem dX2_fact_10 : decode cX2_fact 10 = .ok (.bipush 10, 2) := by decide +kernel
theorem dX2_fact_12 : decode cX2_fact 12 = .ok (.isub, 1) := by decide +kernel
theorem dX2_fact_13 : decode cX2_fact 13 = .ok (.istore_n 2, 1) := by decide +kernel
theorem dX2_fact_14 : decode cX2_fact 14 = .ok (.iload_n 2, 1) := by decide +kernel
theorem dX2_fact_15 : decode cX2_fact 15 = .ok (.ifCond .lt 22, 3) := by decide +kernel
theorem dX2_fact_18 : decode cX2_fact 18 = .ok (.iload_n 2, 1) := by decide +kernel
theorem dX2_fact_19 : decode cX2_fact 19 = .ok (.aload_n 0, 1) := by decide +kernel
theorem dX2_fact_20 : decode cX2_fact 20 = .ok (.getfield 23, 3) := by decide +kernel
theorem dX2_fact_23 : decode cX2_fact 23 = .ok (.if_icmp .ge 14, 3) := by decide +kernel
theorem dX2_fact_26 : decode cX2_fact 26 = .ok (.aload_n 0, 1) := by decide +kernel
theorem dX2_fact_27 : decode cX2_fact 27 = .ok (.getfield 20, 3) := by decide +kernel
theorem dX2_fact_30 : decode cX2_fact 30 = .ok (.iload_n 2, 1) := by decide +kernel
theorem dX2_fact_31 : decode cX2_fact 31 = .ok (.invokevirtual 44, 3) := by decide +kernel
theorem dX2_fact_34 : decode cX2_fact 34 = .ok (.goto 4, 3) := by decide +kernel
theorem dX2_fact_37 : decode cX2_fact 37 = .ok (.iconst (-1), 1) := by decide +kernel
theorem dX2_fact_38 : decode cX2_fact 38 = .ok (.ireturn, 1) := by decide +kernel
set_option maxRecDepth 20000 in
theorem ggX3_init_X5_init : GoodIn wsX3_init wsX5_init := goodIn_r _ [11, 12, 2, 3, 13, 14, 15, 16, 17, 18, 19] (by decide +kernel) (by decide +kernel)
set_option maxRecDepth 20000 in
theorem gX3_init_X5_init : GoodIn wsX3_init (wsX5_init) := ggX3_init_X5_init
theorem dX3_init_0 : decode cX3_init 0 = .ok (.aload_n 0, 1) := by decide +kernel
theorem dX3_init_1 : decode cX3_init 1 = .ok (.invokespecial 3, 3) := by decide +kernel
theorem dX3_init_4 : decode cX3_init 4 = .ok (.aload_n 0, 1) := by decide +kernel
theorem dX3_init_5 : decode cX3_init 5 = .ok (.new 9, 3) := by decide +kernel
theorem dX3_init_8 : decode cX3_init 8 = .ok (.dup, 1) := by decide +kernel
theorem dX3_init_9 : decode cX3_init 9 = .ok (.bipush 22, 2) := by decide +kernel
theorem dX3_init_11 : decode cX3_init 11 = .ok (.invokespecial 11, 3) := by decide +kernel
theorem dX3_init_14 : decode cX3_init 14 = .ok (.putfield 14, 3) := by decide +kernel
theorem dX3_init_17 : decode cX3_init 17 = .ok (.aload_n 0, 1) := by decide +kernel
theorem dX3_init_18 : decode cX3_init 18 = .ok (.iconst 0, 1) := by decide +kernel
theorem dX3_init_19 : decode cX3_init 19 = .ok (.putfield 20, 3) := by decide +kernel
theorem dX3_init_22 : decode cX3_init 22 = .ok (.return_, 1) := by decide +kernel
set_option maxRecDepth 20000 in
theorem ggX3_append_X5_put : GoodIn wsX3_append wsX5_put := goodIn_r _ [7, 8, 11] (by decide +kernel) (by decide +kernel)
set_option maxRecDepth 20000 in
theorem gX3_append_X5_put : GoodIn wsX3_append (wsV RX3 24 RX5 yX5_put wsX5_put) := goodIn_app (goodIn_of _ (by decide +kernel)) ggX3_append_X5_put
theorem dX3_append_0 : decode cX3_append 0 = .ok (.aload_n 0, 1) := by decide +kernel
theorem dX3_append_1 : decode cX3_append 1 = .ok (.getfield 14, 3) := by decide +kernel
theorem dX3_append_4 : decode cX3_append 4 = .ok (.aload_n 0, 1) := by decide +kernel
theorem dX3_append_5 : decode cX3_append 5 = .ok (.getfield 20, 3) := by decide +kernel
theorem dX3_append_8 : decode cX3_append 8 = .ok (.iload_n 1, 1) := by decide +kernel
theorem dX3_append_9 : decode cX3_append 9 = .ok (.invokevirtual 24, 3) := by decide +kernel
theorem dX3_append_12 : decode cX3_append 12 = .ok (.aload_n 0, 1) := by decide +kernel
theorem dX3_append_13 : decode cX3_append 13 = .ok (.dup, 1) := by decide +kernel
theorem dX3_append_14 : decode cX3_append 14 = .ok (.getfield 20, 3) := by decide +kernel
theorem dX3_append_17 : decode cX3_append 17 = .ok (.iconst 1, 1) := by decide +kernel
theorem dX3_append_18 : decode cX3_append 18 = .ok (.iadd, 1) := by decide +kernel
theorem dX3_append_19 : decode cX3_append 19 = .ok (.putfield 20, 3) := by decide +kernel
theorem dX3_append_22 : decode cX3_append 22 = .ok (.return_, 1) := by decide +kernel
theorem dX3_clear_0 : decode cX3_clear 0 = .ok (.aload_n 0, 1) := by decide +kernel
theorem dX3_clear_1 : decode cX3_clear 1 = .ok (.iconst 0, 1) := by decide +kernel
theorem dX3_clear_2 : decode cX3_clear 2 = .ok (.putfield 20, 3) := by decide +kernel
theorem dX3_clear_5 : decode cX3_clear 5 = .ok (.return_, 1) := by decide +kernel
set_option maxRecDepth 20000 in
theorem ggX3_firstFault_X3_fits : GoodIn wsX3_firstFault wsX3_fits := goodIn_r _ [7, 2, 8, 9, 10, 11, 12, 13, 14, 15, 6, 16, 17, 18, 19, 20, 21, 22, 23, 24, 25, 26, 27, 28, 29, 30, 31, 32, 33, 34, 35, 36, 37, 38, 39, 40, 41, 42, 43, 44, 45, 46, 47, 48, 49, 50, 51, 52, 53, 54, 55, 56, 57, 58, 59, 60, 61, 62, 63, 64, 65, 66, 67, 68, 69, 70, 71, 72, 73, 74, 75, 76, 77, 78, 79, 80, 81, 82, 83, 84, 85, 86, 87, 88, 89, 90, 91, 92, 93, 94, 95, 96, 97, 98, 99, 100, 101, 102, 103, 104, 105, 106, 107, 108, 109, 110, 111] (by decide +kernel) (by decide +kernel)
set_option maxRecDepth 20000 in
theorem gX3_firstFault_X3_fits : GoodIn wsX3_firstFault (wsV RX3 28 RX3 yX3_fits wsX3_fits) := goodIn_app (goodIn_of _ (by decide +kernel)) ggX3_firstFault_X3_fits
set_option maxRecDepth 20000 in
theorem ggX3_firstFault_X5_at : GoodIn wsX3_firstFault wsX5_at := goodIn_r _ [12, 13, 111] (by decide +kernel) (by decide +kernel)
set_option maxRecDepth 20000 in
theorem gX3_firstFault_X5_at : GoodIn wsX3_firstFault (wsV RX3 32 RX5 yX5_at wsX5_at) := goodIn_app (goodIn_of _ (by decide +kernel)) ggX3_firstFault_X5_at
theorem dX3_firstFault_0 : decode cX3_firstFault 0 = .ok (.iconst (-1), 1) := by decide +kernel
theorem dX3_firstFault_1 : decode cX3_firstFault 1 = .ok (.istore_n 1, 1) := by decide +kernel
theorem dX3_firstFault_2 : decode cX3_firstFault 2 = .ok (.iconst 0, 1) := by decide +kernel
theorem dX3_firstFault_3 : decode cX3_firstFault 3 = .ok (.istore_n 2, 1) := by decide +kernel
theorem dX3_firstFault_4 : decode cX3_firstFault 4 = .ok (.iload_n 2, 1) := by decide +kernel
theorem dX3_firstFault_5 : decode cX3_firstFault 5 = .ok (.aload_n 0, 1) := by decide +kernel
theorem dX3_firstFault_6 : decode cX3_firstFault 6 = .ok (.getfield 20, 3) := by decide +kernel
theorem dX3_firstFault_9 : decode cX3_firstFault 9 = .ok (.if_icmp .ge 35, 3) := by decide +kernel
theorem dX3_firstFault_12 : decode cX3_firstFault 12 = .ok (.aload_n 0, 1) := by decide +kernel
theorem dX3_firstFault_13 : decode cX3_firstFault 13 = .ok (.iload_n 2, 1) := by decide +kernel
theorem dX3_firstFault_14 : decode cX3_firstFault 14 = .ok (.iload_n 1, 1) := by decide +kernel
theorem dX3_firstFault_15 : decode cX3_firstFault 15 = .ok (.invokevirtual 28, 3) := by decide +kernel
theorem dX3_firstFault_18 : decode cX3_firstFault 18 = .ok (.ifCond .ne 5, 3) := by decide +kernel
theorem dX3_firstFault_21 : decode cX3_firstFault 21 = .ok (.iload_n 2, 1) := by decide +kernel
theorem dX3_firstFault_22 : decode cX3_firstFault 22 = .ok (.ireturn, 1) := by decide +kernel
theorem dX3_firstFault_23 : decode cX3_firstFault 23 = .ok (.aload_n 0, 1) := by decide +kernel
theorem dX3_firstFault_24 : decode cX3_firstFault 24 = .ok (.getfield 14, 3) := by decide +kernel
theorem dX3_firstFault_27 : decode cX3_firstFault 27 = .ok (.iload_n 2, 1) := by decide +kernel
theorem dX3_firstFault_28 : decode cX3_firstFault 28 = .ok (.invokevirtual 32, 3) := by decide +kernel
theorem dX3_firstFault_31 : decode cX3_firstFault 31 = .ok (.bipush 59, 2) := by decide +kernel
theorem dX3_firstFault_33 : decode cX3_firstFault 33 = .ok (.if_icmp .ne 5, 3) := by decide +kernel
theorem dX3_firstFault_36 : decode cX3_firstFault 36 = .ok (.iload_n 2, 1) := by decide +kernel
theorem dX3_firstFault_37 : decode cX3_firstFault 37 = .ok (.istore_n 1, 1) := by decide +kernel
theorem dX3_firstFault_38 : decode cX3_firstFault 38 = .ok (.iinc 2 1, 3) := by decide +kernel
theorem dX3_firstFault_41 : decode cX3_firstFault 41 = .ok (.goto (-37), 3) := by decide +kernel
theorem dX3_firstFault_44 : decode cX3_firstFault 44 = .ok (.aload_n 0, 1) := by decide +kernel
theorem dX3_firstFault_45 : decode cX3_firstFault 45 = .ok (.getfield 20, 3) := by decide +kernel
theorem dX3_firstFault_48 : decode cX3_firstFault 48 = .ok (.ireturn, 1) := by decide +kernel
set_option maxRecDepth 20000 in
theorem ggX3_fits_X5_at : GoodIn wsX3_fits wsX5_at := goodIn_r _ [6, 7, 106] (by decide +kernel) (by decide +kernel)
set_option maxRecDepth 20000 in
theorem gX3_fits_X5_at : GoodIn wsX3_fits (wsV RX3 32 RX5 yX5_at wsX5_at) := goodIn_app (goodIn_of _ (by decide +kernel)) ggX3_fits_X5_at
set_option maxRecDepth 20000 in
theorem ggX3_fits_X3_isDigitBelow : GoodIn wsX3_fits wsX3_isDigitBelow := goodIn_r _ [11] (by decide +kernel) (by decide +kernel)
set_option maxRecDepth 20000 in
theorem gX3_fits_X3_isDigitBelow : GoodIn wsX3_fits (va_wsS RX3 36 yX3_isDigitBelow wsX3_isDigitBelow) := goodIn_app (goodIn_of _ (by decide +kernel)) ggX3_fits_X3_isDigitBelow
set_option maxRecDepth 20000 in
theorem ggX3_fits_J0_indexOf_0f7a4 : GoodIn wsX3_fits wsJ0_indexOf_0f7a4 := goodIn_r _ [16, 17, 18, 19, 15, 20, 21, 22, 23, 24, 25, 26, 27, 28, 29, 30, 31, 32, 33, 34, 35, 36, 37, 38, 39, 40, 41, 42, 43, 44, 45, 46, 47, 48, 49, 50, 51, 52, 53, 54, 55, 56, 57, 58, 59, 60, 61, 62, 63, 64, 65, 66, 67, 68, 69, 70, 71, 72, 73, 74, 75, 76, 77, 78, 79, 80, 81, 82, 83, 84, 85, 86, 87, 88, 89, 90, 91, 92, 93, 94, 95, 96, 97, 98, 99, 100] (by decide +kernel) (by decide +kernel)
set_option maxRecDepth 20000 in
theorem gX3_fits_J0_indexOf_0f7a4 : GoodIn wsX3_fits (wsV RX3 41 RJ0 yJ0_indexOf_0f7a4 wsJ0_indexOf_0f7a4) := goodIn_app (goodIn_of _ (by decide +kernel)) ggX3_fits_J0_indexOf_0f7a4
set_option maxRecDepth 20000 in
theorem ggX3_fits_X3_endsSong : GoodIn wsX3_fits wsX3_endsSong := goodIn_r _ [103] (by decide +kernel) (by decide +kernel)
set_option maxRecDepth 20000 in
theorem gX3_fits_X3_endsSong : GoodIn wsX3_fits (va_wsS RX3 46 yX3_endsSong wsX3_endsSong) := goodIn_app (goodIn_of _ (by decide +kernel)) ggX3_fits_X3_endsSong
theorem dX3_fits_0 : decode cX3_fits 0 = .ok (.aload_n 0, 1) := by decide +kernel
theorem dX3_fits_1 : decode cX3_fits 1 = .ok (.getfield 14, 3) := by decide +kernel
theorem dX3_fits_4 : decode cX3_fits 4 = .ok (.iload_n 1, 1) := by decide +kernel
theorem dX3_fits_5 : decode cX3_fits 5 = .ok (.invokevirtual 32, 3) := by decide +kernel
theorem dX3_fits_8 : decode cX3_fits 8 = .ok (.istore_n 3, 1) := by decide +kernel
theorem dX3_fits_9 : decode cX3_fits 9 = .ok (.iload_n 2, 1) := by decide +kernel
theorem dX3_fits_10 : decode cX3_fits 10 = .ok (.iconst (-1), 1) := by decide +kernel
theorem dX3_fits_11 : decode cX3_fits 11 = .ok (.if_icmp .eq 24, 3) := by decide +kernel
theorem dX3_fits_14 : decode cX3_fits 14 = .ok (.iload_n 1, 1) := by decide +kernel
theorem dX3_fits_15 : decode cX3_fits 15 = .ok (.iload_n 2, 1) := by decide +kernel
theorem dX3_fits_16 : decode cX3_fits 16 = .ok (.iconst 1, 1) := by decide +kernel
theorem dX3_fits_17 : decode cX3_fits 17 = .ok (.iadd, 1) := by decide +kernel
theorem dX3_fits_18 : decode cX3_fits 18 = .ok (.if_icmp .ne 15, 3) := by decide +kernel
theorem dX3_fits_21 : decode cX3_fits 21 = .ok (.iload_n 3, 1) := by decide +kernel
theorem dX3_fits_22 : decode cX3_fits 22 = .ok (.iconst 4, 1) := by decide +kernel
theorem dX3_fits_23 : decode cX3_fits 23 = .ok (.invokestatic 36, 3) := by decide +kernel
theorem dX3_fits_26 : decode cX3_fits 26 = .ok (.ifCond .eq 7, 3) := by decide +kernel
theorem dX3_fits_29 : decode cX3_fits 29 = .ok (.iconst 1, 1) := by decide +kernel
theorem dX3_fits_30 : decode cX3_fits 30 = .ok (.goto 4, 3) := by decide +kernel
theorem dX3_fits_33 : decode cX3_fits 33 = .ok (.iconst 0, 1) := by decide +kernel
theorem dX3_fits_34 : decode cX3_fits 34 = .ok (.ireturn, 1) := by decide +kernel
theorem dX3_fits_35 : decode cX3_fits 35 = .ok (.iload_n 1, 1) := by decide +kernel
theorem dX3_fits_36 : decode cX3_fits 36 = .ok (.iconst 3, 1) := by decide +kernel
theorem dX3_fits_37 : decode cX3_fits 37 = .ok (.irem, 1) := by decide +kernel
theorem dX3_fits_38 : decode cX3_fits 38 = .ok (.lookupswitch 48 #[(0, 26), (1, 42)], 26) := by decide +kernel
theorem dX3_fits_64 : decode cX3_fits 64 = .ok (.ldc 39, 2) := by decide +kernel
theorem dX3_fits_66 : decode cX3_fits 66 = .ok (.iload_n 3, 1) := by decide +kernel
theorem dX3_fits_67 : decode cX3_fits 67 = .ok (.i2c, 1) := by decide +kernel
theorem dX3_fits_68 : decode cX3_fits 68 = .ok (.invokevirtual 41, 3) := by decide +kernel
theorem dX3_fits_71 : decode cX3_fits 71 = .ok (.ifCond .lt 7, 3) := by decide +kernel
theorem dX3_fits_74 : decode cX3_fits 74 = .ok (.iconst 1, 1) := by decide +kernel
theorem dX3_fits_75 : decode cX3_fits 75 = .ok (.goto 4, 3) := by decide +kernel
theorem dX3_fits_78 : decode cX3_fits 78 = .ok (.iconst 0, 1) := by decide +kernel
theorem dX3_fits_79 : decode cX3_fits 79 = .ok (.ireturn, 1) := by decide +kernel
theorem dX3_fits_80 : decode cX3_fits 80 = .ok (.iload_n 3, 1) := by decide +kernel
theorem dX3_fits_81 : decode cX3_fits 81 = .ok (.iconst 4, 1) := by decide +kernel
theorem dX3_fits_82 : decode cX3_fits 82 = .ok (.invokestatic 36, 3) := by decide +kernel
theorem dX3_fits_85 : decode cX3_fits 85 = .ok (.ireturn, 1) := by decide +kernel
theorem dX3_fits_86 : decode cX3_fits 86 = .ok (.iload_n 3, 1) := by decide +kernel
theorem dX3_fits_87 : decode cX3_fits 87 = .ok (.iload_n 1, 1) := by decide +kernel
theorem dX3_fits_88 : decode cX3_fits 88 = .ok (.iconst 3, 1) := by decide +kernel
theorem dX3_fits_89 : decode cX3_fits 89 = .ok (.idiv, 1) := by decide +kernel
theorem dX3_fits_90 : decode cX3_fits 90 = .ok (.iconst 1, 1) := by decide +kernel
theorem dX3_fits_91 : decode cX3_fits 91 = .ok (.iadd, 1) := by decide +kernel
theorem dX3_fits_92 : decode cX3_fits 92 = .ok (.invokestatic 46, 3) := by decide +kernel
theorem dX3_fits_95 : decode cX3_fits 95 = .ok (.ireturn, 1) := by decide +kernel
theorem dX3_isDigitBelow_0 : decode cX3_isDigitBelow 0 = .ok (.iload_n 0, 1) := by decide +kernel
theorem dX3_isDigitBelow_1 : decode cX3_isDigitBelow 1 = .ok (.bipush 48, 2) := by decide +kernel
theorem dX3_isDigitBelow_3 : decode cX3_isDigitBelow 3 = .ok (.if_icmp .lt 15, 3) := by decide +kernel
theorem dX3_isDigitBelow_6 : decode cX3_isDigitBelow 6 = .ok (.iload_n 0, 1) := by decide +kernel
theorem dX3_isDigitBelow_7 : decode cX3_isDigitBelow 7 = .ok (.bipush 48, 2) := by decide +kernel
theorem dX3_isDigitBelow_9 : decode cX3_isDigitBelow 9 = .ok (.iload_n 1, 1) := by decide +kernel
theorem dX3_isDigitBelow_10 : decode cX3_isDigitBelow 10 = .ok (.iadd, 1) := by decide +kernel
theorem dX3_isDigitBelow_11 : decode cX3_isDigitBelow 11 = .ok (.if_icmp .ge 7, 3) := by decide +kernel
theorem dX3_isDigitBelow_14 : decode cX3_isDigitBelow 14 = .ok (.iconst 1, 1) := by decide +kernel
theorem dX3_isDigitBelow_15 : decode cX3_isDigitBelow 15 = .ok (.goto 4, 3) := by decide +kernel
theorem dX3_isDigitBelow_18 : decode cX3_isDigitBelow 18 = .ok (.iconst 0, 1) := by decide +kernel
theorem dX3_isDigitBelow_19 : decode cX3_isDigitBelow 19 = .ok (.ireturn, 1) := by decide +kernel
theorem dX3_endsSong_0 : decode cX3_endsSong 0 = .ok (.iload_n 0, 1) := by decide +kernel
theorem dX3_endsSong_1 : decode cX3_endsSong 1 = .ok (.bipush 44, 2) := by decide +kernel
theorem dX3_endsSong_3 : decode cX3_endsSong 3 = .ok (.if_icmp .ne 15, 3) := by decide +kernel
theorem dX3_endsSong_6 : decode cX3_endsSong 6 = .ok (.iload_n 1, 1) := by decide +kernel
theorem dX3_endsSong_7 : decode cX3_endsSong 7 = .ok (.bipush 6, 2) := by decide +kernel
theorem dX3_endsSong_9 : decode cX3_endsSong 9 = .ok (.if_icmp .ge 7, 3) := by decide +kernel
theorem dX3_endsSong_12 : decode cX3_endsSong 12 = .ok (.iconst 1, 1) := by decide +kernel
theorem dX3_endsSong_13 : decode cX3_endsSong 13 = .ok (.goto 4, 3) := by decide +kernel
theorem dX3_endsSong_16 : decode cX3_endsSong 16 = .ok (.iconst 0, 1) := by decide +kernel
theorem dX3_endsSong_17 : decode cX3_endsSong 17 = .ok (.ireturn, 1) := by decide +kernel
theorem dX3_endsSong_18 : decode cX3_endsSong 18 = .ok (.iload_n 0, 1) := by decide +kernel
theorem dX3_endsSong_19 : decode cX3_endsSong 19 = .ok (.bipush 59, 2) := by decide +kernel
theorem dX3_endsSong_21 : decode cX3_endsSong 21 = .ok (.if_icmp .ne 12, 3) := by decide +kernel
theorem dX3_endsSong_24 : decode cX3_endsSong 24 = .ok (.iload_n 1, 1) := by decide +kernel
theorem dX3_endsSong_25 : decode cX3_endsSong 25 = .ok (.iconst 2, 1) := by decide +kernel
theorem dX3_endsSong_26 : decode cX3_endsSong 26 = .ok (.if_icmp .lt 7, 3) := by decide +kernel
theorem dX3_endsSong_29 : decode cX3_endsSong 29 = .ok (.iconst 1, 1) := by decide +kernel
theorem dX3_endsSong_30 : decode cX3_endsSong 30 = .ok (.goto 4, 3) := by decide +kernel
theorem dX3_endsSong_33 : decode cX3_endsSong 33 = .ok (.iconst 0, 1) := by decide +kernel
theorem dX3_endsSong_34 : decode cX3_endsSong 34 = .ok (.ireturn, 1) := by decide +kernel
set_option maxRecDepth 20000 in
theorem ggX3_isWhole_X3_firstFault : GoodIn wsX3_isWhole wsX3_firstFault := goodIn_r _ [7, 1, 2, 8, 9, 10, 6, 11, 12, 13, 14, 15, 16, 17, 18, 19, 20, 21, 22, 23, 24, 25, 26, 27, 28, 29, 30, 31, 32, 33, 34, 35, 36, 37, 38, 39, 40, 41, 42, 43, 44, 45, 46, 47, 48, 49, 50, 51, 52, 53, 54, 55, 56, 57, 58, 59, 60, 61, 62, 63, 64, 65, 66, 67, 68, 69, 70, 71, 72, 73, 74, 75, 76, 77, 78, 79, 80, 81, 82, 83, 84, 85, 86, 87, 88, 89, 90, 91, 92, 93, 94, 95, 96, 97, 98, 99, 100, 101, 102, 103, 104, 105, 106, 107, 108, 109, 110, 111, 112, 113, 114, 115] (by decide +kernel) (by decide +kernel)
set_option maxRecDepth 20000 in
theorem gX3_isWhole_X3_firstFault : GoodIn wsX3_isWhole (wsV RX3 49 RX3 yX3_firstFault wsX3_firstFault) := goodIn_app (goodIn_of _ (by decide +kernel)) ggX3_isWhole_X3_firstFault
set_option maxRecDepth 20000 in
theorem ggX3_isWhole_X5_at : GoodIn wsX3_isWhole wsX5_at := goodIn_r _ [16, 17, 115] (by decide +kernel) (by decide +kernel)
set_option maxRecDepth 20000 in
theorem gX3_isWhole_X5_at : GoodIn wsX3_isWhole (wsV RX3 32 RX5 yX5_at wsX5_at) := goodIn_app (goodIn_of _ (by decide +kernel)) ggX3_isWhole_X5_at
theorem dX3_isWhole_0 : decode cX3_isWhole 0 = .ok (.aload_n 0, 1) := by decide +kernel
theorem dX3_isWhole_1 : decode cX3_isWhole 1 = .ok (.invokevirtual 49, 3) := by decide +kernel
theorem dX3_isWhole_4 : decode cX3_isWhole 4 = .ok (.aload_n 0, 1) := by decide +kernel
theorem dX3_isWhole_5 : decode cX3_isWhole 5 = .ok (.getfield 20, 3) := by decide +kernel
theorem dX3_isWhole_8 : decode cX3_isWhole 8 = .ok (.if_icmp .ne 25, 3) := by decide +kernel
theorem dX3_isWhole_11 : decode cX3_isWhole 11 = .ok (.aload_n 0, 1) := by decide +kernel
theorem dX3_isWhole_12 : decode cX3_isWhole 12 = .ok (.getfield 14, 3) := by decide +kernel
theorem dX3_isWhole_15 : decode cX3_isWhole 15 = .ok (.aload_n 0, 1) := by decide +kernel
theorem dX3_isWhole_16 : decode cX3_isWhole 16 = .ok (.getfield 20, 3) := by decide +kernel
theorem dX3_isWhole_19 : decode cX3_isWhole 19 = .ok (.iconst 2, 1) := by decide +kernel
theorem dX3_isWhole_20 : decode cX3_isWhole 20 = .ok (.isub, 1) := by decide +kernel
theorem dX3_isWhole_21 : decode cX3_isWhole 21 = .ok (.invokevirtual 32, 3) := by decide +kernel
theorem dX3_isWhole_24 : decode cX3_isWhole 24 = .ok (.bipush 59, 2) := by decide +kernel
theorem dX3_isWhole_26 : decode cX3_isWhole 26 = .ok (.if_icmp .ne 7, 3) := by decide +kernel
theorem dX3_isWhole_29 : decode cX3_isWhole 29 = .ok (.iconst 1, 1) := by decide +kernel
theorem dX3_isWhole_30 : decode cX3_isWhole 30 = .ok (.goto 4, 3) := by decide +kernel
theorem dX3_isWhole_33 : decode cX3_isWhole 33 = .ok (.iconst 0, 1) := by decide +kernel
theorem dX3_isWhole_34 : decode cX3_isWhole 34 = .ok (.ireturn, 1) := by decide +kernel
theorem dX3_songsRead_0 : decode cX3_songsRead 0 = .ok (.bipush 6, 2) := by decide +kernel
theorem dX3_songsRead_2 : decode cX3_songsRead 2 = .ok (.aload_n 0, 1) := by decide +kernel
theorem dX3_songsRead_3 : decode cX3_songsRead 3 = .ok (.getfield 20, 3) := by decide +kernel
theorem dX3_songsRead_6 : decode cX3_songsRead 6 = .ok (.iconst 1, 1) := by decide +kernel
theorem dX3_songsRead_7 : decode cX3_songsRead 7 = .ok (.isub, 1) := by decide +kernel
theorem dX3_songsRead_8 : decode cX3_songsRead 8 = .ok (.iconst 3, 1) := by decide +kernel
theorem dX3_songsRead_9 : decode cX3_songsRead 9 = .ok (.idiv, 1) := by decide +kernel
theorem dX3_songsRead_10 : decode cX3_songsRead 10 = .ok (.invokestatic 53, 3) := by decide +kernel
theorem dX3_songsRead_13 : decode cX3_songsRead 13 = .ok (.ireturn, 1) := by decide +kernel
set_option maxRecDepth 20000 in
theorem ggX3_kindRead_X5_at : GoodIn wsX3_kindRead wsX5_at := goodIn_r _ [6, 7, 99] (by decide +kernel) (by decide +kernel)
set_option maxRecDepth 20000 in
theorem gX3_kindRead_X5_at : GoodIn wsX3_kindRead (wsV RX3 32 RX5 yX5_at wsX5_at) := goodIn_app (goodIn_of _ (by decide +kernel)) ggX3_kindRead_X5_at
set_option maxRecDepth 20000 in
theorem ggX3_kindRead_J0_indexOf_0f7a4 : GoodIn wsX3_kindRead wsJ0_indexOf_0f7a4 := goodIn_r _ [12, 13, 14, 15, 11, 16, 17, 18, 19, 20, 21, 22, 23, 24, 25, 26, 27, 28, 29, 30, 31, 32, 33, 34, 35, 36, 37, 38, 39, 40, 41, 42, 43, 44, 45, 46, 47, 48, 49, 50, 51, 52, 53, 54, 55, 56, 57, 58, 59, 60, 61, 62, 63, 64, 65, 66, 67, 68, 69, 70, 71, 72, 73, 74, 75, 76, 77, 78, 79, 80, 81, 82, 83, 84, 85, 86, 87, 88, 89, 90, 91, 92, 93, 94, 95, 96] (by decide +kernel) (by decide +kernel)
set_option maxRecDepth 20000 in
theorem gX3_kindRead_J0_indexOf_0f7a4 : GoodIn wsX3_kindRead (wsV RX3 41 RJ0 yJ0_indexOf_0f7a4 wsJ0_indexOf_0f7a4) := goodIn_app (goodIn_of _ (by decide +kernel)) ggX3_kindRead_J0_indexOf_0f7a4
theorem dX3_kindRead_0 : decode cX3_kindRead 0 = .ok (.ldc 39, 2) := by decide +kernel
theorem dX3_kindRead_2 : decode cX3_kindRead 2 = .ok (.aload_n 0, 1) := by decide +kernel
theorem dX3_kindRead_3 : decode cX3_kindRead 3 = .ok (.getfield 14, 3) := by decide +kernel
theorem dX3_kindRead_6 : decode cX3_kindRead 6 = .ok (.iconst 3, 1) := by decide +kernel
theorem dX3_kindRead_7 : decode cX3_kindRead 7 = .ok (.iload_n 1, 1) := by decide +kernel
theorem dX3_kindRead_8 : decode cX3_kindRead 8 = .ok (.imul, 1) := by decide +kernel
theorem dX3_kindRead_9 : decode cX3_kindRead 9 = .ok (.invokevirtual 32, 3) := by decide +kernel
theorem dX3_kindRead_12 : decode cX3_kindRead 12 = .ok (.i2c, 1) := by decide +kernel
theorem dX3_kindRead_13 : decode cX3_kindRead 13 = .ok (.invokevirtual 41, 3) := by decide +kernel
theorem dX3_kindRead_16 : decode cX3_kindRead 16 = .ok (.ireturn, 1) := by decide +kernel
set_option maxRecDepth 20000 in
theorem ggX3_singerRead_X5_at : GoodIn wsX3_singerRead wsX5_at := goodIn_r _ [6, 7, 10] (by decide +kernel) (by decide +kernel)
set_option maxRecDepth 20000 in
theorem gX3_singerRead_X5_at : GoodIn wsX3_singerRead (wsV RX3 32 RX5 yX5_at wsX5_at) := goodIn_app (goodIn_of _ (by decide +kernel)) ggX3_singerRead_X5_at
theorem dX3_singerRead_0 : decode cX3_singerRead 0 = .ok (.aload_n 0, 1) := by decide +kernel
theorem dX3_singerRead_1 : decode cX3_singerRead 1 = .ok (.getfield 14, 3) := by decide +kernel
theorem dX3_singerRead_4 : decode cX3_singerRead 4 = .ok (.iconst 3, 1) := by decide +kernel
theorem dX3_singerRead_5 : decode cX3_singerRead 5 = .ok (.iload_n 1, 1) := by decide +kernel
theorem dX3_singerRead_6 : decode cX3_singerRead 6 = .ok (.imul, 1) := by decide +kernel
theorem dX3_singerRead_7 : decode cX3_singerRead 7 = .ok (.iconst 1, 1) := by decide +kernel
theorem dX3_singerRead_8 : decode cX3_singerRead 8 = .ok (.iadd, 1) := by decide +kernel
theorem dX3_singerRead_9 : decode cX3_singerRead 9 = .ok (.invokevirtual 32, 3) := by decide +kernel
theorem dX3_singerRead_12 : decode cX3_singerRead 12 = .ok (.bipush 48, 2) := by decide +kernel
theorem dX3_singerRead_14 : decode cX3_singerRead 14 = .ok (.isub, 1) := by decide +kernel
theorem dX3_singerRead_15 : decode cX3_singerRead 15 = .ok (.ireturn, 1) := by decide +kernel
set_option maxRecDepth 20000 in
theorem ggX3_ruleRead_X5_at : GoodIn wsX3_ruleRead wsX5_at := goodIn_r _ [7, 8, 11] (by decide +kernel) (by decide +kernel)
set_option maxRecDepth 20000 in
theorem gX3_ruleRead_X5_at : GoodIn wsX3_ruleRead (wsV RX3 32 RX5 yX5_at wsX5_at) := goodIn_app (goodIn_of _ (by decide +kernel)) ggX3_ruleRead_X5_at
theorem dX3_ruleRead_0 : decode cX3_ruleRead 0 = .ok (.aload_n 0, 1) := by decide +kernel
theorem dX3_ruleRead_1 : decode cX3_ruleRead 1 = .ok (.getfield 14, 3) := by decide +kernel
theorem dX3_ruleRead_4 : decode cX3_ruleRead 4 = .ok (.aload_n 0, 1) := by decide +kernel
theorem dX3_ruleRead_5 : decode cX3_ruleRead 5 = .ok (.getfield 20, 3) := by decide +kernel
theorem dX3_ruleRead_8 : decode cX3_ruleRead 8 = .ok (.iconst 1, 1) := by decide +kernel
theorem dX3_ruleRead_9 : decode cX3_ruleRead 9 = .ok (.isub, 1) := by decide +kernel
theorem dX3_ruleRead_10 : decode cX3_ruleRead 10 = .ok (.invokevirtual 32, 3) := by decide +kernel
theorem dX3_ruleRead_13 : decode cX3_ruleRead 13 = .ok (.bipush 48, 2) := by decide +kernel
theorem dX3_ruleRead_15 : decode cX3_ruleRead 15 = .ok (.isub, 1) := by decide +kernel
theorem dX3_ruleRead_16 : decode cX3_ruleRead 16 = .ok (.ireturn, 1) := by decide +kernel
set_option maxRecDepth 20000 in
theorem ggX4_init_X5_init : GoodIn wsX4_init wsX5_init := goodIn_r _ [17, 18, 2, 3, 19, 20, 21, 22, 23, 24, 25] (by decide +kernel) (by decide +kernel)
set_option maxRecDepth 20000 in
theorem gX4_init_X5_init : GoodIn wsX4_init (wsX5_init) := ggX4_init_X5_init
theorem dX4_init_0 : decode cX4_init 0 = .ok (.aload_n 0, 1) := by decide +kernel
theorem dX4_init_1 : decode cX4_init 1 = .ok (.invokespecial 3, 3) := by decide +kernel
theorem dX4_init_4 : decode cX4_init 4 = .ok (.aload_n 0, 1) := by decide +kernel
theorem dX4_init_5 : decode cX4_init 5 = .ok (.new 9, 3) := by decide +kernel
theorem dX4_init_8 : decode cX4_init 8 = .ok (.dup, 1) := by decide +kernel
theorem dX4_init_9 : decode cX4_init 9 = .ok (.bipush 6, 2) := by decide +kernel
theorem dX4_init_11 : decode cX4_init 11 = .ok (.invokespecial 11, 3) := by decide +kernel
theorem dX4_init_14 : decode cX4_init 14 = .ok (.putfield 14, 3) := by decide +kernel
theorem dX4_init_17 : decode cX4_init 17 = .ok (.aload_n 0, 1) := by decide +kernel
theorem dX4_init_18 : decode cX4_init 18 = .ok (.new 9, 3) := by decide +kernel
theorem dX4_init_21 : decode cX4_init 21 = .ok (.dup, 1) := by decide +kernel
theorem dX4_init_22 : decode cX4_init 22 = .ok (.bipush 6, 2) := by decide +kernel
theorem dX4_init_24 : decode cX4_init 24 = .ok (.invokespecial 11, 3) := by decide +kernel
theorem dX4_init_27 : decode cX4_init 27 = .ok (.putfield 20, 3) := by decide +kernel
theorem dX4_init_30 : decode cX4_init 30 = .ok (.aload_n 0, 1) := by decide +kernel
theorem dX4_init_31 : decode cX4_init 31 = .ok (.new 9, 3) := by decide +kernel
theorem dX4_init_34 : decode cX4_init 34 = .ok (.dup, 1) := by decide +kernel
theorem dX4_init_35 : decode cX4_init 35 = .ok (.bipush 8, 2) := by decide +kernel
theorem dX4_init_37 : decode cX4_init 37 = .ok (.invokespecial 11, 3) := by decide +kernel
theorem dX4_init_40 : decode cX4_init 40 = .ok (.putfield 23, 3) := by decide +kernel
theorem dX4_init_43 : decode cX4_init 43 = .ok (.aload_n 0, 1) := by decide +kernel
theorem dX4_init_44 : decode cX4_init 44 = .ok (.iconst 0, 1) := by decide +kernel
theorem dX4_init_45 : decode cX4_init 45 = .ok (.putfield 26, 3) := by decide +kernel
theorem dX4_init_48 : decode cX4_init 48 = .ok (.aload_n 0, 1) := by decide +kernel
theorem dX4_init_49 : decode cX4_init 49 = .ok (.iconst 0, 1) := by decide +kernel
theorem dX4_init_50 : decode cX4_init 50 = .ok (.putfield 30, 3) := by decide +kernel
theorem dX4_init_53 : decode cX4_init 53 = .ok (.aload_n 0, 1) := by decide +kernel
theorem dX4_init_54 : decode cX4_init 54 = .ok (.iconst 0, 1) := by decide +kernel
theorem dX4_init_55 : decode cX4_init 55 = .ok (.putfield 33, 3) := by decide +kernel
theorem dX4_init_58 : decode cX4_init 58 = .ok (.aload_n 0, 1) := by decide +kernel
theorem dX4_init_59 : decode cX4_init 59 = .ok (.iconst (-1), 1) := by decide +kernel
theorem dX4_init_60 : decode cX4_init 60 = .ok (.putfield 36, 3) := by decide +kernel
theorem dX4_init_63 : decode cX4_init 63 = .ok (.aload_n 0, 1) := by decide +kernel
theorem dX4_init_64 : decode cX4_init 64 = .ok (.iconst 0, 1) := by decide +kernel
theorem dX4_init_65 : decode cX4_init 65 = .ok (.putfield 39, 3) := by decide +kernel
theorem dX4_init_68 : decode cX4_init 68 = .ok (.return_, 1) := by decide +kernel
set_option maxRecDepth 20000 in
theorem ggX4_begin_X5_clear : GoodIn wsX4_begin wsX5_clear := goodIn_r _ [12, 13, 22] (by decide +kernel) (by decide +kernel)
set_option maxRecDepth 20000 in
theorem gX4_begin_X5_clear : GoodIn wsX4_begin (wsV RX4 43 RX5 yX5_clear wsX5_clear) := goodIn_app (goodIn_of _ (by decide +kernel)) ggX4_begin_X5_clear
theorem dX4_begin_0 : decode cX4_begin 0 = .ok (.aload_n 0, 1) := by decide +kernel
theorem dX4_begin_1 : decode cX4_begin 1 = .ok (.getfield 14, 3) := by decide +kernel
theorem dX4_begin_4 : decode cX4_begin 4 = .ok (.invokevirtual 43, 3) := by decide +kernel
theorem dX4_begin_7 : decode cX4_begin 7 = .ok (.aload_n 0, 1) := by decide +kernel
theorem dX4_begin_8 : decode cX4_begin 8 = .ok (.getfield 20, 3) := by decide +kernel
theorem dX4_begin_11 : decode cX4_begin 11 = .ok (.invokevirtual 43, 3) := by decide +kernel
theorem dX4_begin_14 : decode cX4_begin 14 = .ok (.aload_n 0, 1) := by decide +kernel
theorem dX4_begin_15 : decode cX4_begin 15 = .ok (.iconst 0, 1) := by decide +kernel
theorem dX4_begin_16 : decode cX4_begin 16 = .ok (.putfield 26, 3) := by decide +kernel
theorem dX4_begin_19 : decode cX4_begin 19 = .ok (.aload_n 0, 1) := by decide +kernel
theorem dX4_begin_20 : decode cX4_begin 20 = .ok (.iload_n 1, 1) := by decide +kernel
theorem dX4_begin_21 : decode cX4_begin 21 = .ok (.putfield 30, 3) := by decide +kernel
theorem dX4_begin_24 : decode cX4_begin 24 = .ok (.aload_n 0, 1) := by decide +kernel
theorem dX4_begin_25 : decode cX4_begin 25 = .ok (.iload_n 2, 1) := by decide +kernel
theorem dX4_begin_26 : decode cX4_begin 26 = .ok (.putfield 33, 3) := by decide +kernel
theorem dX4_begin_29 : decode cX4_begin 29 = .ok (.aload_n 0, 1) := by decide +kernel
theorem dX4_begin_30 : decode cX4_begin 30 = .ok (.iconst (-1), 1) := by decide +kernel
theorem dX4_begin_31 : decode cX4_begin 31 = .ok (.putfield 36, 3) := by decide +kernel
theorem dX4_begin_34 : decode cX4_begin 34 = .ok (.aload_n 0, 1) := by decide +kernel
theorem dX4_begin_35 : decode cX4_begin 35 = .ok (.iconst 0, 1) := by decide +kernel
theorem dX4_begin_36 : decode cX4_begin 36 = .ok (.putfield 39, 3) := by decide +kernel
theorem dX4_begin_39 : decode cX4_begin 39 = .ok (.return_, 1) := by decide +kernel
set_option maxRecDepth 20000 in
theorem ggX4_become_X5_become : GoodIn wsX4_become wsX5_become := goodIn_r _ [13, 14, 15, 16, 17, 12, 18, 27] (by decide +kernel) (by decide +kernel)
set_option maxRecDepth 20000 in
theorem gX4_become_X5_become : GoodIn wsX4_become (wsV RX4 46 RX5 yX5_become wsX5_become) := goodIn_app (goodIn_of _ (by decide +kernel)) ggX4_become_X5_become
theorem dX4_become_0 : decode cX4_become 0 = .ok (.aload_n 0, 1) := by decide +kernel
theorem dX4_become_1 : decode cX4_become 1 = .ok (.getfield 14, 3) := by decide +kernel
theorem dX4_become_4 : decode cX4_become 4 = .ok (.aload_n 1, 1) := by decide +kernel
theorem dX4_become_5 : decode cX4_become 5 = .ok (.getfield 14, 3) := by decide +kernel
theorem dX4_become_8 : decode cX4_become 8 = .ok (.invokevirtual 46, 3) := by decide +kernel
theorem dX4_become_11 : decode cX4_become 11 = .ok (.aload_n 0, 1) := by decide +kernel
theorem dX4_become_12 : decode cX4_become 12 = .ok (.getfield 20, 3) := by decide +kernel
theorem dX4_become_15 : decode cX4_become 15 = .ok (.aload_n 1, 1) := by decide +kernel
theorem dX4_become_16 : decode cX4_become 16 = .ok (.getfield 20, 3) := by decide +kernel
theorem dX4_become_19 : decode cX4_become 19 = .ok (.invokevirtual 46, 3) := by decide +kernel
theorem dX4_become_22 : decode cX4_become 22 = .ok (.aload_n 0, 1) := by decide +kernel
theorem dX4_become_23 : decode cX4_become 23 = .ok (.getfield 23, 3) := by decide +kernel
theorem dX4_become_26 : decode cX4_become 26 = .ok (.aload_n 1, 1) := by decide +kernel
theorem dX4_become_27 : decode cX4_become 27 = .ok (.getfield 23, 3) := by decide +kernel
theorem dX4_become_30 : decode cX4_become 30 = .ok (.invokevirtual 46, 3) := by decide +kernel
theorem dX4_become_33 : decode cX4_become 33 = .ok (.aload_n 0, 1) := by decide +kernel
theorem dX4_become_34 : decode cX4_become 34 = .ok (.aload_n 1, 1) := by decide +kernel
theorem dX4_become_35 : decode cX4_become 35 = .ok (.getfield 26, 3) := by decide +kernel
theorem dX4_become_38 : decode cX4_become 38 = .ok (.putfield 26, 3) := by decide +kernel
theorem dX4_become_41 : decode cX4_become 41 = .ok (.aload_n 0, 1) := by decide +kernel
theorem dX4_become_42 : decode cX4_become 42 = .ok (.aload_n 1, 1) := by decide +kernel
theorem dX4_become_43 : decode cX4_become 43 = .ok (.getfield 30, 3) := by decide +kernel
theorem dX4_become_46 : decode cX4_become 46 = .ok (.putfield 30, 3) := by decide +kernel
theorem dX4_become_49 : decode cX4_become 49 = .ok (.aload_n 0, 1) := by decide +kernel
theorem dX4_become_50 : decode cX4_become 50 = .ok (.aload_n 1, 1) := by decide +kernel
theorem dX4_become_51 : decode cX4_become 51 = .ok (.getfield 33, 3) := by decide +kernel
theorem dX4_become_54 : decode cX4_become 54 = .ok (.putfield 33, 3) := by decide +kernel
theorem dX4_become_57 : decode cX4_become 57 = .ok (.aload_n 0, 1) := by decide +kernel
theorem dX4_become_58 : decode cX4_become 58 = .ok (.aload_n 1, 1) := by decide +kernel
theorem dX4_become_59 : decode cX4_become 59 = .ok (.getfield 36, 3) := by decide +kernel
theorem dX4_become_62 : decode cX4_become 62 = .ok (.putfield 36, 3) := by decide +kernel
theorem dX4_become_65 : decode cX4_become 65 = .ok (.aload_n 0, 1) := by decide +kernel
theorem dX4_become_66 : decode cX4_become 66 = .ok (.aload_n 1, 1) := by decide +kernel
theorem dX4_become_67 : decode cX4_become 67 = .ok (.getfield 39, 3) := by decide +kernel
theorem dX4_become_70 : decode cX4_become 70 = .ok (.putfield 39, 3) := by decide +kernel
theorem dX4_become_73 : decode cX4_become 73 = .ok (.return_, 1) := by decide +kernel
theorem dX5_init_0 : decode cX5_init 0 = .ok (.aload_n 0, 1) := by decide +kernel
theorem dX5_init_1 : decode cX5_init 1 = .ok (.invokespecial 1, 3) := by decide +kernel
theorem dX5_init_4 : decode cX5_init 4 = .ok (.aload_n 0, 1) := by decide +kernel
theorem dX5_init_5 : decode cX5_init 5 = .ok (.iconst 0, 1) := by decide +kernel
theorem dX5_init_6 : decode cX5_init 6 = .ok (.iload_n 1, 1) := by decide +kernel
theorem dX5_init_7 : decode cX5_init 7 = .ok (.invokestatic 7, 3) := by decide +kernel
theorem dX5_init_10 : decode cX5_init 10 = .ok (.newarray .int, 2) := by decide +kernel
theorem dX5_init_12 : decode cX5_init 12 = .ok (.putfield 13, 3) := by decide +kernel
theorem dX5_init_15 : decode cX5_init 15 = .ok (.return_, 1) := by decide +kernel
theorem dX5_at_0 : decode cX5_at 0 = .ok (.iload_n 1, 1) := by decide +kernel
theorem dX5_at_1 : decode cX5_at 1 = .ok (.ifCond .lt 21, 3) := by decide +kernel
theorem dX5_at_4 : decode cX5_at 4 = .ok (.iload_n 1, 1) := by decide +kernel
theorem dX5_at_5 : decode cX5_at 5 = .ok (.aload_n 0, 1) := by decide +kernel
theorem dX5_at_6 : decode cX5_at 6 = .ok (.getfield 13, 3) := by decide +kernel
theorem dX5_at_9 : decode cX5_at 9 = .ok (.arraylength, 1) := by decide +kernel
theorem dX5_at_10 : decode cX5_at 10 = .ok (.if_icmp .ge 12, 3) := by decide +kernel
theorem dX5_at_13 : decode cX5_at 13 = .ok (.aload_n 0, 1) := by decide +kernel
theorem dX5_at_14 : decode cX5_at 14 = .ok (.getfield 13, 3) := by decide +kernel
theorem dX5_at_17 : decode cX5_at 17 = .ok (.iload_n 1, 1) := by decide +kernel
theorem dX5_at_18 : decode cX5_at 18 = .ok (.iaload, 1) := by decide +kernel
theorem dX5_at_19 : decode cX5_at 19 = .ok (.goto 4, 3) := by decide +kernel
theorem dX5_at_22 : decode cX5_at 22 = .ok (.iconst 0, 1) := by decide +kernel
theorem dX5_at_23 : decode cX5_at 23 = .ok (.ireturn, 1) := by decide +kernel
theorem dX5_put_0 : decode cX5_put 0 = .ok (.iload_n 1, 1) := by decide +kernel
theorem dX5_put_1 : decode cX5_put 1 = .ok (.ifCond .lt 19, 3) := by decide +kernel
theorem dX5_put_4 : decode cX5_put 4 = .ok (.iload_n 1, 1) := by decide +kernel
theorem dX5_put_5 : decode cX5_put 5 = .ok (.aload_n 0, 1) := by decide +kernel
theorem dX5_put_6 : decode cX5_put 6 = .ok (.getfield 13, 3) := by decide +kernel
theorem dX5_put_9 : decode cX5_put 9 = .ok (.arraylength, 1) := by decide +kernel
theorem dX5_put_10 : decode cX5_put 10 = .ok (.if_icmp .ge 10, 3) := by decide +kernel
theorem dX5_put_13 : decode cX5_put 13 = .ok (.aload_n 0, 1) := by decide +kernel
theorem dX5_put_14 : decode cX5_put 14 = .ok (.getfield 13, 3) := by decide +kernel
theorem dX5_put_17 : decode cX5_put 17 = .ok (.iload_n 1, 1) := by decide +kernel
theorem dX5_put_18 : decode cX5_put 18 = .ok (.iload_n 2, 1) := by decide +kernel
theorem dX5_put_19 : decode cX5_put 19 = .ok (.iastore, 1) := by decide +kernel
theorem dX5_put_20 : decode cX5_put 20 = .ok (.return_, 1) := by decide +kernel
set_option maxRecDepth 20000 in
theorem ggX5_increase_X5_at : GoodIn wsX5_increase wsX5_at := goodIn_r _ [5, 6, 11] (by decide +kernel) (by decide +kernel)
set_option maxRecDepth 20000 in
theorem gX5_increase_X5_at : GoodIn wsX5_increase (wsV RX5 19 RX5 yX5_at wsX5_at) := goodIn_app (goodIn_of _ (by decide +kernel)) ggX5_increase_X5_at
set_option maxRecDepth 20000 in
theorem ggX5_increase_X5_put : GoodIn wsX5_increase wsX5_put := goodIn_r _ [10, 6, 11] (by decide +kernel) (by decide +kernel)
set_option maxRecDepth 20000 in
theorem gX5_increase_X5_put : GoodIn wsX5_increase (wsV RX5 23 RX5 yX5_put wsX5_put) := goodIn_app (goodIn_of _ (by decide +kernel)) ggX5_increase_X5_put
theorem dX5_increase_0 : decode cX5_increase 0 = .ok (.aload_n 0, 1) := by decide +kernel
theorem dX5_increase_1 : decode cX5_increase 1 = .ok (.iload_n 1, 1) := by decide +kernel
theorem dX5_increase_2 : decode cX5_increase 2 = .ok (.aload_n 0, 1) := by decide +kernel
theorem dX5_increase_3 : decode cX5_increase 3 = .ok (.iload_n 1, 1) := by decide +kernel
theorem dX5_increase_4 : decode cX5_increase 4 = .ok (.invokevirtual 19, 3) := by decide +kernel
theorem dX5_increase_7 : decode cX5_increase 7 = .ok (.iconst 1, 1) := by decide +kernel
theorem dX5_increase_8 : decode cX5_increase 8 = .ok (.iadd, 1) := by decide +kernel
theorem dX5_increase_9 : decode cX5_increase 9 = .ok (.invokevirtual 23, 3) := by decide +kernel
theorem dX5_increase_12 : decode cX5_increase 12 = .ok (.return_, 1) := by decide +kernel
theorem dX5_clear_0 : decode cX5_clear 0 = .ok (.iconst 0, 1) := by decide +kernel
theorem dX5_clear_1 : decode cX5_clear 1 = .ok (.istore_n 1, 1) := by decide +kernel
theorem dX5_clear_2 : decode cX5_clear 2 = .ok (.iload_n 1, 1) := by decide +kernel
theorem dX5_clear_3 : decode cX5_clear 3 = .ok (.aload_n 0, 1) := by decide +kernel
theorem dX5_clear_4 : decode cX5_clear 4 = .ok (.getfield 13, 3) := by decide +kernel
theorem dX5_clear_7 : decode cX5_clear 7 = .ok (.arraylength, 1) := by decide +kernel
theorem dX5_clear_8 : decode cX5_clear 8 = .ok (.if_icmp .ge 16, 3) := by decide +kernel
theorem dX5_clear_11 : decode cX5_clear 11 = .ok (.aload_n 0, 1) := by decide +kernel
theorem dX5_clear_12 : decode cX5_clear 12 = .ok (.getfield 13, 3) := by decide +kernel
theorem dX5_clear_15 : decode cX5_clear 15 = .ok (.iload_n 1, 1) := by decide +kernel
theorem dX5_clear_16 : decode cX5_clear 16 = .ok (.iconst 0, 1) := by decide +kernel
theorem dX5_clear_17 : decode cX5_clear 17 = .ok (.iastore, 1) := by decide +kernel
theorem dX5_clear_18 : decode cX5_clear 18 = .ok (.iinc 1 1, 3) := by decide +kernel
theorem dX5_clear_21 : decode cX5_clear 21 = .ok (.goto (-19), 3) := by decide +kernel
theorem dX5_clear_24 : decode cX5_clear 24 = .ok (.return_, 1) := by decide +kernel
set_option maxRecDepth 20000 in
theorem ggX5_become_X5_at : GoodIn wsX5_become wsX5_at := goodIn_r _ [6, 1, 7] (by decide +kernel) (by decide +kernel)
set_option maxRecDepth 20000 in
theorem gX5_become_X5_at : GoodIn wsX5_become (wsV RX5 19 RX5 yX5_at wsX5_at) := goodIn_app (goodIn_of _ (by decide +kernel)) ggX5_become_X5_at
theorem dX5_become_0 : decode cX5_become 0 = .ok (.iconst 0, 1) := by decide +kernel
theorem dX5_become_1 : decode cX5_become 1 = .ok (.istore_n 2, 1) := by decide +kernel
theorem dX5_become_2 : decode cX5_become 2 = .ok (.iload_n 2, 1) := by decide +kernel
theorem dX5_become_3 : decode cX5_become 3 = .ok (.aload_n 0, 1) := by decide +kernel
theorem dX5_become_4 : decode cX5_become 4 = .ok (.getfield 13, 3) := by decide +kernel
theorem dX5_become_7 : decode cX5_become 7 = .ok (.arraylength, 1) := by decide +kernel
theorem dX5_become_8 : decode cX5_become 8 = .ok (.if_icmp .ge 20, 3) := by decide +kernel
theorem dX5_become_11 : decode cX5_become 11 = .ok (.aload_n 0, 1) := by decide +kernel
theorem dX5_become_12 : decode cX5_become 12 = .ok (.getfield 13, 3) := by decide +kernel
theorem dX5_become_15 : decode cX5_become 15 = .ok (.iload_n 2, 1) := by decide +kernel
theorem dX5_become_16 : decode cX5_become 16 = .ok (.aload_n 1, 1) := by decide +kernel
theorem dX5_become_17 : decode cX5_become 17 = .ok (.iload_n 2, 1) := by decide +kernel
theorem dX5_become_18 : decode cX5_become 18 = .ok (.invokevirtual 19, 3) := by decide +kernel
theorem dX5_become_21 : decode cX5_become 21 = .ok (.iastore, 1) := by decide +kernel
theorem dX5_become_22 : decode cX5_become 22 = .ok (.iinc 2 1, 3) := by decide +kernel
theorem dX5_become_25 : decode cX5_become 25 = .ok (.goto (-23), 3) := by decide +kernel
theorem dX5_become_28 : decode cX5_become 28 = .ok (.return_, 1) := by decide +kernel
theorem dX5_sum_0 : decode cX5_sum 0 = .ok (.iconst 0, 1) := by decide +kernel
theorem dX5_sum_1 : decode cX5_sum 1 = .ok (.istore_n 1, 1) := by decide +kernel
theorem dX5_sum_2 : decode cX5_sum 2 = .ok (.iconst 0, 1) := by decide +kernel
theorem dX5_sum_3 : decode cX5_sum 3 = .ok (.istore_n 2, 1) := by decide +kernel
theorem dX5_sum_4 : decode cX5_sum 4 = .ok (.iload_n 2, 1) := by decide +kernel
theorem dX5_sum_5 : decode cX5_sum 5 = .ok (.aload_n 0, 1) := by decide +kernel
theorem dX5_sum_6 : decode cX5_sum 6 = .ok (.getfield 13, 3) := by decide +kernel
theorem dX5_sum_9 : decode cX5_sum 9 = .ok (.arraylength, 1) := by decide +kernel
theorem dX5_sum_10 : decode cX5_sum 10 = .ok (.if_icmp .ge 18, 3) := by decide +kernel
theorem dX5_sum_13 : decode cX5_sum 13 = .ok (.iload_n 1, 1) := by decide +kernel
theorem dX5_sum_14 : decode cX5_sum 14 = .ok (.aload_n 0, 1) := by decide +kernel
theorem dX5_sum_15 : decode cX5_sum 15 = .ok (.getfield 13, 3) := by decide +kernel
theorem dX5_sum_18 : decode cX5_sum 18 = .ok (.iload_n 2, 1) := by decide +kernel
theorem dX5_sum_19 : decode cX5_sum 19 = .ok (.iaload, 1) := by decide +kernel
theorem dX5_sum_20 : decode cX5_sum 20 = .ok (.iadd, 1) := by decide +kernel
theorem dX5_sum_21 : decode cX5_sum 21 = .ok (.istore_n 1, 1) := by decide +kernel
theorem dX5_sum_22 : decode cX5_sum 22 = .ok (.iinc 2 1, 3) := by decide +kernel
theorem dX5_sum_25 : decode cX5_sum 25 = .ok (.goto (-21), 3) := by decide +kernel
theorem dX5_sum_28 : decode cX5_sum 28 = .ok (.iload_n 1, 1) := by decide +kernel
theorem dX5_sum_29 : decode cX5_sum 29 = .ok (.ireturn, 1) := by decide +kernel
theorem dX5_aboveNothing_0 : decode cX5_aboveNothing 0 = .ok (.iconst 0, 1) := by decide +kernel
theorem dX5_aboveNothing_1 : decode cX5_aboveNothing 1 = .ok (.istore_n 1, 1) := by decide +kernel
theorem dX5_aboveNothing_2 : decode cX5_aboveNothing 2 = .ok (.iconst 0, 1) := by decide +kernel
theorem dX5_aboveNothing_3 : decode cX5_aboveNothing 3 = .ok (.istore_n 2, 1) := by decide +kernel
theorem dX5_aboveNothing_4 : decode cX5_aboveNothing 4 = .ok (.iload_n 2, 1) := by decide +kernel
theorem dX5_aboveNothing_5 : decode cX5_aboveNothing 5 = .ok (.aload_n 0, 1) := by decide +kernel
theorem dX5_aboveNothing_6 : decode cX5_aboveNothing 6 = .ok (.getfield 13, 3) := by decide +kernel
theorem dX5_aboveNothing_9 : decode cX5_aboveNothing 9 = .ok (.arraylength, 1) := by decide +kernel
theorem dX5_aboveNothing_10 : decode cX5_aboveNothing 10 = .ok (.if_icmp .ge 26, 3) := by decide +kernel
theorem dX5_aboveNothing_13 : decode cX5_aboveNothing 13 = .ok (.iload_n 1, 1) := by decide +kernel
theorem dX5_aboveNothing_14 : decode cX5_aboveNothing 14 = .ok (.aload_n 0, 1) := by decide +kernel
theorem dX5_aboveNothing_15 : decode cX5_aboveNothing 15 = .ok (.getfield 13, 3) := by decide +kernel
theorem dX5_aboveNothing_18 : decode cX5_aboveNothing 18 = .ok (.iload_n 2, 1) := by decide +kernel
theorem dX5_aboveNothing_19 : decode cX5_aboveNothing 19 = .ok (.iaload, 1) := by decide +kernel
theorem dX5_aboveNothing_20 : decode cX5_aboveNothing 20 = .ok (.ifCond .le 7, 3) := by decide +kernel
theorem dX5_aboveNothing_23 : decode cX5_aboveNothing 23 = .ok (.iconst 1, 1) := by decide +kernel
theorem dX5_aboveNothing_24 : decode cX5_aboveNothing 24 = .ok (.goto 4, 3) := by decide +kernel
theorem dX5_aboveNothing_27 : decode cX5_aboveNothing 27 = .ok (.iconst 0, 1) := by decide +kernel
theorem dX5_aboveNothing_28 : decode cX5_aboveNothing 28 = .ok (.iadd, 1) := by decide +kernel
theorem dX5_aboveNothing_29 : decode cX5_aboveNothing 29 = .ok (.istore_n 1, 1) := by decide +kernel
theorem dX5_aboveNothing_30 : decode cX5_aboveNothing 30 = .ok (.iinc 2 1, 3) := by decide +kernel
theorem dX5_aboveNothing_33 : decode cX5_aboveNothing 33 = .ok (.goto (-29), 3) := by decide +kernel
theorem dX5_aboveNothing_36 : decode cX5_aboveNothing 36 = .ok (.iload_n 1, 1) := by decide +kernel
theorem dX5_aboveNothing_37 : decode cX5_aboveNothing 37 = .ok (.ireturn, 1) := by decide +kernel
