set_option maxRecDepth 20000 in
theorem ggX6_init_X3_init : GoodIn wsX6_init wsX3_init := goodIn_r _ [30, 31, 2, 3, 32, 33, 34, 35, 36, 37, 38, 39, 40, 41, 42, 43, 44, 45, 46, 115, 84, 85] (by decide +kernel) (by decide +kernel)
set_option maxRecDepth 20000 in
theorem gX6_init_X3_init_n9 : GoodIn wsX6_init (wsX3_init) := ggX6_init_X3_init
set_option maxRecDepth 20000 in
theorem ggX6_init_X0_init : GoodIn wsX6_init wsX0_init := goodIn_r _ [48, 49, 2, 3, 50, 33, 34, 51, 52, 53, 54, 55, 56, 38, 39, 40, 41, 42, 43, 44, 45, 46, 115, 96, 97, 98, 99, 100] (by decide +kernel) (by decide +kernel)
set_option maxRecDepth 20000 in
theorem gX6_init_X0_init_n18 : GoodIn wsX6_init (wsX0_init) := ggX6_init_X0_init
set_option maxRecDepth 20000 in
theorem ggX6_init_X4_init : GoodIn wsX6_init wsX4_init := goodIn_r _ [58, 59, 2, 3, 60, 33, 34, 61, 62, 63, 64, 65, 66, 67, 68, 69, 38, 39, 40, 41, 42, 43, 44, 45, 46, 115, 101, 102, 103, 104, 105, 106, 107, 108] (by decide +kernel) (by decide +kernel)
set_option maxRecDepth 20000 in
theorem gX6_init_X4_init_n25 : GoodIn wsX6_init (wsX4_init) := ggX6_init_X4_init
set_option maxRecDepth 20000 in
theorem ggX6_init_X1_init : GoodIn wsX6_init wsX1_init := goodIn_r _ [71, 72, 2, 3, 73, 74, 109, 110] (by decide +kernel) (by decide +kernel)
set_option maxRecDepth 20000 in
theorem gX6_init_X1_init_n35 : GoodIn wsX6_init (wsX1_init) := ggX6_init_X1_init
set_option maxRecDepth 20000 in
theorem ggX6_init_X2_init : GoodIn wsX6_init wsX2_init := goodIn_r _ [76, 77, 2, 3, 78, 33, 34, 79, 80, 81, 82, 83, 38, 39, 40, 41, 42, 43, 44, 45, 46, 115, 111, 112, 113, 114] (by decide +kernel) (by decide +kernel)
set_option maxRecDepth 20000 in
theorem gX6_init_X2_init_n48 : GoodIn wsX6_init (wsX2_init) := ggX6_init_X2_init
theorem dX6_init_0 : decode cX6_init 0 = .ok (.aload_n 0, 1) := by decide +kernel
theorem dX6_init_1 : decode cX6_init 1 = .ok (.invokespecial 1, 3) := by decide +kernel
theorem dX6_init_4 : decode cX6_init 4 = .ok (.aload_n 0, 1) := by decide +kernel
theorem dX6_init_5 : decode cX6_init 5 = .ok (.new 7, 3) := by decide +kernel
theorem dX6_init_8 : decode cX6_init 8 = .ok (.dup, 1) := by decide +kernel
theorem dX6_init_9 : decode cX6_init 9 = .ok (.invokespecial 9, 3) := by decide +kernel
theorem dX6_init_12 : decode cX6_init 12 = .ok (.putfield 10, 3) := by decide +kernel
theorem dX6_init_15 : decode cX6_init 15 = .ok (.aload_n 0, 1) := by decide +kernel
theorem dX6_init_16 : decode cX6_init 16 = .ok (.new 16, 3) := by decide +kernel
theorem dX6_init_19 : decode cX6_init 19 = .ok (.dup, 1) := by decide +kernel
theorem dX6_init_20 : decode cX6_init 20 = .ok (.invokespecial 18, 3) := by decide +kernel
theorem dX6_init_23 : decode cX6_init 23 = .ok (.putfield 19, 3) := by decide +kernel
theorem dX6_init_26 : decode cX6_init 26 = .ok (.aload_n 0, 1) := by decide +kernel
theorem dX6_init_27 : decode cX6_init 27 = .ok (.new 23, 3) := by decide +kernel
theorem dX6_init_30 : decode cX6_init 30 = .ok (.dup, 1) := by decide +kernel
theorem dX6_init_31 : decode cX6_init 31 = .ok (.invokespecial 25, 3) := by decide +kernel
theorem dX6_init_34 : decode cX6_init 34 = .ok (.putfield 26, 3) := by decide +kernel
theorem dX6_init_37 : decode cX6_init 37 = .ok (.aload_n 0, 1) := by decide +kernel
theorem dX6_init_38 : decode cX6_init 38 = .ok (.new 23, 3) := by decide +kernel
theorem dX6_init_41 : decode cX6_init 41 = .ok (.dup, 1) := by decide +kernel
theorem dX6_init_42 : decode cX6_init 42 = .ok (.invokespecial 25, 3) := by decide +kernel
theorem dX6_init_45 : decode cX6_init 45 = .ok (.putfield 30, 3) := by decide +kernel
theorem dX6_init_48 : decode cX6_init 48 = .ok (.aload_n 0, 1) := by decide +kernel
theorem dX6_init_49 : decode cX6_init 49 = .ok (.new 33, 3) := by decide +kernel
theorem dX6_init_52 : decode cX6_init 52 = .ok (.dup, 1) := by decide +kernel
theorem dX6_init_53 : decode cX6_init 53 = .ok (.invokespecial 35, 3) := by decide +kernel
theorem dX6_init_56 : decode cX6_init 56 = .ok (.putfield 36, 3) := by decide +kernel
theorem dX6_init_59 : decode cX6_init 59 = .ok (.aload_n 0, 1) := by decide +kernel
theorem dX6_init_60 : decode cX6_init 60 = .ok (.new 33, 3) := by decide +kernel
theorem dX6_init_63 : decode cX6_init 63 = .ok (.dup, 1) := by decide +kernel
theorem dX6_init_64 : decode cX6_init 64 = .ok (.invokespecial 35, 3) := by decide +kernel
theorem dX6_init_67 : decode cX6_init 67 = .ok (.putfield 40, 3) := by decide +kernel
theorem dX6_init_70 : decode cX6_init 70 = .ok (.aload_n 0, 1) := by decide +kernel
theorem dX6_init_71 : decode cX6_init 71 = .ok (.new 33, 3) := by decide +kernel
theorem dX6_init_74 : decode cX6_init 74 = .ok (.dup, 1) := by decide +kernel
theorem dX6_init_75 : decode cX6_init 75 = .ok (.invokespecial 35, 3) := by decide +kernel
theorem dX6_init_78 : decode cX6_init 78 = .ok (.putfield 43, 3) := by decide +kernel
theorem dX6_init_81 : decode cX6_init 81 = .ok (.aload_n 0, 1) := by decide +kernel
theorem dX6_init_82 : decode cX6_init 82 = .ok (.new 46, 3) := by decide +kernel
theorem dX6_init_85 : decode cX6_init 85 = .ok (.dup, 1) := by decide +kernel
theorem dX6_init_86 : decode cX6_init 86 = .ok (.invokespecial 48, 3) := by decide +kernel
theorem dX6_init_89 : decode cX6_init 89 = .ok (.putfield 49, 3) := by decide +kernel
theorem dX6_init_92 : decode cX6_init 92 = .ok (.aload_n 0, 1) := by decide +kernel
theorem dX6_init_93 : decode cX6_init 93 = .ok (.iconst 0, 1) := by decide +kernel
theorem dX6_init_94 : decode cX6_init 94 = .ok (.putfield 53, 3) := by decide +kernel
theorem dX6_init_97 : decode cX6_init 97 = .ok (.aload_n 0, 1) := by decide +kernel
theorem dX6_init_98 : decode cX6_init 98 = .ok (.iconst 0, 1) := by decide +kernel
theorem dX6_init_99 : decode cX6_init 99 = .ok (.putfield 57, 3) := by decide +kernel
theorem dX6_init_102 : decode cX6_init 102 = .ok (.return_, 1) := by decide +kernel
set_option maxRecDepth 20000 in
theorem ggX6_letter_X3_append : GoodIn wsX6_letter wsX3_append := goodIn_r _ [6, 7, 8, 9, 10, 11, 12, 13, 14, 25, 26, 27] (by decide +kernel) (by decide +kernel)
set_option maxRecDepth 20000 in
theorem gX6_letter_X3_append : GoodIn wsX6_letter (wsV RX6 64 RX3 yX3_append wsX3_append) := goodIn_app (goodIn_of _ (by decide +kernel)) ggX6_letter_X3_append
theorem dX6_letter_0 : decode cX6_letter 0 = .ok (.iload_n 1, 1) := by decide +kernel
theorem dX6_letter_1 : decode cX6_letter 1 = .ok (.iconst 1, 1) := by decide +kernel
theorem dX6_letter_2 : decode cX6_letter 2 = .ok (.if_icmp .lt 9, 3) := by decide +kernel
theorem dX6_letter_5 : decode cX6_letter 5 = .ok (.iload_n 1, 1) := by decide +kernel
theorem dX6_letter_6 : decode cX6_letter 6 = .ok (.bipush 126, 2) := by decide +kernel
theorem dX6_letter_8 : decode cX6_letter 8 = .ok (.if_icmp .le 6, 3) := by decide +kernel
theorem dX6_letter_11 : decode cX6_letter 11 = .ok (.bipush (-102), 2) := by decide +kernel
theorem dX6_letter_13 : decode cX6_letter 13 = .ok (.ireturn, 1) := by decide +kernel
theorem dX6_letter_14 : decode cX6_letter 14 = .ok (.aload_n 0, 1) := by decide +kernel
theorem dX6_letter_15 : decode cX6_letter 15 = .ok (.getfield 10, 3) := by decide +kernel
theorem dX6_letter_18 : decode cX6_letter 18 = .ok (.getfield 61, 3) := by decide +kernel
theorem dX6_letter_21 : decode cX6_letter 21 = .ok (.bipush 22, 2) := by decide +kernel
theorem dX6_letter_23 : decode cX6_letter 23 = .ok (.if_icmp .lt 6, 3) := by decide +kernel
theorem dX6_letter_26 : decode cX6_letter 26 = .ok (.bipush (-104), 2) := by decide +kernel
theorem dX6_letter_28 : decode cX6_letter 28 = .ok (.ireturn, 1) := by decide +kernel
theorem dX6_letter_29 : decode cX6_letter 29 = .ok (.aload_n 0, 1) := by decide +kernel
theorem dX6_letter_30 : decode cX6_letter 30 = .ok (.getfield 10, 3) := by decide +kernel
theorem dX6_letter_33 : decode cX6_letter 33 = .ok (.iload_n 1, 1) := by decide +kernel
theorem dX6_letter_34 : decode cX6_letter 34 = .ok (.invokevirtual 64, 3) := by decide +kernel
theorem dX6_letter_37 : decode cX6_letter 37 = .ok (.aload_n 0, 1) := by decide +kernel
theorem dX6_letter_38 : decode cX6_letter 38 = .ok (.getfield 10, 3) := by decide +kernel
theorem dX6_letter_41 : decode cX6_letter 41 = .ok (.getfield 61, 3) := by decide +kernel
theorem dX6_letter_44 : decode cX6_letter 44 = .ok (.ireturn, 1) := by decide +kernel
set_option maxRecDepth 20000 in
theorem ggX6_blank_X3_clear : GoodIn wsX6_blank wsX3_clear := goodIn_r _ [6, 7, 18, 19] (by decide +kernel) (by decide +kernel)
set_option maxRecDepth 20000 in
theorem gX6_blank_X3_clear : GoodIn wsX6_blank (wsV RX6 68 RX3 yX3_clear wsX3_clear) := goodIn_app (goodIn_of _ (by decide +kernel)) ggX6_blank_X3_clear
theorem dX6_blank_0 : decode cX6_blank 0 = .ok (.aload_n 0, 1) := by decide +kernel
theorem dX6_blank_1 : decode cX6_blank 1 = .ok (.getfield 10, 3) := by decide +kernel
theorem dX6_blank_4 : decode cX6_blank 4 = .ok (.getfield 61, 3) := by decide +kernel
theorem dX6_blank_7 : decode cX6_blank 7 = .ok (.istore_n 1, 1) := by decide +kernel
theorem dX6_blank_8 : decode cX6_blank 8 = .ok (.aload_n 0, 1) := by decide +kernel
theorem dX6_blank_9 : decode cX6_blank 9 = .ok (.getfield 10, 3) := by decide +kernel
theorem dX6_blank_12 : decode cX6_blank 12 = .ok (.invokevirtual 68, 3) := by decide +kernel
theorem dX6_blank_15 : decode cX6_blank 15 = .ok (.iload_n 1, 1) := by decide +kernel
theorem dX6_blank_16 : decode cX6_blank 16 = .ok (.ireturn, 1) := by decide +kernel
set_option maxRecDepth 20000 in
theorem ggX6_fault_X3_firstFault : GoodIn wsX6_fault wsX3_firstFault := goodIn_r _ [6, 7, 8, 9, 10, 11, 5, 12, 13, 14, 15, 16, 17, 18, 19, 20, 21, 22, 23, 24, 25, 26, 27, 28, 29, 30, 31, 32, 33, 34, 35, 36, 37, 38, 39, 40, 41, 42, 43, 44, 45, 46, 47, 48, 49, 50, 51, 52, 53, 54, 55, 56, 57, 58, 59, 60, 61, 62, 63, 64, 65, 66, 67, 68, 69, 70, 71, 72, 73, 74, 75, 76, 77, 78, 79, 80, 81, 82, 83, 84, 85, 86, 87, 88, 89, 90, 91, 92, 93, 94, 95, 96, 97, 98, 99, 100, 101, 102, 103, 104, 105, 106, 107, 108, 109, 110, 111, 112, 113, 124, 125, 126] (by decide +kernel) (by decide +kernel)
set_option maxRecDepth 20000 in
theorem gX6_fault_X3_firstFault : GoodIn wsX6_fault (wsV RX6 71 RX3 yX3_firstFault wsX3_firstFault) := goodIn_app (goodIn_of _ (by decide +kernel)) ggX6_fault_X3_firstFault
theorem dX6_fault_0 : decode cX6_fault 0 = .ok (.aload_n 0, 1) := by decide +kernel
theorem dX6_fault_1 : decode cX6_fault 1 = .ok (.getfield 10, 3) := by decide +kernel
theorem dX6_fault_4 : decode cX6_fault 4 = .ok (.invokevirtual 71, 3) := by decide +kernel
theorem dX6_fault_7 : decode cX6_fault 7 = .ok (.ireturn, 1) := by decide +kernel
set_option maxRecDepth 20000 in
theorem ggX6_player_X3_isWhole : GoodIn wsX6_player wsX3_isWhole := goodIn_r _ [10, 11, 12, 13, 14, 15, 9, 16, 17, 18, 19, 20, 21, 22, 23, 24, 25, 26, 27, 28, 29, 30, 31, 32, 33, 34, 35, 36, 37, 38, 39, 40, 41, 42, 43, 44, 45, 46, 47, 48, 49, 50, 51, 52, 53, 54, 55, 56, 57, 58, 59, 60, 61, 62, 63, 64, 65, 66, 67, 68, 69, 70, 71, 72, 73, 74, 75, 76, 77, 78, 79, 80, 81, 82, 83, 84, 85, 86, 87, 88, 89, 90, 91, 92, 93, 94, 95, 96, 97, 98, 99, 100, 101, 102, 103, 104, 105, 106, 107, 108, 109, 110, 111, 112, 113, 114, 115, 116, 117, 118, 119, 120, 121, 195, 196, 197] (by decide +kernel) (by decide +kernel)
set_option maxRecDepth 20000 in
theorem gX6_player_X3_isWhole : GoodIn wsX6_player (wsV RX6 75 RX3 yX3_isWhole wsX3_isWhole) := goodIn_app (goodIn_of _ (by decide +kernel)) ggX6_player_X3_isWhole
set_option maxRecDepth 20000 in
theorem ggX6_player_X0_read : GoodIn wsX6_player wsX0_read := goodIn_r _ [126, 127, 128, 129, 130, 131, 132, 133, 134, 9, 135, 11, 136, 63, 60, 64, 137, 138, 139, 140, 12, 21, 22, 23, 24, 25, 26, 30, 31, 32, 33, 34, 35, 36, 37, 38, 39, 40, 41, 42, 43, 44, 45, 46, 47, 48, 49, 50, 51, 52, 53, 54, 55, 56, 57, 58, 59, 61, 62, 65, 66, 67, 68, 69, 70, 71, 72, 73, 74, 75, 76, 77, 78, 79, 80, 81, 82, 83, 84, 85, 86, 87, 88, 89, 90, 91, 92, 93, 94, 95, 96, 97, 98, 99, 100, 101, 102, 103, 104, 105, 106, 107, 108, 109, 110, 111, 112, 113, 114, 115, 116, 117, 118, 141, 142, 143, 144, 145, 146, 147, 148, 149, 150, 125, 151, 190, 191, 192, 193, 194, 195, 196, 197] (by decide +kernel) (by decide +kernel)
set_option maxRecDepth 20000 in
theorem gX6_player_X0_read : GoodIn wsX6_player (wsV RX6 79 RX0 yX0_read wsX0_read) := goodIn_app (goodIn_of _ (by decide +kernel)) ggX6_player_X0_read
set_option maxRecDepth 20000 in
theorem ggX6_player_X3_ruleRead : GoodIn wsX6_player wsX3_ruleRead := goodIn_r _ [155, 12, 11, 21, 22, 23, 24, 25, 26, 195, 196, 197] (by decide +kernel) (by decide +kernel)
set_option maxRecDepth 20000 in
theorem gX6_player_X3_ruleRead : GoodIn wsX6_player (wsV RX6 83 RX3 yX3_ruleRead wsX3_ruleRead) := goodIn_app (goodIn_of _ (by decide +kernel)) ggX6_player_X3_ruleRead
set_option maxRecDepth 20000 in
theorem ggX6_player_X0_all : GoodIn wsX6_player wsX0_all := goodIn_r _ [159, 127, 190, 191, 192, 193, 194] (by decide +kernel) (by decide +kernel)
set_option maxRecDepth 20000 in
theorem gX6_player_X0_all : GoodIn wsX6_player (wsV RX6 86 RX0 yX0_all wsX0_all) := goodIn_app (goodIn_of _ (by decide +kernel)) ggX6_player_X0_all
set_option maxRecDepth 20000 in
theorem ggX6_player_X4_begin : GoodIn wsX6_player wsX4_begin := goodIn_r _ [164, 165, 166, 167, 168, 169, 170, 171, 172, 173, 174, 24, 175, 26, 198, 199, 200, 201, 202, 203, 204, 205, 197] (by decide +kernel) (by decide +kernel)
set_option maxRecDepth 20000 in
theorem gX6_player_X4_begin : GoodIn wsX6_player (wsV RX6 89 RX4 yX4_begin wsX4_begin) := goodIn_app (goodIn_of _ (by decide +kernel)) ggX6_player_X4_begin
set_option maxRecDepth 20000 in
theorem ggX6_player_X3_clear : GoodIn wsX6_player wsX3_clear := goodIn_r _ [179, 11, 195, 196] (by decide +kernel) (by decide +kernel)
set_option maxRecDepth 20000 in
theorem gX6_player_X3_clear : GoodIn wsX6_player (wsV RX6 68 RX3 yX3_clear wsX3_clear) := goodIn_app (goodIn_of _ (by decide +kernel)) ggX6_player_X3_clear
theorem dX6_player_0 : decode cX6_player 0 = .ok (.aload_n 0, 1) := by decide +kernel
theorem dX6_player_1 : decode cX6_player 1 = .ok (.getfield 10, 3) := by decide +kernel
theorem dX6_player_4 : decode cX6_player 4 = .ok (.invokevirtual 75, 3) := by decide +kernel
theorem dX6_player_7 : decode cX6_player 7 = .ok (.ifCond .ne 6, 3) := by decide +kernel
theorem dX6_player_10 : decode cX6_player 10 = .ok (.bipush (-103), 2) := by decide +kernel
theorem dX6_player_12 : decode cX6_player 12 = .ok (.ireturn, 1) := by decide +kernel
theorem dX6_player_13 : decode cX6_player 13 = .ok (.aload_n 0, 1) := by decide +kernel
theorem dX6_player_14 : decode cX6_player 14 = .ok (.getfield 19, 3) := by decide +kernel
theorem dX6_player_17 : decode cX6_player 17 = .ok (.aload_n 0, 1) := by decide +kernel
theorem dX6_player_18 : decode cX6_player 18 = .ok (.getfield 10, 3) := by decide +kernel
theorem dX6_player_21 : decode cX6_player 21 = .ok (.invokevirtual 79, 3) := by decide +kernel
theorem dX6_player_24 : decode cX6_player 24 = .ok (.aload_n 0, 1) := by decide +kernel
theorem dX6_player_25 : decode cX6_player 25 = .ok (.getfield 26, 3) := by decide +kernel
theorem dX6_player_28 : decode cX6_player 28 = .ok (.aload_n 0, 1) := by decide +kernel
theorem dX6_player_29 : decode cX6_player 29 = .ok (.getfield 10, 3) := by decide +kernel
theorem dX6_player_32 : decode cX6_player 32 = .ok (.invokevirtual 83, 3) := by decide +kernel
theorem dX6_player_35 : decode cX6_player 35 = .ok (.aload_n 0, 1) := by decide +kernel
theorem dX6_player_36 : decode cX6_player 36 = .ok (.getfield 19, 3) := by decide +kernel
theorem dX6_player_39 : decode cX6_player 39 = .ok (.invokevirtual 86, 3) := by decide +kernel
theorem dX6_player_42 : decode cX6_player 42 = .ok (.invokevirtual 89, 3) := by decide +kernel
theorem dX6_player_45 : decode cX6_player 45 = .ok (.aload_n 0, 1) := by decide +kernel
theorem dX6_player_46 : decode cX6_player 46 = .ok (.iconst 0, 1) := by decide +kernel
theorem dX6_player_47 : decode cX6_player 47 = .ok (.putfield 53, 3) := by decide +kernel
theorem dX6_player_50 : decode cX6_player 50 = .ok (.aload_n 0, 1) := by decide +kernel
theorem dX6_player_51 : decode cX6_player 51 = .ok (.dup, 1) := by decide +kernel
theorem dX6_player_52 : decode cX6_player 52 = .ok (.getfield 57, 3) := by decide +kernel
theorem dX6_player_55 : decode cX6_player 55 = .ok (.iconst 1, 1) := by decide +kernel
theorem dX6_player_56 : decode cX6_player 56 = .ok (.iadd, 1) := by decide +kernel
theorem dX6_player_57 : decode cX6_player 57 = .ok (.putfield 57, 3) := by decide +kernel
theorem dX6_player_60 : decode cX6_player 60 = .ok (.aload_n 0, 1) := by decide +kernel
theorem dX6_player_61 : decode cX6_player 61 = .ok (.getfield 10, 3) := by decide +kernel
theorem dX6_player_64 : decode cX6_player 64 = .ok (.invokevirtual 68, 3) := by decide +kernel
theorem dX6_player_67 : decode cX6_player 67 = .ok (.aload_n 0, 1) := by decide +kernel
theorem dX6_player_68 : decode cX6_player 68 = .ok (.getfield 19, 3) := by decide +kernel
theorem dX6_player_71 : decode cX6_player 71 = .ok (.getfield 93, 3) := by decide +kernel
theorem dX6_player_74 : decode cX6_player 74 = .ok (.ireturn, 1) := by decide +kernel
set_option maxRecDepth 20000 in
theorem ggX6_song_X0_has : GoodIn wsX6_song wsX0_has := goodIn_r _ [6, 7, 93, 94, 95, 96, 97] (by decide +kernel) (by decide +kernel)
set_option maxRecDepth 20000 in
theorem gX6_song_X0_has : GoodIn wsX6_song (wsV RX6 96 RX0 yX0_has wsX0_has) := goodIn_app (goodIn_of _ (by decide +kernel)) ggX6_song_X0_has
set_option maxRecDepth 20000 in
theorem ggX6_song_X6_songFact : GoodIn wsX6_song wsX6_songFact := goodIn_r _ [12, 1, 13, 14, 15, 16, 17, 18, 19, 20, 21, 22, 11, 23, 24, 25, 26, 27, 28, 29, 30, 31, 32, 33, 34, 35, 36, 37, 5, 38, 39, 40, 41, 42, 7, 43, 44, 45, 46, 47, 48, 49, 50, 51, 52, 53, 54, 55, 56, 57, 58, 59, 60, 61, 62, 63, 64, 65, 66, 67, 68, 69, 70, 71, 72, 73, 74, 75, 76, 77, 78, 79, 80, 81, 82, 83, 84, 85, 86, 87, 88, 89, 90, 91, 92, 93, 94, 95, 96, 97, 98, 99, 100, 101, 102, 103, 104, 105, 106, 107, 108] (by decide +kernel) (by decide +kernel)
set_option maxRecDepth 20000 in
theorem gX6_song_X6_songFact : GoodIn wsX6_song (wsV RX6 100 RX6 yX6_songFact wsX6_songFact) := goodIn_app (goodIn_of _ (by decide +kernel)) ggX6_song_X6_songFact
theorem dX6_song_0 : decode cX6_song 0 = .ok (.aload_n 0, 1) := by decide +kernel
theorem dX6_song_1 : decode cX6_song 1 = .ok (.getfield 19, 3) := by decide +kernel
theorem dX6_song_4 : decode cX6_song 4 = .ok (.iload_n 1, 1) := by decide +kernel
theorem dX6_song_5 : decode cX6_song 5 = .ok (.invokevirtual 96, 3) := by decide +kernel
theorem dX6_song_8 : decode cX6_song 8 = .ok (.ifCond .ne 6, 3) := by decide +kernel
theorem dX6_song_11 : decode cX6_song 11 = .ok (.bipush (-101), 2) := by decide +kernel
theorem dX6_song_13 : decode cX6_song 13 = .ok (.ireturn, 1) := by decide +kernel
theorem dX6_song_14 : decode cX6_song 14 = .ok (.iload_n 2, 1) := by decide +kernel
theorem dX6_song_15 : decode cX6_song 15 = .ok (.ifCond .lt 9, 3) := by decide +kernel
theorem dX6_song_18 : decode cX6_song 18 = .ok (.iload_n 2, 1) := by decide +kernel
theorem dX6_song_19 : decode cX6_song 19 = .ok (.bipush 10, 2) := by decide +kernel
theorem dX6_song_21 : decode cX6_song 21 = .ok (.if_icmp .lt 6, 3) := by decide +kernel
theorem dX6_song_24 : decode cX6_song 24 = .ok (.bipush (-102), 2) := by decide +kernel
theorem dX6_song_26 : decode cX6_song 26 = .ok (.ireturn, 1) := by decide +kernel
theorem dX6_song_27 : decode cX6_song 27 = .ok (.aload_n 0, 1) := by decide +kernel
theorem dX6_song_28 : decode cX6_song 28 = .ok (.iload_n 1, 1) := by decide +kernel
theorem dX6_song_29 : decode cX6_song 29 = .ok (.iload_n 2, 1) := by decide +kernel
theorem dX6_song_30 : decode cX6_song 30 = .ok (.invokevirtual 100, 3) := by decide +kernel
theorem dX6_song_33 : decode cX6_song 33 = .ok (.ireturn, 1) := by decide +kernel
set_option maxRecDepth 20000 in
theorem ggX6_as_X0_has : GoodIn wsX6_as wsX0_has := goodIn_r _ [6, 7, 29, 30, 31, 32, 33] (by decide +kernel) (by decide +kernel)
set_option maxRecDepth 20000 in
theorem gX6_as_X0_has : GoodIn wsX6_as (wsV RX6 96 RX0 yX0_has wsX0_has) := goodIn_app (goodIn_of _ (by decide +kernel)) ggX6_as_X0_has
set_option maxRecDepth 20000 in
theorem ggX6_as_X0_isOfKind : GoodIn wsX6_as wsX0_isOfKind := goodIn_r _ [11, 12, 13, 14, 15, 16, 17, 18, 29, 30, 31, 32, 33, 34] (by decide +kernel) (by decide +kernel)
set_option maxRecDepth 20000 in
theorem gX6_as_X0_isOfKind : GoodIn wsX6_as (wsV RX6 104 RX0 yX0_isOfKind wsX0_isOfKind) := goodIn_app (goodIn_of _ (by decide +kernel)) ggX6_as_X0_isOfKind
theorem dX6_as_0 : decode cX6_as 0 = .ok (.aload_n 0, 1) := by decide +kernel
theorem dX6_as_1 : decode cX6_as 1 = .ok (.getfield 19, 3) := by decide +kernel
theorem dX6_as_4 : decode cX6_as 4 = .ok (.iload_n 1, 1) := by decide +kernel
theorem dX6_as_5 : decode cX6_as 5 = .ok (.invokevirtual 96, 3) := by decide +kernel
theorem dX6_as_8 : decode cX6_as 8 = .ok (.ifCond .ne 6, 3) := by decide +kernel
theorem dX6_as_11 : decode cX6_as 11 = .ok (.bipush (-101), 2) := by decide +kernel
theorem dX6_as_13 : decode cX6_as 13 = .ok (.ireturn, 1) := by decide +kernel
theorem dX6_as_14 : decode cX6_as 14 = .ok (.iload_n 2, 1) := by decide +kernel
theorem dX6_as_15 : decode cX6_as 15 = .ok (.ifCond .lt 8, 3) := by decide +kernel
theorem dX6_as_18 : decode cX6_as 18 = .ok (.iload_n 2, 1) := by decide +kernel
theorem dX6_as_19 : decode cX6_as 19 = .ok (.iconst 5, 1) := by decide +kernel
theorem dX6_as_20 : decode cX6_as 20 = .ok (.if_icmp .lt 6, 3) := by decide +kernel
theorem dX6_as_23 : decode cX6_as 23 = .ok (.bipush (-102), 2) := by decide +kernel
theorem dX6_as_25 : decode cX6_as 25 = .ok (.ireturn, 1) := by decide +kernel
theorem dX6_as_26 : decode cX6_as 26 = .ok (.aload_n 0, 1) := by decide +kernel
theorem dX6_as_27 : decode cX6_as 27 = .ok (.getfield 19, 3) := by decide +kernel
theorem dX6_as_30 : decode cX6_as 30 = .ok (.iload_n 1, 1) := by decide +kernel
theorem dX6_as_31 : decode cX6_as 31 = .ok (.iload_n 2, 1) := by decide +kernel
theorem dX6_as_32 : decode cX6_as 32 = .ok (.invokevirtual 104, 3) := by decide +kernel
theorem dX6_as_35 : decode cX6_as 35 = .ok (.ifCond .eq 7, 3) := by decide +kernel
theorem dX6_as_38 : decode cX6_as 38 = .ok (.iload_n 1, 1) := by decide +kernel
theorem dX6_as_39 : decode cX6_as 39 = .ok (.goto 4, 3) := by decide +kernel
theorem dX6_as_42 : decode cX6_as 42 = .ok (.iconst (-1), 1) := by decide +kernel
theorem dX6_as_43 : decode cX6_as 43 = .ok (.ireturn, 1) := by decide +kernel
set_option maxRecDepth 20000 in
theorem ggX6_rule_X6_noPlayer : GoodIn wsX6_rule wsX6_noPlayer := goodIn_r _ [6, 7, 8, 9, 10, 11, 12, 13, 14, 15, 16, 17, 26, 27, 28, 29, 30] (by decide +kernel) (by decide +kernel)
set_option maxRecDepth 20000 in
theorem gX6_rule_X6_noPlayer : GoodIn wsX6_rule (wsV RX6 108 RX6 yX6_noPlayer wsX6_noPlayer) := goodIn_app (goodIn_of _ (by decide +kernel)) ggX6_rule_X6_noPlayer
theorem dX6_rule_0 : decode cX6_rule 0 = .ok (.iload_n 1, 1) := by decide +kernel
theorem dX6_rule_1 : decode cX6_rule 1 = .ok (.ifCond .lt 8, 3) := by decide +kernel
theorem dX6_rule_4 : decode cX6_rule 4 = .ok (.iload_n 1, 1) := by decide +kernel
theorem dX6_rule_5 : decode cX6_rule 5 = .ok (.iconst 4, 1) := by decide +kernel
theorem dX6_rule_6 : decode cX6_rule 6 = .ok (.if_icmp .lt 6, 3) := by decide +kernel
theorem dX6_rule_9 : decode cX6_rule 9 = .ok (.bipush (-102), 2) := by decide +kernel
theorem dX6_rule_11 : decode cX6_rule 11 = .ok (.ireturn, 1) := by decide +kernel
theorem dX6_rule_12 : decode cX6_rule 12 = .ok (.aload_n 0, 1) := by decide +kernel
theorem dX6_rule_13 : decode cX6_rule 13 = .ok (.invokevirtual 108, 3) := by decide +kernel
theorem dX6_rule_16 : decode cX6_rule 16 = .ok (.ifCond .eq 6, 3) := by decide +kernel
theorem dX6_rule_19 : decode cX6_rule 19 = .ok (.bipush (-103), 2) := by decide +kernel
theorem dX6_rule_21 : decode cX6_rule 21 = .ok (.ireturn, 1) := by decide +kernel
theorem dX6_rule_22 : decode cX6_rule 22 = .ok (.aload_n 0, 1) := by decide +kernel
theorem dX6_rule_23 : decode cX6_rule 23 = .ok (.getfield 26, 3) := by decide +kernel
theorem dX6_rule_26 : decode cX6_rule 26 = .ok (.getfield 111, 3) := by decide +kernel
theorem dX6_rule_29 : decode cX6_rule 29 = .ok (.istore_n 2, 1) := by decide +kernel
theorem dX6_rule_30 : decode cX6_rule 30 = .ok (.aload_n 0, 1) := by decide +kernel
theorem dX6_rule_31 : decode cX6_rule 31 = .ok (.getfield 26, 3) := by decide +kernel
theorem dX6_rule_34 : decode cX6_rule 34 = .ok (.iload_n 1, 1) := by decide +kernel
theorem dX6_rule_35 : decode cX6_rule 35 = .ok (.putfield 111, 3) := by decide +kernel
theorem dX6_rule_38 : decode cX6_rule 38 = .ok (.iload_n 2, 1) := by decide +kernel
theorem dX6_rule_39 : decode cX6_rule 39 = .ok (.ireturn, 1) := by decide +kernel
set_option maxRecDepth 20000 in
theorem ggX6_play_X0_has : GoodIn wsX6_play wsX0_has := goodIn_r _ [7, 8, 75, 76, 77, 78, 79] (by decide +kernel) (by decide +kernel)
set_option maxRecDepth 20000 in
theorem gX6_play_X0_has : GoodIn wsX6_play (wsV RX6 96 RX0 yX0_has wsX0_has) := goodIn_app (goodIn_of _ (by decide +kernel)) ggX6_play_X0_has
set_option maxRecDepth 20000 in
theorem ggX6_play_X6_mayNow : GoodIn wsX6_play wsX6_mayNow := goodIn_r _ [13, 1, 2, 14, 15, 16, 6, 17, 18, 19, 20, 21, 8, 22, 23, 24, 25, 26, 27, 28, 29, 30, 31, 32, 33, 57, 58, 59, 60, 61, 62, 63, 64, 65, 66, 67, 68, 69, 70, 71, 72, 73, 74, 75, 76, 77, 78, 79, 80] (by decide +kernel) (by decide +kernel)
set_option maxRecDepth 20000 in
theorem gX6_play_X6_mayNow : GoodIn wsX6_play (wsV RX6 114 RX6 yX6_mayNow wsX6_mayNow) := goodIn_app (goodIn_of _ (by decide +kernel)) ggX6_play_X6_mayNow
set_option maxRecDepth 20000 in
theorem ggX6_play_X6_holds : GoodIn wsX6_play wsX6_holds := goodIn_r _ [36] (by decide +kernel) (by decide +kernel)
set_option maxRecDepth 20000 in
theorem gX6_play_X6_holds : GoodIn wsX6_play (va_wsS RX6 117 yX6_holds wsX6_holds) := goodIn_app (goodIn_of _ (by decide +kernel)) ggX6_play_X6_holds
set_option maxRecDepth 20000 in
theorem ggX6_play_X0_bagAfter : GoodIn wsX6_play wsX0_bagAfter := goodIn_r _ [40, 18, 19, 20, 6, 21, 8, 75, 76, 77, 78, 79] (by decide +kernel) (by decide +kernel)
set_option maxRecDepth 20000 in
theorem gX6_play_X0_bagAfter : GoodIn wsX6_play (wsV RX6 123 RX0 yX0_bagAfter wsX0_bagAfter) := goodIn_app (goodIn_of _ (by decide +kernel)) ggX6_play_X0_bagAfter
set_option maxRecDepth 20000 in
theorem ggX6_play_X5_increase : GoodIn wsX6_play wsX5_increase := goodIn_r _ [44, 45, 29, 30, 31, 32, 33, 46, 47, 48, 49, 80] (by decide +kernel) (by decide +kernel)
set_option maxRecDepth 20000 in
theorem gX6_play_X5_increase : GoodIn wsX6_play (wsV RX6 136 RX5 yX5_increase wsX5_increase) := goodIn_app (goodIn_of _ (by decide +kernel)) ggX6_play_X5_increase
set_option maxRecDepth 20000 in
theorem ggX6_play_J6_bitCount_0f7a4 : GoodIn wsX6_play wsJ6_bitCount_0f7a4 := goodIn_r _ [53, 54, 55, 56] (by decide +kernel) (by decide +kernel)
set_option maxRecDepth 20000 in
theorem gX6_play_J6_bitCount_0f7a4 : GoodIn wsX6_play (va_wsS RX6 141 yJ6_bitCount_0f7a4 wsJ6_bitCount_0f7a4) := goodIn_app (goodIn_of _ (by decide +kernel)) ggX6_play_J6_bitCount_0f7a4
theorem dX6_play_0 : decode cX6_play 0 = .ok (.aload_n 0, 1) := by decide +kernel
theorem dX6_play_1 : decode cX6_play 1 = .ok (.getfield 19, 3) := by decide +kernel
theorem dX6_play_4 : decode cX6_play 4 = .ok (.iload_n 1, 1) := by decide +kernel
theorem dX6_play_5 : decode cX6_play 5 = .ok (.invokevirtual 96, 3) := by decide +kernel
theorem dX6_play_8 : decode cX6_play 8 = .ok (.ifCond .ne 6, 3) := by decide +kernel
theorem dX6_play_11 : decode cX6_play 11 = .ok (.bipush (-101), 2) := by decide +kernel
theorem dX6_play_13 : decode cX6_play 13 = .ok (.ireturn, 1) := by decide +kernel
theorem dX6_play_14 : decode cX6_play 14 = .ok (.aload_n 0, 1) := by decide +kernel
theorem dX6_play_15 : decode cX6_play 15 = .ok (.invokevirtual 114, 3) := by decide +kernel
theorem dX6_play_18 : decode cX6_play 18 = .ok (.iload_n 1, 1) := by decide +kernel
theorem dX6_play_19 : decode cX6_play 19 = .ok (.invokestatic 117, 3) := by decide +kernel
theorem dX6_play_22 : decode cX6_play 22 = .ok (.ifCond .ne 6, 3) := by decide +kernel
theorem dX6_play_25 : decode cX6_play 25 = .ok (.bipush (-103), 2) := by decide +kernel
theorem dX6_play_27 : decode cX6_play 27 = .ok (.ireturn, 1) := by decide +kernel
theorem dX6_play_28 : decode cX6_play 28 = .ok (.aload_n 0, 1) := by decide +kernel
theorem dX6_play_29 : decode cX6_play 29 = .ok (.getfield 26, 3) := by decide +kernel
theorem dX6_play_32 : decode cX6_play 32 = .ok (.aload_n 0, 1) := by decide +kernel
theorem dX6_play_33 : decode cX6_play 33 = .ok (.getfield 19, 3) := by decide +kernel
theorem dX6_play_36 : decode cX6_play 36 = .ok (.aload_n 0, 1) := by decide +kernel
theorem dX6_play_37 : decode cX6_play 37 = .ok (.getfield 26, 3) := by decide +kernel
theorem dX6_play_40 : decode cX6_play 40 = .ok (.getfield 120, 3) := by decide +kernel
theorem dX6_play_43 : decode cX6_play 43 = .ok (.iload_n 1, 1) := by decide +kernel
theorem dX6_play_44 : decode cX6_play 44 = .ok (.invokevirtual 123, 3) := by decide +kernel
theorem dX6_play_47 : decode cX6_play 47 = .ok (.putfield 120, 3) := by decide +kernel
theorem dX6_play_50 : decode cX6_play 50 = .ok (.aload_n 0, 1) := by decide +kernel
theorem dX6_play_51 : decode cX6_play 51 = .ok (.getfield 26, 3) := by decide +kernel
theorem dX6_play_54 : decode cX6_play 54 = .ok (.iload_n 1, 1) := by decide +kernel
theorem dX6_play_55 : decode cX6_play 55 = .ok (.putfield 126, 3) := by decide +kernel
theorem dX6_play_58 : decode cX6_play 58 = .ok (.aload_n 0, 1) := by decide +kernel
theorem dX6_play_59 : decode cX6_play 59 = .ok (.getfield 26, 3) := by decide +kernel
theorem dX6_play_62 : decode cX6_play 62 = .ok (.iconst 0, 1) := by decide +kernel
theorem dX6_play_63 : decode cX6_play 63 = .ok (.putfield 129, 3) := by decide +kernel
theorem dX6_play_66 : decode cX6_play 66 = .ok (.aload_n 0, 1) := by decide +kernel
theorem dX6_play_67 : decode cX6_play 67 = .ok (.getfield 26, 3) := by decide +kernel
theorem dX6_play_70 : decode cX6_play 70 = .ok (.getfield 132, 3) := by decide +kernel
theorem dX6_play_73 : decode cX6_play 73 = .ok (.iload_n 1, 1) := by decide +kernel
theorem dX6_play_74 : decode cX6_play 74 = .ok (.invokevirtual 136, 3) := by decide +kernel
theorem dX6_play_77 : decode cX6_play 77 = .ok (.aload_n 0, 1) := by decide +kernel
theorem dX6_play_78 : decode cX6_play 78 = .ok (.getfield 26, 3) := by decide +kernel
theorem dX6_play_81 : decode cX6_play 81 = .ok (.getfield 120, 3) := by decide +kernel
theorem dX6_play_84 : decode cX6_play 84 = .ok (.invokestatic 141, 3) := by decide +kernel
theorem dX6_play_87 : decode cX6_play 87 = .ok (.ireturn, 1) := by decide +kernel
set_option maxRecDepth 20000 in
theorem ggX6_skip_X5_increase : GoodIn wsX6_skip wsX5_increase := goodIn_r _ [6, 7, 8, 9, 5, 10, 11, 12, 13, 14, 15, 45] (by decide +kernel) (by decide +kernel)
set_option maxRecDepth 20000 in
theorem gX6_skip_X5_increase : GoodIn wsX6_skip (wsV RX6 136 RX5 yX5_increase wsX5_increase) := goodIn_app (goodIn_of _ (by decide +kernel)) ggX6_skip_X5_increase
set_option maxRecDepth 20000 in
theorem ggX6_skip_X6_weight : GoodIn wsX6_skip wsX6_weight := goodIn_r _ [20, 21, 1, 22, 23, 24, 25, 26, 8, 9, 5, 10, 11, 27, 28, 29, 30, 31, 32, 33, 34, 35, 36, 46, 47, 48, 49, 50, 37, 38, 39, 40, 41, 42, 43, 44, 45] (by decide +kernel) (by decide +kernel)
set_option maxRecDepth 20000 in
theorem gX6_skip_X6_weight : GoodIn wsX6_skip (wsV RX6 150 RX6 yX6_weight wsX6_weight) := goodIn_app (goodIn_of _ (by decide +kernel)) ggX6_skip_X6_weight
theorem dX6_skip_0 : decode cX6_skip 0 = .ok (.aload_n 0, 1) := by decide +kernel
theorem dX6_skip_1 : decode cX6_skip 1 = .ok (.getfield 26, 3) := by decide +kernel
theorem dX6_skip_4 : decode cX6_skip 4 = .ok (.getfield 126, 3) := by decide +kernel
theorem dX6_skip_7 : decode cX6_skip 7 = .ok (.iconst (-1), 1) := by decide +kernel
theorem dX6_skip_8 : decode cX6_skip 8 = .ok (.if_icmp .eq 13, 3) := by decide +kernel
theorem dX6_skip_11 : decode cX6_skip 11 = .ok (.aload_n 0, 1) := by decide +kernel
theorem dX6_skip_12 : decode cX6_skip 12 = .ok (.getfield 26, 3) := by decide +kernel
theorem dX6_skip_15 : decode cX6_skip 15 = .ok (.getfield 129, 3) := by decide +kernel
theorem dX6_skip_18 : decode cX6_skip 18 = .ok (.ifCond .eq 6, 3) := by decide +kernel
theorem dX6_skip_21 : decode cX6_skip 21 = .ok (.bipush (-103), 2) := by decide +kernel
theorem dX6_skip_23 : decode cX6_skip 23 = .ok (.ireturn, 1) := by decide +kernel
theorem dX6_skip_24 : decode cX6_skip 24 = .ok (.aload_n 0, 1) := by decide +kernel
theorem dX6_skip_25 : decode cX6_skip 25 = .ok (.getfield 26, 3) := by decide +kernel
theorem dX6_skip_28 : decode cX6_skip 28 = .ok (.iconst 1, 1) := by decide +kernel
theorem dX6_skip_29 : decode cX6_skip 29 = .ok (.putfield 129, 3) := by decide +kernel
theorem dX6_skip_32 : decode cX6_skip 32 = .ok (.aload_n 0, 1) := by decide +kernel
theorem dX6_skip_33 : decode cX6_skip 33 = .ok (.getfield 26, 3) := by decide +kernel
theorem dX6_skip_36 : decode cX6_skip 36 = .ok (.getfield 147, 3) := by decide +kernel
theorem dX6_skip_39 : decode cX6_skip 39 = .ok (.aload_n 0, 1) := by decide +kernel
theorem dX6_skip_40 : decode cX6_skip 40 = .ok (.getfield 26, 3) := by decide +kernel
theorem dX6_skip_43 : decode cX6_skip 43 = .ok (.getfield 126, 3) := by decide +kernel
theorem dX6_skip_46 : decode cX6_skip 46 = .ok (.invokevirtual 136, 3) := by decide +kernel
theorem dX6_skip_49 : decode cX6_skip 49 = .ok (.aload_n 0, 1) := by decide +kernel
theorem dX6_skip_50 : decode cX6_skip 50 = .ok (.aload_n 0, 1) := by decide +kernel
theorem dX6_skip_51 : decode cX6_skip 51 = .ok (.getfield 26, 3) := by decide +kernel
theorem dX6_skip_54 : decode cX6_skip 54 = .ok (.getfield 126, 3) := by decide +kernel
theorem dX6_skip_57 : decode cX6_skip 57 = .ok (.invokevirtual 150, 3) := by decide +kernel
theorem dX6_skip_60 : decode cX6_skip 60 = .ok (.ireturn, 1) := by decide +kernel
set_option maxRecDepth 20000 in
theorem ggX6_twice_X6_noPlayer : GoodIn wsX6_twice wsX6_noPlayer := goodIn_r _ [8, 9, 89, 90, 91, 92, 93, 94, 95, 96, 97, 98, 101, 102, 103, 104, 105] (by decide +kernel) (by decide +kernel)
set_option maxRecDepth 20000 in
theorem gX6_twice_X6_noPlayer : GoodIn wsX6_twice (wsV RX6 108 RX6 yX6_noPlayer wsX6_noPlayer) := goodIn_app (goodIn_of _ (by decide +kernel)) ggX6_twice_X6_noPlayer
set_option maxRecDepth 20000 in
theorem ggX6_twice_X6_reckonTwice : GoodIn wsX6_twice wsX6_reckonTwice := goodIn_r _ [13, 3, 14, 15, 16, 17, 18, 19, 20, 21, 22, 23, 24, 25, 26, 7, 27, 9, 28, 29, 30, 31, 32, 33, 34, 35, 36, 37, 38, 39, 40, 41, 42, 43, 44, 45, 46, 47, 48, 49, 50, 51, 52, 53, 54, 55, 56, 57, 58, 59, 60, 61, 62, 63, 64, 65, 66, 67, 68, 69, 70, 71, 72, 73, 74, 75, 76, 77, 78, 79, 80, 81, 82, 83, 84, 85, 86, 87, 88, 89, 90, 91, 92, 93, 94, 95, 96, 97, 98, 106, 107, 108, 109, 110, 111, 112, 113, 99, 100, 101, 102, 103, 104, 105, 114] (by decide +kernel) (by decide +kernel)
set_option maxRecDepth 20000 in
theorem gX6_twice_X6_reckonTwice : GoodIn wsX6_twice (wsV RX6 157 RX6 yX6_reckonTwice wsX6_reckonTwice) := goodIn_app (goodIn_of _ (by decide +kernel)) ggX6_twice_X6_reckonTwice
theorem dX6_twice_0 : decode cX6_twice 0 = .ok (.iload_n 1, 1) := by decide +kernel
theorem dX6_twice_1 : decode cX6_twice 1 = .ok (.iconst 2, 1) := by decide +kernel
theorem dX6_twice_2 : decode cX6_twice 2 = .ok (.if_icmp .lt 17, 3) := by decide +kernel
theorem dX6_twice_5 : decode cX6_twice 5 = .ok (.iload_n 1, 1) := by decide +kernel
theorem dX6_twice_6 : decode cX6_twice 6 = .ok (.iconst 3, 1) := by decide +kernel
theorem dX6_twice_7 : decode cX6_twice 7 = .ok (.if_icmp .gt 12, 3) := by decide +kernel
theorem dX6_twice_10 : decode cX6_twice 10 = .ok (.iload_n 2, 1) := by decide +kernel
theorem dX6_twice_11 : decode cX6_twice 11 = .ok (.ifCond .lt 8, 3) := by decide +kernel
theorem dX6_twice_14 : decode cX6_twice 14 = .ok (.iload_n 2, 1) := by decide +kernel
theorem dX6_twice_15 : decode cX6_twice 15 = .ok (.iconst 1, 1) := by decide +kernel
theorem dX6_twice_16 : decode cX6_twice 16 = .ok (.if_icmp .le 7, 3) := by decide +kernel
theorem dX6_twice_19 : decode cX6_twice 19 = .ok (.ldc2_w 153, 3) := by decide +kernel
theorem dX6_twice_22 : decode cX6_twice 22 = .ok (.lreturn, 1) := by decide +kernel
theorem dX6_twice_23 : decode cX6_twice 23 = .ok (.aload_n 0, 1) := by decide +kernel
theorem dX6_twice_24 : decode cX6_twice 24 = .ok (.invokevirtual 108, 3) := by decide +kernel
theorem dX6_twice_27 : decode cX6_twice 27 = .ok (.ifCond .eq 7, 3) := by decide +kernel
theorem dX6_twice_30 : decode cX6_twice 30 = .ok (.ldc2_w 155, 3) := by decide +kernel
theorem dX6_twice_33 : decode cX6_twice 33 = .ok (.lreturn, 1) := by decide +kernel
theorem dX6_twice_34 : decode cX6_twice 34 = .ok (.aload_n 0, 1) := by decide +kernel
theorem dX6_twice_35 : decode cX6_twice 35 = .ok (.iload_n 1, 1) := by decide +kernel
theorem dX6_twice_36 : decode cX6_twice 36 = .ok (.invokevirtual 157, 3) := by decide +kernel
theorem dX6_twice_39 : decode cX6_twice 39 = .ok (.iload_n 2, 1) := by decide +kernel
theorem dX6_twice_40 : decode cX6_twice 40 = .ok (.ifCond .ne 13, 3) := by decide +kernel
theorem dX6_twice_43 : decode cX6_twice 43 = .ok (.aload_n 0, 1) := by decide +kernel
theorem dX6_twice_44 : decode cX6_twice 44 = .ok (.getfield 36, 3) := by decide +kernel
theorem dX6_twice_47 : decode cX6_twice 47 = .ok (.getfield 160, 3) := by decide +kernel
theorem dX6_twice_50 : decode cX6_twice 50 = .ok (.goto 10, 3) := by decide +kernel
theorem dX6_twice_53 : decode cX6_twice 53 = .ok (.aload_n 0, 1) := by decide +kernel
theorem dX6_twice_54 : decode cX6_twice 54 = .ok (.getfield 36, 3) := by decide +kernel
theorem dX6_twice_57 : decode cX6_twice 57 = .ok (.getfield 164, 3) := by decide +kernel
theorem dX6_twice_60 : decode cX6_twice 60 = .ok (.lreturn, 1) := by decide +kernel
set_option maxRecDepth 20000 in
theorem ggX6_party_X0_all : GoodIn wsX6_party wsX0_all := goodIn_r _ [7, 8, 64, 65, 66, 67, 68] (by decide +kernel) (by decide +kernel)
set_option maxRecDepth 20000 in
theorem gX6_party_X0_all : GoodIn wsX6_party (wsV RX6 86 RX0 yX0_all wsX0_all) := goodIn_app (goodIn_of _ (by decide +kernel)) ggX6_party_X0_all
set_option maxRecDepth 20000 in
theorem ggX6_party_X6_noPlayer : GoodIn wsX6_party wsX6_noPlayer := goodIn_r _ [13, 1, 54, 55, 56, 57, 58, 59, 60, 61, 62, 63, 64, 65, 66, 67, 68] (by decide +kernel) (by decide +kernel)
set_option maxRecDepth 20000 in
theorem gX6_party_X6_noPlayer : GoodIn wsX6_party (wsV RX6 108 RX6 yX6_noPlayer wsX6_noPlayer) := goodIn_app (goodIn_of _ (by decide +kernel)) ggX6_party_X6_noPlayer
set_option maxRecDepth 20000 in
theorem ggX6_party_X2_findAll : GoodIn wsX6_party wsX2_findAll := goodIn_r _ [18, 19, 20, 21, 22, 17, 23, 24, 25, 26, 27, 28, 29, 30, 31, 32, 33, 34, 35, 36, 37, 38, 39, 40, 12, 41, 42, 43, 44, 45, 46, 47, 48, 49, 69, 70, 71, 72, 64, 65, 66, 67, 68, 73] (by decide +kernel) (by decide +kernel)
set_option maxRecDepth 20000 in
theorem gX6_party_X2_findAll : GoodIn wsX6_party (wsV RX6 167 RX2 yX2_findAll wsX2_findAll) := goodIn_app (goodIn_of _ (by decide +kernel)) ggX6_party_X2_findAll
set_option maxRecDepth 20000 in
theorem ggX6_party_X2_fact : GoodIn wsX6_party wsX2_fact := goodIn_r _ [53, 19, 20, 29, 42, 37, 38, 33, 39, 35, 69, 70, 71, 72, 73] (by decide +kernel) (by decide +kernel)
set_option maxRecDepth 20000 in
theorem gX6_party_X2_fact : GoodIn wsX6_party (wsV RX6 171 RX2 yX2_fact wsX2_fact) := goodIn_app (goodIn_of _ (by decide +kernel)) ggX6_party_X2_fact
theorem dX6_party_0 : decode cX6_party 0 = .ok (.iload_n 1, 1) := by decide +kernel
theorem dX6_party_1 : decode cX6_party 1 = .ok (.ifCond .lt 14, 3) := by decide +kernel
theorem dX6_party_4 : decode cX6_party 4 = .ok (.iload_n 1, 1) := by decide +kernel
theorem dX6_party_5 : decode cX6_party 5 = .ok (.aload_n 0, 1) := by decide +kernel
theorem dX6_party_6 : decode cX6_party 6 = .ok (.getfield 19, 3) := by decide +kernel
theorem dX6_party_9 : decode cX6_party 9 = .ok (.invokevirtual 86, 3) := by decide +kernel
theorem dX6_party_12 : decode cX6_party 12 = .ok (.if_icmp .le 6, 3) := by decide +kernel
theorem dX6_party_15 : decode cX6_party 15 = .ok (.bipush (-102), 2) := by decide +kernel
theorem dX6_party_17 : decode cX6_party 17 = .ok (.ireturn, 1) := by decide +kernel
theorem dX6_party_18 : decode cX6_party 18 = .ok (.iload_n 2, 1) := by decide +kernel
theorem dX6_party_19 : decode cX6_party 19 = .ok (.ifCond .eq 18, 3) := by decide +kernel
theorem dX6_party_22 : decode cX6_party 22 = .ok (.iload_n 2, 1) := by decide +kernel
theorem dX6_party_23 : decode cX6_party 23 = .ok (.bipush 10, 2) := by decide +kernel
theorem dX6_party_25 : decode cX6_party 25 = .ok (.if_icmp .lt 9, 3) := by decide +kernel
theorem dX6_party_28 : decode cX6_party 28 = .ok (.iload_n 2, 1) := by decide +kernel
theorem dX6_party_29 : decode cX6_party 29 = .ok (.bipush 16, 2) := by decide +kernel
theorem dX6_party_31 : decode cX6_party 31 = .ok (.if_icmp .lt 6, 3) := by decide +kernel
theorem dX6_party_34 : decode cX6_party 34 = .ok (.bipush (-102), 2) := by decide +kernel
theorem dX6_party_36 : decode cX6_party 36 = .ok (.ireturn, 1) := by decide +kernel
theorem dX6_party_37 : decode cX6_party 37 = .ok (.aload_n 0, 1) := by decide +kernel
theorem dX6_party_38 : decode cX6_party 38 = .ok (.invokevirtual 108, 3) := by decide +kernel
theorem dX6_party_41 : decode cX6_party 41 = .ok (.ifCond .eq 6, 3) := by decide +kernel
theorem dX6_party_44 : decode cX6_party 44 = .ok (.bipush (-103), 2) := by decide +kernel
theorem dX6_party_46 : decode cX6_party 46 = .ok (.ireturn, 1) := by decide +kernel
theorem dX6_party_47 : decode cX6_party 47 = .ok (.aload_n 0, 1) := by decide +kernel
theorem dX6_party_48 : decode cX6_party 48 = .ok (.getfield 49, 3) := by decide +kernel
theorem dX6_party_51 : decode cX6_party 51 = .ok (.aload_n 0, 1) := by decide +kernel
theorem dX6_party_52 : decode cX6_party 52 = .ok (.getfield 19, 3) := by decide +kernel
theorem dX6_party_55 : decode cX6_party 55 = .ok (.iload_n 1, 1) := by decide +kernel
theorem dX6_party_56 : decode cX6_party 56 = .ok (.invokevirtual 167, 3) := by decide +kernel
theorem dX6_party_59 : decode cX6_party 59 = .ok (.aload_n 0, 1) := by decide +kernel
theorem dX6_party_60 : decode cX6_party 60 = .ok (.getfield 49, 3) := by decide +kernel
theorem dX6_party_63 : decode cX6_party 63 = .ok (.iload_n 2, 1) := by decide +kernel
theorem dX6_party_64 : decode cX6_party 64 = .ok (.invokevirtual 171, 3) := by decide +kernel
theorem dX6_party_67 : decode cX6_party 67 = .ok (.ireturn, 1) := by decide +kernel
set_option maxRecDepth 20000 in
theorem ggX6_hear_X0_has : GoodIn wsX6_hear wsX0_has := goodIn_r _ [7, 8, 33, 34, 35, 36, 37] (by decide +kernel) (by decide +kernel)
set_option maxRecDepth 20000 in
theorem gX6_hear_X0_has : GoodIn wsX6_hear (wsV RX6 96 RX0 yX0_has wsX0_has) := goodIn_app (goodIn_of _ (by decide +kernel)) ggX6_hear_X0_has
set_option maxRecDepth 20000 in
theorem ggX6_hear_X5_put : GoodIn wsX6_hear wsX5_put := goodIn_r _ [13, 14, 38] (by decide +kernel) (by decide +kernel)
set_option maxRecDepth 20000 in
theorem gX6_hear_X5_put : GoodIn wsX6_hear (wsV RX6 180 RX5 yX5_put wsX5_put) := goodIn_app (goodIn_of _ (by decide +kernel)) ggX6_hear_X5_put
theorem dX6_hear_0 : decode cX6_hear 0 = .ok (.aload_n 0, 1) := by decide +kernel
theorem dX6_hear_1 : decode cX6_hear 1 = .ok (.getfield 19, 3) := by decide +kernel
theorem dX6_hear_4 : decode cX6_hear 4 = .ok (.iload_n 1, 1) := by decide +kernel
theorem dX6_hear_5 : decode cX6_hear 5 = .ok (.invokevirtual 96, 3) := by decide +kernel
theorem dX6_hear_8 : decode cX6_hear 8 = .ok (.ifCond .ne 6, 3) := by decide +kernel
theorem dX6_hear_11 : decode cX6_hear 11 = .ok (.bipush (-101), 2) := by decide +kernel
theorem dX6_hear_13 : decode cX6_hear 13 = .ok (.ireturn, 1) := by decide +kernel
theorem dX6_hear_14 : decode cX6_hear 14 = .ok (.aload_n 0, 1) := by decide +kernel
theorem dX6_hear_15 : decode cX6_hear 15 = .ok (.getfield 26, 3) := by decide +kernel
theorem dX6_hear_18 : decode cX6_hear 18 = .ok (.getfield 174, 3) := by decide +kernel
theorem dX6_hear_21 : decode cX6_hear 21 = .ok (.bipush 8, 2) := by decide +kernel
theorem dX6_hear_23 : decode cX6_hear 23 = .ok (.if_icmp .lt 6, 3) := by decide +kernel
theorem dX6_hear_26 : decode cX6_hear 26 = .ok (.bipush (-104), 2) := by decide +kernel
theorem dX6_hear_28 : decode cX6_hear 28 = .ok (.ireturn, 1) := by decide +kernel
theorem dX6_hear_29 : decode cX6_hear 29 = .ok (.aload_n 0, 1) := by decide +kernel
theorem dX6_hear_30 : decode cX6_hear 30 = .ok (.getfield 26, 3) := by decide +kernel
theorem dX6_hear_33 : decode cX6_hear 33 = .ok (.getfield 177, 3) := by decide +kernel
theorem dX6_hear_36 : decode cX6_hear 36 = .ok (.aload_n 0, 1) := by decide +kernel
theorem dX6_hear_37 : decode cX6_hear 37 = .ok (.getfield 26, 3) := by decide +kernel
theorem dX6_hear_40 : decode cX6_hear 40 = .ok (.getfield 174, 3) := by decide +kernel
theorem dX6_hear_43 : decode cX6_hear 43 = .ok (.iload_n 1, 1) := by decide +kernel
theorem dX6_hear_44 : decode cX6_hear 44 = .ok (.invokevirtual 180, 3) := by decide +kernel
theorem dX6_hear_47 : decode cX6_hear 47 = .ok (.aload_n 0, 1) := by decide +kernel
theorem dX6_hear_48 : decode cX6_hear 48 = .ok (.getfield 26, 3) := by decide +kernel
theorem dX6_hear_51 : decode cX6_hear 51 = .ok (.dup, 1) := by decide +kernel
theorem dX6_hear_52 : decode cX6_hear 52 = .ok (.getfield 174, 3) := by decide +kernel
theorem dX6_hear_55 : decode cX6_hear 55 = .ok (.iconst 1, 1) := by decide +kernel
theorem dX6_hear_56 : decode cX6_hear 56 = .ok (.iadd, 1) := by decide +kernel
theorem dX6_hear_57 : decode cX6_hear 57 = .ok (.putfield 174, 3) := by decide +kernel
theorem dX6_hear_60 : decode cX6_hear 60 = .ok (.aload_n 0, 1) := by decide +kernel
theorem dX6_hear_61 : decode cX6_hear 61 = .ok (.getfield 26, 3) := by decide +kernel
theorem dX6_hear_64 : decode cX6_hear 64 = .ok (.getfield 174, 3) := by decide +kernel
theorem dX6_hear_67 : decode cX6_hear 67 = .ok (.ireturn, 1) := by decide +kernel
theorem dX6_forget_0 : decode cX6_forget 0 = .ok (.aload_n 0, 1) := by decide +kernel
theorem dX6_forget_1 : decode cX6_forget 1 = .ok (.getfield 26, 3) := by decide +kernel
theorem dX6_forget_4 : decode cX6_forget 4 = .ok (.getfield 174, 3) := by decide +kernel
theorem dX6_forget_7 : decode cX6_forget 7 = .ok (.istore_n 1, 1) := by decide +kernel
theorem dX6_forget_8 : decode cX6_forget 8 = .ok (.aload_n 0, 1) := by decide +kernel
theorem dX6_forget_9 : decode cX6_forget 9 = .ok (.getfield 26, 3) := by decide +kernel
theorem dX6_forget_12 : decode cX6_forget 12 = .ok (.iconst 0, 1) := by decide +kernel
theorem dX6_forget_13 : decode cX6_forget 13 = .ok (.putfield 174, 3) := by decide +kernel
theorem dX6_forget_16 : decode cX6_forget 16 = .ok (.iload_n 1, 1) := by decide +kernel
theorem dX6_forget_17 : decode cX6_forget 17 = .ok (.ireturn, 1) := by decide +kernel
set_option maxRecDepth 20000 in
theorem ggX6_rules_X6_noPlayer : GoodIn wsX6_rules wsX6_noPlayer := goodIn_r _ [5, 6, 68, 69, 70, 71, 72, 73, 74, 75, 76, 77, 78, 79, 80, 81, 82] (by decide +kernel) (by decide +kernel)
set_option maxRecDepth 20000 in
theorem gX6_rules_X6_noPlayer : GoodIn wsX6_rules (wsV RX6 108 RX6 yX6_noPlayer wsX6_noPlayer) := goodIn_app (goodIn_of _ (by decide +kernel)) ggX6_rules_X6_noPlayer
set_option maxRecDepth 20000 in
theorem ggX6_rules_X6_possibleRules : GoodIn wsX6_rules wsX6_possibleRules := goodIn_r _ [10, 11, 12, 13, 14, 4, 15, 6, 16, 17, 18, 19, 20, 21, 22, 23, 24, 25, 26, 27, 28, 29, 30, 31, 32, 33, 34, 35, 36, 37, 38, 39, 40, 41, 42, 43, 44, 45, 46, 47, 48, 49, 50, 51, 52, 53, 54, 55, 56, 57, 58, 59, 60, 61, 62, 63, 64, 65, 66, 67, 68, 69, 70, 71, 72, 73, 74, 75, 76, 77, 83, 84, 85, 86, 87, 88, 89, 90, 91, 92, 78, 79, 80, 81, 82, 93] (by decide +kernel) (by decide +kernel)
set_option maxRecDepth 20000 in
theorem gX6_rules_X6_possibleRules : GoodIn wsX6_rules (wsV RX6 183 RX6 yX6_possibleRules wsX6_possibleRules) := goodIn_app (goodIn_of _ (by decide +kernel)) ggX6_rules_X6_possibleRules
theorem dX6_rules_0 : decode cX6_rules 0 = .ok (.aload_n 0, 1) := by decide +kernel
theorem dX6_rules_1 : decode cX6_rules 1 = .ok (.invokevirtual 108, 3) := by decide +kernel
theorem dX6_rules_4 : decode cX6_rules 4 = .ok (.ifCond .eq 8, 3) := by decide +kernel
theorem dX6_rules_7 : decode cX6_rules 7 = .ok (.bipush (-103), 2) := by decide +kernel
theorem dX6_rules_9 : decode cX6_rules 9 = .ok (.goto 7, 3) := by decide +kernel
theorem dX6_rules_12 : decode cX6_rules 12 = .ok (.aload_n 0, 1) := by decide +kernel
theorem dX6_rules_13 : decode cX6_rules 13 = .ok (.invokevirtual 183, 3) := by decide +kernel
theorem dX6_rules_16 : decode cX6_rules 16 = .ok (.ireturn, 1) := by decide +kernel
set_option maxRecDepth 20000 in
theorem ggX6_likely_X6_noPlayer : GoodIn wsX6_likely wsX6_noPlayer := goodIn_r _ [5, 6, 73, 74, 75, 76, 77, 78, 79, 80, 81, 82, 83, 84, 85, 86, 87] (by decide +kernel) (by decide +kernel)
set_option maxRecDepth 20000 in
theorem gX6_likely_X6_noPlayer : GoodIn wsX6_likely (wsV RX6 108 RX6 yX6_noPlayer wsX6_noPlayer) := goodIn_app (goodIn_of _ (by decide +kernel)) ggX6_likely_X6_noPlayer
set_option maxRecDepth 20000 in
theorem ggX6_likely_X6_likeliestRule : GoodIn wsX6_likely wsX6_likeliestRule := goodIn_r _ [10, 11, 12, 13, 14, 15, 16, 17, 18, 19, 20, 21, 22, 23, 24, 25, 4, 26, 6, 27, 28, 29, 30, 31, 32, 33, 34, 35, 36, 37, 38, 39, 40, 41, 42, 43, 44, 45, 46, 47, 48, 49, 50, 51, 52, 53, 54, 55, 56, 57, 58, 59, 60, 61, 62, 63, 64, 65, 66, 67, 68, 69, 70, 71, 72, 73, 74, 75, 76, 77, 78, 79, 80, 81, 82, 88, 89, 90, 91, 92, 93, 94, 95, 96, 97, 83, 84, 85, 86, 87, 98] (by decide +kernel) (by decide +kernel)
set_option maxRecDepth 20000 in
theorem gX6_likely_X6_likeliestRule : GoodIn wsX6_likely (wsV RX6 186 RX6 yX6_likeliestRule wsX6_likeliestRule) := goodIn_app (goodIn_of _ (by decide +kernel)) ggX6_likely_X6_likeliestRule
theorem dX6_likely_0 : decode cX6_likely 0 = .ok (.aload_n 0, 1) := by decide +kernel
theorem dX6_likely_1 : decode cX6_likely 1 = .ok (.invokevirtual 108, 3) := by decide +kernel
theorem dX6_likely_4 : decode cX6_likely 4 = .ok (.ifCond .eq 8, 3) := by decide +kernel
theorem dX6_likely_7 : decode cX6_likely 7 = .ok (.bipush (-103), 2) := by decide +kernel
theorem dX6_likely_9 : decode cX6_likely 9 = .ok (.goto 7, 3) := by decide +kernel
theorem dX6_likely_12 : decode cX6_likely 12 = .ok (.aload_n 0, 1) := by decide +kernel
theorem dX6_likely_13 : decode cX6_likely 13 = .ok (.invokevirtual 186, 3) := by decide +kernel
theorem dX6_likely_16 : decode cX6_likely 16 = .ok (.ireturn, 1) := by decide +kernel
set_option maxRecDepth 20000 in
theorem ggX6_evenings_X6_noPlayer : GoodIn wsX6_evenings wsX6_noPlayer := goodIn_r _ [5, 6, 79, 80, 81, 82, 83, 84, 85, 86, 87, 88, 89, 90, 91, 92, 93] (by decide +kernel) (by decide +kernel)
set_option maxRecDepth 20000 in
theorem gX6_evenings_X6_noPlayer : GoodIn wsX6_evenings (wsV RX6 108 RX6 yX6_noPlayer wsX6_noPlayer) := goodIn_app (goodIn_of _ (by decide +kernel)) ggX6_evenings_X6_noPlayer
set_option maxRecDepth 20000 in
theorem ggX6_evenings_X6_eveningFact : GoodIn wsX6_evenings wsX6_eveningFact := goodIn_r _ [10, 11, 6, 12, 13, 4, 14, 15, 16, 17, 18, 19, 20, 21, 22, 23, 24, 25, 26, 27, 28, 29, 30, 31, 32, 33, 34, 35, 36, 37, 38, 39, 40, 41, 42, 43, 44, 45, 46, 47, 48, 49, 50, 51, 52, 53, 54, 55, 56, 57, 58, 59, 60, 61, 62, 63, 64, 65, 66, 67, 68, 69, 70, 71, 72, 73, 74, 75, 76, 77, 78, 79, 80, 81, 82, 83, 84, 85, 86, 87, 88, 94, 95, 96, 97, 98, 99, 100, 101, 89, 90, 91, 92, 93, 102] (by decide +kernel) (by decide +kernel)
set_option maxRecDepth 20000 in
theorem gX6_evenings_X6_eveningFact : GoodIn wsX6_evenings (wsV RX6 189 RX6 yX6_eveningFact wsX6_eveningFact) := goodIn_app (goodIn_of _ (by decide +kernel)) ggX6_evenings_X6_eveningFact
theorem dX6_evenings_0 : decode cX6_evenings 0 = .ok (.iload_n 1, 1) := by decide +kernel
theorem dX6_evenings_1 : decode cX6_evenings 1 = .ok (.iconst 1, 1) := by decide +kernel
theorem dX6_evenings_2 : decode cX6_evenings 2 = .ok (.if_icmp .lt 22, 3) := by decide +kernel
theorem dX6_evenings_5 : decode cX6_evenings 5 = .ok (.iload_n 1, 1) := by decide +kernel
theorem dX6_evenings_6 : decode cX6_evenings 6 = .ok (.bipush 60, 2) := by decide +kernel
theorem dX6_evenings_8 : decode cX6_evenings 8 = .ok (.if_icmp .gt 16, 3) := by decide +kernel
theorem dX6_evenings_11 : decode cX6_evenings 11 = .ok (.iload_n 2, 1) := by decide +kernel
theorem dX6_evenings_12 : decode cX6_evenings 12 = .ok (.ifCond .lt 12, 3) := by decide +kernel
theorem dX6_evenings_15 : decode cX6_evenings 15 = .ok (.iload_n 3, 1) := by decide +kernel
theorem dX6_evenings_16 : decode cX6_evenings 16 = .ok (.ifCond .lt 8, 3) := by decide +kernel
theorem dX6_evenings_19 : decode cX6_evenings 19 = .ok (.iload_n 3, 1) := by decide +kernel
theorem dX6_evenings_20 : decode cX6_evenings 20 = .ok (.iconst 2, 1) := by decide +kernel
theorem dX6_evenings_21 : decode cX6_evenings 21 = .ok (.if_icmp .le 6, 3) := by decide +kernel
theorem dX6_evenings_24 : decode cX6_evenings 24 = .ok (.bipush (-102), 2) := by decide +kernel
theorem dX6_evenings_26 : decode cX6_evenings 26 = .ok (.ireturn, 1) := by decide +kernel
theorem dX6_evenings_27 : decode cX6_evenings 27 = .ok (.aload_n 0, 1) := by decide +kernel
theorem dX6_evenings_28 : decode cX6_evenings 28 = .ok (.invokevirtual 108, 3) := by decide +kernel
theorem dX6_evenings_31 : decode cX6_evenings 31 = .ok (.ifCond .eq 6, 3) := by decide +kernel
theorem dX6_evenings_34 : decode cX6_evenings 34 = .ok (.bipush (-103), 2) := by decide +kernel
theorem dX6_evenings_36 : decode cX6_evenings 36 = .ok (.ireturn, 1) := by decide +kernel
theorem dX6_evenings_37 : decode cX6_evenings 37 = .ok (.aload_n 0, 1) := by decide +kernel
theorem dX6_evenings_38 : decode cX6_evenings 38 = .ok (.iload_n 1, 1) := by decide +kernel
theorem dX6_evenings_39 : decode cX6_evenings 39 = .ok (.iload_n 2, 1) := by decide +kernel
theorem dX6_evenings_40 : decode cX6_evenings 40 = .ok (.iload_n 3, 1) := by decide +kernel
theorem dX6_evenings_41 : decode cX6_evenings 41 = .ok (.invokevirtual 189, 3) := by decide +kernel
theorem dX6_evenings_44 : decode cX6_evenings 44 = .ok (.ireturn, 1) := by decide +kernel
set_option maxRecDepth 20000 in
theorem ggX6_image_X6_noPlayer : GoodIn wsX6_image wsX6_noPlayer := goodIn_r _ [8, 9, 37, 38, 39, 40, 41, 42, 43, 44, 45, 46, 55, 56, 57, 58, 59] (by decide +kernel) (by decide +kernel)
set_option maxRecDepth 20000 in
theorem gX6_image_X6_noPlayer : GoodIn wsX6_image (wsV RX6 108 RX6 yX6_noPlayer wsX6_noPlayer) := goodIn_app (goodIn_of _ (by decide +kernel)) ggX6_image_X6_noPlayer
set_option maxRecDepth 20000 in
theorem ggX6_image_X4_become : GoodIn wsX6_image wsX4_become := goodIn_r _ [14, 15, 16, 17, 18, 19, 20, 21, 22, 23, 24, 25, 26, 27, 28, 29, 30, 31, 32, 47, 48, 49, 50, 51, 52, 53, 54, 60] (by decide +kernel) (by decide +kernel)
set_option maxRecDepth 20000 in
theorem gX6_image_X4_become : GoodIn wsX6_image (wsV RX6 193 RX4 yX4_become wsX4_become) := goodIn_app (goodIn_of _ (by decide +kernel)) ggX6_image_X4_become
set_option maxRecDepth 20000 in
theorem ggX6_image_X5_sum : GoodIn wsX6_image wsX5_sum := goodIn_r _ [36, 28, 60] (by decide +kernel) (by decide +kernel)
set_option maxRecDepth 20000 in
theorem gX6_image_X5_sum : GoodIn wsX6_image (wsV RX6 197 RX5 yX5_sum wsX5_sum) := goodIn_app (goodIn_of _ (by decide +kernel)) ggX6_image_X5_sum
theorem dX6_image_0 : decode cX6_image 0 = .ok (.aload_n 0, 1) := by decide +kernel
theorem dX6_image_1 : decode cX6_image 1 = .ok (.invokevirtual 108, 3) := by decide +kernel
theorem dX6_image_4 : decode cX6_image 4 = .ok (.ifCond .eq 6, 3) := by decide +kernel
theorem dX6_image_7 : decode cX6_image 7 = .ok (.bipush (-103), 2) := by decide +kernel
theorem dX6_image_9 : decode cX6_image 9 = .ok (.ireturn, 1) := by decide +kernel
theorem dX6_image_10 : decode cX6_image 10 = .ok (.aload_n 0, 1) := by decide +kernel
theorem dX6_image_11 : decode cX6_image 11 = .ok (.getfield 30, 3) := by decide +kernel
theorem dX6_image_14 : decode cX6_image 14 = .ok (.aload_n 0, 1) := by decide +kernel
theorem dX6_image_15 : decode cX6_image 15 = .ok (.getfield 26, 3) := by decide +kernel
theorem dX6_image_18 : decode cX6_image 18 = .ok (.invokevirtual 193, 3) := by decide +kernel
theorem dX6_image_21 : decode cX6_image 21 = .ok (.aload_n 0, 1) := by decide +kernel
theorem dX6_image_22 : decode cX6_image 22 = .ok (.iconst 1, 1) := by decide +kernel
theorem dX6_image_23 : decode cX6_image 23 = .ok (.putfield 53, 3) := by decide +kernel
theorem dX6_image_26 : decode cX6_image 26 = .ok (.aload_n 0, 1) := by decide +kernel
theorem dX6_image_27 : decode cX6_image 27 = .ok (.getfield 26, 3) := by decide +kernel
theorem dX6_image_30 : decode cX6_image 30 = .ok (.getfield 132, 3) := by decide +kernel
theorem dX6_image_33 : decode cX6_image 33 = .ok (.invokevirtual 197, 3) := by decide +kernel
theorem dX6_image_36 : decode cX6_image 36 = .ok (.ireturn, 1) := by decide +kernel
set_option maxRecDepth 20000 in
theorem ggX6_restore_X4_become : GoodIn wsX6_restore wsX4_become := goodIn_r _ [8, 9, 10, 11, 12, 13, 14, 15, 16, 17, 18, 19, 20, 21, 22, 23, 24, 25, 26, 41, 42, 43, 44, 45, 46, 47, 48, 49] (by decide +kernel) (by decide +kernel)
set_option maxRecDepth 20000 in
theorem gX6_restore_X4_become : GoodIn wsX6_restore (wsV RX6 193 RX4 yX4_become wsX4_become) := goodIn_app (goodIn_of _ (by decide +kernel)) ggX6_restore_X4_become
set_option maxRecDepth 20000 in
theorem ggX6_restore_X5_sum : GoodIn wsX6_restore wsX5_sum := goodIn_r _ [30, 22, 49] (by decide +kernel) (by decide +kernel)
set_option maxRecDepth 20000 in
theorem gX6_restore_X5_sum : GoodIn wsX6_restore (wsV RX6 197 RX5 yX5_sum wsX5_sum) := goodIn_app (goodIn_of _ (by decide +kernel)) ggX6_restore_X5_sum
theorem dX6_restore_0 : decode cX6_restore 0 = .ok (.aload_n 0, 1) := by decide +kernel
theorem dX6_restore_1 : decode cX6_restore 1 = .ok (.getfield 53, 3) := by decide +kernel
theorem dX6_restore_4 : decode cX6_restore 4 = .ok (.ifCond .ne 6, 3) := by decide +kernel
theorem dX6_restore_7 : decode cX6_restore 7 = .ok (.bipush (-103), 2) := by decide +kernel
theorem dX6_restore_9 : decode cX6_restore 9 = .ok (.ireturn, 1) := by decide +kernel
theorem dX6_restore_10 : decode cX6_restore 10 = .ok (.aload_n 0, 1) := by decide +kernel
theorem dX6_restore_11 : decode cX6_restore 11 = .ok (.getfield 26, 3) := by decide +kernel
theorem dX6_restore_14 : decode cX6_restore 14 = .ok (.aload_n 0, 1) := by decide +kernel
theorem dX6_restore_15 : decode cX6_restore 15 = .ok (.getfield 30, 3) := by decide +kernel
theorem dX6_restore_18 : decode cX6_restore 18 = .ok (.invokevirtual 193, 3) := by decide +kernel
theorem dX6_restore_21 : decode cX6_restore 21 = .ok (.aload_n 0, 1) := by decide +kernel
theorem dX6_restore_22 : decode cX6_restore 22 = .ok (.getfield 26, 3) := by decide +kernel
theorem dX6_restore_25 : decode cX6_restore 25 = .ok (.getfield 132, 3) := by decide +kernel
theorem dX6_restore_28 : decode cX6_restore 28 = .ok (.invokevirtual 197, 3) := by decide +kernel
theorem dX6_restore_31 : decode cX6_restore 31 = .ok (.ireturn, 1) := by decide +kernel
set_option maxRecDepth 20000 in
theorem ggX6_count_X5_sum : GoodIn wsX6_count wsX5_sum := goodIn_r _ [9, 10, 77] (by decide +kernel) (by decide +kernel)
set_option maxRecDepth 20000 in
theorem gX6_count_X5_sum : GoodIn wsX6_count (wsV RX6 197 RX5 yX5_sum wsX5_sum) := goodIn_app (goodIn_of _ (by decide +kernel)) ggX6_count_X5_sum
set_option maxRecDepth 20000 in
theorem ggX6_count_X6_minutesPlayed : GoodIn wsX6_count wsX6_minutesPlayed := goodIn_r _ [15, 1, 2, 16, 17, 18, 8, 19, 10, 52, 53, 54, 55, 56, 57, 58, 59, 60, 61, 62, 63, 64, 65, 66, 67, 68, 69, 70, 71, 72, 73, 74, 77] (by decide +kernel) (by decide +kernel)
set_option maxRecDepth 20000 in
theorem gX6_count_X6_minutesPlayed : GoodIn wsX6_count (wsV RX6 199 RX6 yX6_minutesPlayed wsX6_minutesPlayed) := goodIn_app (goodIn_of _ (by decide +kernel)) ggX6_count_X6_minutesPlayed
set_option maxRecDepth 20000 in
theorem ggX6_count_X5_aboveNothing : GoodIn wsX6_count wsX5_aboveNothing := goodIn_r _ [23, 10, 77] (by decide +kernel) (by decide +kernel)
set_option maxRecDepth 20000 in
theorem gX6_count_X5_aboveNothing : GoodIn wsX6_count (wsV RX6 202 RX5 yX5_aboveNothing wsX5_aboveNothing) := goodIn_app (goodIn_of _ (by decide +kernel)) ggX6_count_X5_aboveNothing
set_option maxRecDepth 20000 in
theorem ggX6_count_J6_bitCount_0f7a4 : GoodIn wsX6_count wsJ6_bitCount_0f7a4 := goodIn_r _ [27, 28, 29, 30] (by decide +kernel) (by decide +kernel)
set_option maxRecDepth 20000 in
theorem gX6_count_J6_bitCount_0f7a4 : GoodIn wsX6_count (va_wsS RX6 141 yJ6_bitCount_0f7a4 wsJ6_bitCount_0f7a4) := goodIn_app (goodIn_of _ (by decide +kernel)) ggX6_count_J6_bitCount_0f7a4
set_option maxRecDepth 20000 in
theorem ggX6_count_X6_mayNow : GoodIn wsX6_count wsX6_mayNow := goodIn_r _ [34, 1, 2, 35, 36, 37, 38, 39, 40, 41, 42, 43, 44, 45, 46, 47, 48, 49, 50, 51, 17, 18, 8, 19, 10, 52, 53, 54, 55, 56, 57, 58, 59, 60, 61, 67, 68, 69, 70, 71, 72, 73, 74, 62, 63, 64, 65, 66, 77] (by decide +kernel) (by decide +kernel)
set_option maxRecDepth 20000 in
theorem gX6_count_X6_mayNow : GoodIn wsX6_count (wsV RX6 114 RX6 yX6_mayNow wsX6_mayNow) := goodIn_app (goodIn_of _ (by decide +kernel)) ggX6_count_X6_mayNow
theorem dX6_count_0 : decode cX6_count 0 = .ok (.iload_n 1, 1) := by decide +kernel
theorem dX6_count_1 : decode cX6_count 1 = .ok (.tableswitch 165 0 11 #[63, 71, 79, 90, 101, 106, 117, 128, 136, 144, 152, 160], 63) := by decide +kernel
theorem dX6_count_64 : decode cX6_count 64 = .ok (.aload_n 0, 1) := by decide +kernel
theorem dX6_count_65 : decode cX6_count 65 = .ok (.getfield 19, 3) := by decide +kernel
theorem dX6_count_68 : decode cX6_count 68 = .ok (.getfield 93, 3) := by decide +kernel
theorem dX6_count_71 : decode cX6_count 71 = .ok (.ireturn, 1) := by decide +kernel
theorem dX6_count_72 : decode cX6_count 72 = .ok (.aload_n 0, 1) := by decide +kernel
theorem dX6_count_73 : decode cX6_count 73 = .ok (.getfield 26, 3) := by decide +kernel
theorem dX6_count_76 : decode cX6_count 76 = .ok (.getfield 111, 3) := by decide +kernel
theorem dX6_count_79 : decode cX6_count 79 = .ok (.ireturn, 1) := by decide +kernel
theorem dX6_count_80 : decode cX6_count 80 = .ok (.aload_n 0, 1) := by decide +kernel
theorem dX6_count_81 : decode cX6_count 81 = .ok (.getfield 26, 3) := by decide +kernel
theorem dX6_count_84 : decode cX6_count 84 = .ok (.getfield 132, 3) := by decide +kernel
theorem dX6_count_87 : decode cX6_count 87 = .ok (.invokevirtual 197, 3) := by decide +kernel
theorem dX6_count_90 : decode cX6_count 90 = .ok (.ireturn, 1) := by decide +kernel
theorem dX6_count_91 : decode cX6_count 91 = .ok (.aload_n 0, 1) := by decide +kernel
theorem dX6_count_92 : decode cX6_count 92 = .ok (.getfield 26, 3) := by decide +kernel
theorem dX6_count_95 : decode cX6_count 95 = .ok (.getfield 147, 3) := by decide +kernel
theorem dX6_count_98 : decode cX6_count 98 = .ok (.invokevirtual 197, 3) := by decide +kernel
theorem dX6_count_101 : decode cX6_count 101 = .ok (.ireturn, 1) := by decide +kernel
theorem dX6_count_102 : decode cX6_count 102 = .ok (.aload_n 0, 1) := by decide +kernel
theorem dX6_count_103 : decode cX6_count 103 = .ok (.invokevirtual 199, 3) := by decide +kernel
theorem dX6_count_106 : decode cX6_count 106 = .ok (.ireturn, 1) := by decide +kernel
theorem dX6_count_107 : decode cX6_count 107 = .ok (.aload_n 0, 1) := by decide +kernel
theorem dX6_count_108 : decode cX6_count 108 = .ok (.getfield 26, 3) := by decide +kernel
theorem dX6_count_111 : decode cX6_count 111 = .ok (.getfield 132, 3) := by decide +kernel
theorem dX6_count_114 : decode cX6_count 114 = .ok (.invokevirtual 202, 3) := by decide +kernel
theorem dX6_count_117 : decode cX6_count 117 = .ok (.ireturn, 1) := by decide +kernel
theorem dX6_count_118 : decode cX6_count 118 = .ok (.aload_n 0, 1) := by decide +kernel
theorem dX6_count_119 : decode cX6_count 119 = .ok (.getfield 26, 3) := by decide +kernel
theorem dX6_count_122 : decode cX6_count 122 = .ok (.getfield 120, 3) := by decide +kernel
theorem dX6_count_125 : decode cX6_count 125 = .ok (.invokestatic 141, 3) := by decide +kernel
theorem dX6_count_128 : decode cX6_count 128 = .ok (.ireturn, 1) := by decide +kernel
theorem dX6_count_129 : decode cX6_count 129 = .ok (.aload_n 0, 1) := by decide +kernel
theorem dX6_count_130 : decode cX6_count 130 = .ok (.invokevirtual 114, 3) := by decide +kernel
theorem dX6_count_133 : decode cX6_count 133 = .ok (.invokestatic 141, 3) := by decide +kernel
theorem dX6_count_136 : decode cX6_count 136 = .ok (.ireturn, 1) := by decide +kernel
theorem dX6_count_137 : decode cX6_count 137 = .ok (.aload_n 0, 1) := by decide +kernel
theorem dX6_count_138 : decode cX6_count 138 = .ok (.getfield 26, 3) := by decide +kernel
theorem dX6_count_141 : decode cX6_count 141 = .ok (.getfield 126, 3) := by decide +kernel
theorem dX6_count_144 : decode cX6_count 144 = .ok (.ireturn, 1) := by decide +kernel
theorem dX6_count_145 : decode cX6_count 145 = .ok (.aload_n 0, 1) := by decide +kernel
theorem dX6_count_146 : decode cX6_count 146 = .ok (.getfield 26, 3) := by decide +kernel
theorem dX6_count_149 : decode cX6_count 149 = .ok (.getfield 174, 3) := by decide +kernel
theorem dX6_count_152 : decode cX6_count 152 = .ok (.ireturn, 1) := by decide +kernel
theorem dX6_count_153 : decode cX6_count 153 = .ok (.aload_n 0, 1) := by decide +kernel
theorem dX6_count_154 : decode cX6_count 154 = .ok (.getfield 10, 3) := by decide +kernel
theorem dX6_count_157 : decode cX6_count 157 = .ok (.getfield 61, 3) := by decide +kernel
theorem dX6_count_160 : decode cX6_count 160 = .ok (.ireturn, 1) := by decide +kernel
theorem dX6_count_161 : decode cX6_count 161 = .ok (.aload_n 0, 1) := by decide +kernel
theorem dX6_count_162 : decode cX6_count 162 = .ok (.getfield 57, 3) := by decide +kernel
theorem dX6_count_165 : decode cX6_count 165 = .ok (.ireturn, 1) := by decide +kernel
theorem dX6_count_166 : decode cX6_count 166 = .ok (.bipush (-102), 2) := by decide +kernel
theorem dX6_count_168 : decode cX6_count 168 = .ok (.ireturn, 1) := by decide +kernel
set_option maxRecDepth 20000 in
theorem ggX6_digest_X6_songFact : GoodIn wsX6_digest wsX6_songFact := goodIn_r _ [9, 2, 10, 11, 12, 13, 14, 15, 16, 17, 18, 19, 8, 20, 21, 22, 23, 24, 25, 26, 27, 28, 29, 30, 31, 32, 33, 34, 35, 36, 37, 38, 39, 40, 41, 42, 43, 44, 45, 46, 47, 48, 49, 50, 51, 52, 53, 54, 55, 56, 57, 58, 59, 60, 61, 62, 63, 64, 65, 66, 67, 68, 69, 70, 71, 72, 73, 74, 75, 76, 77, 78, 79, 80, 81, 185, 186, 187, 188, 189, 190, 191, 192, 193, 194, 195, 196, 197, 198, 199, 202, 203, 204, 205, 206, 207, 208, 209, 210, 211, 212] (by decide +kernel) (by decide +kernel)
set_option maxRecDepth 20000 in
theorem gX6_digest_X6_songFact : GoodIn wsX6_digest (wsV RX6 100 RX6 yX6_songFact wsX6_songFact) := goodIn_app (goodIn_of _ (by decide +kernel)) ggX6_digest_X6_songFact
set_option maxRecDepth 20000 in
theorem ggX6_digest_X6_noPlayer : GoodIn wsX6_digest wsX6_noPlayer := goodIn_r _ [85, 2, 185, 186, 187, 188, 189, 190, 191, 192, 193, 194, 195, 196, 197, 198, 199] (by decide +kernel) (by decide +kernel)
set_option maxRecDepth 20000 in
theorem gX6_digest_X6_noPlayer : GoodIn wsX6_digest (wsV RX6 108 RX6 yX6_noPlayer wsX6_noPlayer) := goodIn_app (goodIn_of _ (by decide +kernel)) ggX6_digest_X6_noPlayer
set_option maxRecDepth 20000 in
theorem ggX6_digest_X6_digestOfPlayer : GoodIn wsX6_digest wsX6_digestOfPlayer := goodIn_r _ [89, 3, 90, 91, 2, 92, 93, 94, 8, 95, 10, 72, 73, 74, 75, 76, 77, 78, 79, 80, 81, 96, 97, 98, 32, 33, 34, 35, 36, 37, 38, 39, 40, 41, 42, 43, 44, 45, 46, 47, 48, 12, 13, 14, 15, 16, 54, 55, 56, 57, 25, 26, 27, 17, 18, 19, 20, 21, 22, 23, 24, 11, 62, 63, 64, 65, 66, 67, 68, 69, 70, 71, 58, 59, 60, 61, 99, 100, 101, 102, 103, 104, 105, 106, 107, 108, 109, 110, 111, 112, 113, 114, 115, 116, 117, 118, 119, 120, 121, 122, 123, 124, 125, 126, 127, 128, 129, 130, 131, 132, 133, 134, 135, 136, 137, 138, 139, 140, 141, 142, 143, 144, 145, 53, 146, 147, 148, 149, 150, 151, 152, 153, 154, 155, 156, 157, 158, 159, 160, 161, 162, 163, 164, 165, 166, 167, 185, 186, 187, 188, 189, 190, 191, 192, 193, 194, 210, 211, 202, 203, 204, 205, 206, 207, 208, 209, 195, 196, 197, 198, 199, 212, 213, 214, 215, 216] (by decide +kernel) (by decide +kernel)
set_option maxRecDepth 20000 in
theorem gX6_digest_X6_digestOfPlayer : GoodIn wsX6_digest (wsV RX6 209 RX6 yX6_digestOfPlayer wsX6_digestOfPlayer) := goodIn_app (goodIn_of _ (by decide +kernel)) ggX6_digest_X6_digestOfPlayer
set_option maxRecDepth 20000 in
theorem ggX6_digest_X5_at : GoodIn wsX6_digest wsX5_at := goodIn_r _ [15, 16, 212] (by decide +kernel) (by decide +kernel)
set_option maxRecDepth 20000 in
theorem gX6_digest_X5_at : GoodIn wsX6_digest (wsV RX6 216 RX5 yX5_at wsX5_at) := goodIn_app (goodIn_of _ (by decide +kernel)) ggX6_digest_X5_at
set_option maxRecDepth 20000 in
theorem ggX6_digest_X6_count : GoodIn wsX6_digest wsX6_count := goodIn_r _ [171, 2, 10, 4, 172, 173, 174, 175, 14, 176, 16, 177, 178, 179, 8, 180, 11, 12, 13, 15, 181, 182, 183, 184, 65, 66, 67, 68, 69, 70, 71, 28, 29, 30, 31, 32, 33, 34, 35, 36, 37, 38, 39, 40, 41, 42, 43, 44, 45, 46, 47, 48, 185, 186, 187, 188, 189, 190, 191, 192, 193, 194, 195, 196, 197, 198, 199, 202, 203, 204, 205, 206, 207, 208, 209, 200, 201, 212] (by decide +kernel) (by decide +kernel)
set_option maxRecDepth 20000 in
theorem gX6_digest_X6_count : GoodIn wsX6_digest (wsV RX6 219 RX6 yX6_count wsX6_count) := goodIn_app (goodIn_of _ (by decide +kernel)) ggX6_digest_X6_count
theorem dX6_digest_0 : decode cX6_digest 0 = .ok (.ldc2_w 205, 3) := by decide +kernel
theorem dX6_digest_3 : decode cX6_digest 3 = .ok (.lstore_n 1, 1) := by decide +kernel
theorem dX6_digest_4 : decode cX6_digest 4 = .ok (.iconst 0, 1) := by decide +kernel
theorem dX6_digest_5 : decode cX6_digest 5 = .ok (.istore_n 3, 1) := by decide +kernel
theorem dX6_digest_6 : decode cX6_digest 6 = .ok (.iload_n 3, 1) := by decide +kernel
theorem dX6_digest_7 : decode cX6_digest 7 = .ok (.aload_n 0, 1) := by decide +kernel
theorem dX6_digest_8 : decode cX6_digest 8 = .ok (.getfield 19, 3) := by decide +kernel
theorem dX6_digest_11 : decode cX6_digest 11 = .ok (.getfield 93, 3) := by decide +kernel
theorem dX6_digest_14 : decode cX6_digest 14 = .ok (.if_icmp .ge 40, 3) := by decide +kernel
theorem dX6_digest_17 : decode cX6_digest 17 = .ok (.iconst 0, 1) := by decide +kernel
theorem dX6_digest_18 : decode cX6_digest 18 = .ok (.istore 4, 2) := by decide +kernel
theorem dX6_digest_20 : decode cX6_digest 20 = .ok (.iload 4, 2) := by decide +kernel
theorem dX6_digest_22 : decode cX6_digest 22 = .ok (.bipush 10, 2) := by decide +kernel
theorem dX6_digest_24 : decode cX6_digest 24 = .ok (.if_icmp .ge 24, 3) := by decide +kernel
theorem dX6_digest_27 : decode cX6_digest 27 = .ok (.ldc2_w 207, 3) := by decide +kernel
theorem dX6_digest_30 : decode cX6_digest 30 = .ok (.lload_n 1, 1) := by decide +kernel
theorem dX6_digest_31 : decode cX6_digest 31 = .ok (.lmul, 1) := by decide +kernel
theorem dX6_digest_32 : decode cX6_digest 32 = .ok (.aload_n 0, 1) := by decide +kernel
theorem dX6_digest_33 : decode cX6_digest 33 = .ok (.iload_n 3, 1) := by decide +kernel
theorem dX6_digest_34 : decode cX6_digest 34 = .ok (.iload 4, 2) := by decide +kernel
theorem dX6_digest_36 : decode cX6_digest 36 = .ok (.invokevirtual 100, 3) := by decide +kernel
theorem dX6_digest_39 : decode cX6_digest 39 = .ok (.i2l, 1) := by decide +kernel
theorem dX6_digest_40 : decode cX6_digest 40 = .ok (.ladd, 1) := by decide +kernel
theorem dX6_digest_41 : decode cX6_digest 41 = .ok (.lstore_n 1, 1) := by decide +kernel
theorem dX6_digest_42 : decode cX6_digest 42 = .ok (.iinc 4 1, 3) := by decide +kernel
theorem dX6_digest_45 : decode cX6_digest 45 = .ok (.goto (-25), 3) := by decide +kernel
theorem dX6_digest_48 : decode cX6_digest 48 = .ok (.iinc 3 1, 3) := by decide +kernel
theorem dX6_digest_51 : decode cX6_digest 51 = .ok (.goto (-45), 3) := by decide +kernel
theorem dX6_digest_54 : decode cX6_digest 54 = .ok (.aload_n 0, 1) := by decide +kernel
theorem dX6_digest_55 : decode cX6_digest 55 = .ok (.invokevirtual 108, 3) := by decide +kernel
theorem dX6_digest_58 : decode cX6_digest 58 = .ok (.ifCond .ne 9, 3) := by decide +kernel
theorem dX6_digest_61 : decode cX6_digest 61 = .ok (.aload_n 0, 1) := by decide +kernel
theorem dX6_digest_62 : decode cX6_digest 62 = .ok (.lload_n 1, 1) := by decide +kernel
theorem dX6_digest_63 : decode cX6_digest 63 = .ok (.invokevirtual 209, 3) := by decide +kernel
theorem dX6_digest_66 : decode cX6_digest 66 = .ok (.lstore_n 1, 1) := by decide +kernel
theorem dX6_digest_67 : decode cX6_digest 67 = .ok (.iconst 0, 1) := by decide +kernel
theorem dX6_digest_68 : decode cX6_digest 68 = .ok (.istore_n 3, 1) := by decide +kernel
theorem dX6_digest_69 : decode cX6_digest 69 = .ok (.iload_n 3, 1) := by decide +kernel
theorem dX6_digest_70 : decode cX6_digest 70 = .ok (.aload_n 0, 1) := by decide +kernel
theorem dX6_digest_71 : decode cX6_digest 71 = .ok (.getfield 10, 3) := by decide +kernel
theorem dX6_digest_74 : decode cX6_digest 74 = .ok (.getfield 61, 3) := by decide +kernel
theorem dX6_digest_77 : decode cX6_digest 77 = .ok (.if_icmp .ge 28, 3) := by decide +kernel
theorem dX6_digest_80 : decode cX6_digest 80 = .ok (.ldc2_w 207, 3) := by decide +kernel
theorem dX6_digest_83 : decode cX6_digest 83 = .ok (.lload_n 1, 1) := by decide +kernel
theorem dX6_digest_84 : decode cX6_digest 84 = .ok (.lmul, 1) := by decide +kernel
theorem dX6_digest_85 : decode cX6_digest 85 = .ok (.aload_n 0, 1) := by decide +kernel
theorem dX6_digest_86 : decode cX6_digest 86 = .ok (.getfield 10, 3) := by decide +kernel
theorem dX6_digest_89 : decode cX6_digest 89 = .ok (.getfield 213, 3) := by decide +kernel
theorem dX6_digest_92 : decode cX6_digest 92 = .ok (.iload_n 3, 1) := by decide +kernel
theorem dX6_digest_93 : decode cX6_digest 93 = .ok (.invokevirtual 216, 3) := by decide +kernel
theorem dX6_digest_96 : decode cX6_digest 96 = .ok (.i2l, 1) := by decide +kernel
theorem dX6_digest_97 : decode cX6_digest 97 = .ok (.ladd, 1) := by decide +kernel
theorem dX6_digest_98 : decode cX6_digest 98 = .ok (.lstore_n 1, 1) := by decide +kernel
theorem dX6_digest_99 : decode cX6_digest 99 = .ok (.iinc 3 1, 3) := by decide +kernel
theorem dX6_digest_102 : decode cX6_digest 102 = .ok (.goto (-33), 3) := by decide +kernel
theorem dX6_digest_105 : decode cX6_digest 105 = .ok (.iconst 0, 1) := by decide +kernel
theorem dX6_digest_106 : decode cX6_digest 106 = .ok (.istore_n 3, 1) := by decide +kernel
theorem dX6_digest_107 : decode cX6_digest 107 = .ok (.iload_n 3, 1) := by decide +kernel
theorem dX6_digest_108 : decode cX6_digest 108 = .ok (.bipush 12, 2) := by decide +kernel
theorem dX6_digest_110 : decode cX6_digest 110 = .ok (.if_icmp .ge 22, 3) := by decide +kernel
theorem dX6_digest_113 : decode cX6_digest 113 = .ok (.ldc2_w 207, 3) := by decide +kernel
theorem dX6_digest_116 : decode cX6_digest 116 = .ok (.lload_n 1, 1) := by decide +kernel
theorem dX6_digest_117 : decode cX6_digest 117 = .ok (.lmul, 1) := by decide +kernel
theorem dX6_digest_118 : decode cX6_digest 118 = .ok (.aload_n 0, 1) := by decide +kernel
theorem dX6_digest_119 : decode cX6_digest 119 = .ok (.iload_n 3, 1) := by decide +kernel
theorem dX6_digest_120 : decode cX6_digest 120 = .ok (.invokevirtual 219, 3) := by decide +kernel
theorem dX6_digest_123 : decode cX6_digest 123 = .ok (.i2l, 1) := by decide +kernel
theorem dX6_digest_124 : decode cX6_digest 124 = .ok (.ladd, 1) := by decide +kernel
theorem dX6_digest_125 : decode cX6_digest 125 = .ok (.lstore_n 1, 1) := by decide +kernel
theorem dX6_digest_126 : decode cX6_digest 126 = .ok (.iinc 3 1, 3) := by decide +kernel
theorem dX6_digest_129 : decode cX6_digest 129 = .ok (.goto (-22), 3) := by decide +kernel
theorem dX6_digest_132 : decode cX6_digest 132 = .ok (.lload_n 1, 1) := by decide +kernel
theorem dX6_digest_133 : decode cX6_digest 133 = .ok (.lreturn, 1) := by decide +kernel
set_option maxRecDepth 20000 in
theorem ggX6_digestOfPlayer_X6_reckonTwice : GoodIn wsX6_digestOfPlayer wsX6_reckonTwice := goodIn_r _ [9, 2, 10, 11, 12, 13, 14, 15, 16, 17, 18, 19, 20, 21, 22, 8, 23, 4, 24, 25, 26, 27, 28, 29, 30, 31, 32, 33, 34, 35, 36, 37, 38, 39, 40, 41, 42, 43, 44, 45, 46, 47, 48, 49, 50, 51, 52, 53, 54, 55, 56, 57, 58, 59, 60, 61, 62, 63, 64, 65, 66, 67, 68, 69, 70, 71, 72, 73, 74, 75, 76, 77, 78, 79, 80, 81, 82, 83, 84, 146, 147, 148, 149, 150, 151, 152, 153, 154, 155, 158, 159, 160, 161, 162, 163, 164, 165, 156, 157, 166, 167, 168, 169, 170, 171] (by decide +kernel) (by decide +kernel)
set_option maxRecDepth 20000 in
theorem gX6_digestOfPlayer_X6_reckonTwice : GoodIn wsX6_digestOfPlayer (wsV RX6 157 RX6 yX6_reckonTwice wsX6_reckonTwice) := goodIn_app (goodIn_of _ (by decide +kernel)) ggX6_digestOfPlayer_X6_reckonTwice
set_option maxRecDepth 20000 in
theorem ggX6_digestOfPlayer_X0_all : GoodIn wsX6_digestOfPlayer wsX0_all := goodIn_r _ [32, 33, 166, 167, 168, 169, 170] (by decide +kernel) (by decide +kernel)
set_option maxRecDepth 20000 in
theorem gX6_digestOfPlayer_X0_all : GoodIn wsX6_digestOfPlayer (wsV RX6 86 RX0 yX0_all wsX0_all) := goodIn_app (goodIn_of _ (by decide +kernel)) ggX6_digestOfPlayer_X0_all
set_option maxRecDepth 20000 in
theorem ggX6_digestOfPlayer_X2_findAll : GoodIn wsX6_digestOfPlayer wsX2_findAll := goodIn_r _ [90, 91, 92, 93, 94, 89, 95, 96, 97, 98, 99, 100, 101, 102, 103, 104, 43, 105, 45, 106, 41, 42, 44, 51, 8, 52, 107, 108, 109, 110, 111, 112, 113, 114, 172, 173, 174, 175, 166, 167, 168, 169, 170, 171] (by decide +kernel) (by decide +kernel)
set_option maxRecDepth 20000 in
theorem gX6_digestOfPlayer_X2_findAll : GoodIn wsX6_digestOfPlayer (wsV RX6 167 RX2 yX2_findAll wsX2_findAll) := goodIn_app (goodIn_of _ (by decide +kernel)) ggX6_digestOfPlayer_X2_findAll
set_option maxRecDepth 20000 in
theorem ggX6_digestOfPlayer_X2_fact : GoodIn wsX6_digestOfPlayer wsX2_fact := goodIn_r _ [118, 91, 92, 101, 107, 41, 42, 43, 44, 45, 172, 173, 174, 175, 171] (by decide +kernel) (by decide +kernel)
set_option maxRecDepth 20000 in
theorem gX6_digestOfPlayer_X2_fact : GoodIn wsX6_digestOfPlayer (wsV RX6 171 RX2 yX2_fact wsX2_fact) := goodIn_app (goodIn_of _ (by decide +kernel)) ggX6_digestOfPlayer_X2_fact
set_option maxRecDepth 20000 in
theorem ggX6_digestOfPlayer_X6_possibleRules : GoodIn wsX6_digestOfPlayer wsX6_possibleRules := goodIn_r _ [122, 123, 124, 125, 126, 8, 127, 4, 10, 85, 30, 31, 27, 32, 33, 11, 12, 13, 14, 15, 16, 17, 18, 19, 20, 61, 41, 42, 43, 44, 45, 24, 25, 26, 28, 29, 34, 35, 36, 37, 38, 39, 40, 50, 51, 52, 128, 129, 130, 131, 132, 133, 134, 135, 136, 80, 81, 82, 83, 84, 146, 147, 148, 149, 150, 151, 152, 153, 154, 155, 156, 157, 158, 159, 160, 161, 162, 163, 164, 165, 166, 167, 168, 169, 170, 171] (by decide +kernel) (by decide +kernel)
set_option maxRecDepth 20000 in
theorem gX6_digestOfPlayer_X6_possibleRules : GoodIn wsX6_digestOfPlayer (wsV RX6 183 RX6 yX6_possibleRules wsX6_possibleRules) := goodIn_app (goodIn_of _ (by decide +kernel)) ggX6_digestOfPlayer_X6_possibleRules
set_option maxRecDepth 20000 in
theorem ggX6_digestOfPlayer_X6_likeliestRule : GoodIn wsX6_digestOfPlayer wsX6_likeliestRule := goodIn_r _ [140, 141, 123, 11, 12, 13, 14, 15, 16, 17, 18, 19, 20, 124, 125, 126, 8, 127, 4, 10, 85, 30, 31, 27, 32, 33, 61, 41, 42, 43, 44, 45, 24, 25, 26, 28, 29, 34, 35, 36, 37, 38, 39, 40, 50, 51, 52, 128, 129, 130, 131, 132, 133, 134, 135, 136, 80, 81, 82, 83, 84, 142, 143, 144, 145, 146, 147, 148, 149, 150, 151, 152, 153, 154, 155, 156, 157, 158, 159, 160, 161, 162, 163, 164, 165, 166, 167, 168, 169, 170, 171] (by decide +kernel) (by decide +kernel)
set_option maxRecDepth 20000 in
theorem gX6_digestOfPlayer_X6_likeliestRule : GoodIn wsX6_digestOfPlayer (wsV RX6 186 RX6 yX6_likeliestRule wsX6_likeliestRule) := goodIn_app (goodIn_of _ (by decide +kernel)) ggX6_digestOfPlayer_X6_likeliestRule
theorem dX6_digestOfPlayer_0 : decode cX6_digestOfPlayer 0 = .ok (.lload_n 1, 1) := by decide +kernel
theorem dX6_digestOfPlayer_1 : decode cX6_digestOfPlayer 1 = .ok (.lstore_n 3, 1) := by decide +kernel
theorem dX6_digestOfPlayer_2 : decode cX6_digestOfPlayer 2 = .ok (.aload_n 0, 1) := by decide +kernel
theorem dX6_digestOfPlayer_3 : decode cX6_digestOfPlayer 3 = .ok (.iconst 2, 1) := by decide +kernel
theorem dX6_digestOfPlayer_4 : decode cX6_digestOfPlayer 4 = .ok (.invokevirtual 157, 3) := by decide +kernel
theorem dX6_digestOfPlayer_7 : decode cX6_digestOfPlayer 7 = .ok (.ldc2_w 207, 3) := by decide +kernel
theorem dX6_digestOfPlayer_10 : decode cX6_digestOfPlayer 10 = .ok (.lload_n 3, 1) := by decide +kernel
theorem dX6_digestOfPlayer_11 : decode cX6_digestOfPlayer 11 = .ok (.lmul, 1) := by decide +kernel
theorem dX6_digestOfPlayer_12 : decode cX6_digestOfPlayer 12 = .ok (.aload_n 0, 1) := by decide +kernel
theorem dX6_digestOfPlayer_13 : decode cX6_digestOfPlayer 13 = .ok (.getfield 36, 3) := by decide +kernel
theorem dX6_digestOfPlayer_16 : decode cX6_digestOfPlayer 16 = .ok (.getfield 160, 3) := by decide +kernel
theorem dX6_digestOfPlayer_19 : decode cX6_digestOfPlayer 19 = .ok (.ladd, 1) := by decide +kernel
theorem dX6_digestOfPlayer_20 : decode cX6_digestOfPlayer 20 = .ok (.lstore_n 3, 1) := by decide +kernel
theorem dX6_digestOfPlayer_21 : decode cX6_digestOfPlayer 21 = .ok (.ldc2_w 207, 3) := by decide +kernel
theorem dX6_digestOfPlayer_24 : decode cX6_digestOfPlayer 24 = .ok (.lload_n 3, 1) := by decide +kernel
theorem dX6_digestOfPlayer_25 : decode cX6_digestOfPlayer 25 = .ok (.lmul, 1) := by decide +kernel
theorem dX6_digestOfPlayer_26 : decode cX6_digestOfPlayer 26 = .ok (.aload_n 0, 1) := by decide +kernel
theorem dX6_digestOfPlayer_27 : decode cX6_digestOfPlayer 27 = .ok (.getfield 36, 3) := by decide +kernel
theorem dX6_digestOfPlayer_30 : decode cX6_digestOfPlayer 30 = .ok (.getfield 164, 3) := by decide +kernel
theorem dX6_digestOfPlayer_33 : decode cX6_digestOfPlayer 33 = .ok (.ladd, 1) := by decide +kernel
theorem dX6_digestOfPlayer_34 : decode cX6_digestOfPlayer 34 = .ok (.lstore_n 3, 1) := by decide +kernel
theorem dX6_digestOfPlayer_35 : decode cX6_digestOfPlayer 35 = .ok (.aload_n 0, 1) := by decide +kernel
theorem dX6_digestOfPlayer_36 : decode cX6_digestOfPlayer 36 = .ok (.getfield 49, 3) := by decide +kernel
theorem dX6_digestOfPlayer_39 : decode cX6_digestOfPlayer 39 = .ok (.aload_n 0, 1) := by decide +kernel
theorem dX6_digestOfPlayer_40 : decode cX6_digestOfPlayer 40 = .ok (.getfield 19, 3) := by decide +kernel
theorem dX6_digestOfPlayer_43 : decode cX6_digestOfPlayer 43 = .ok (.aload_n 0, 1) := by decide +kernel
theorem dX6_digestOfPlayer_44 : decode cX6_digestOfPlayer 44 = .ok (.getfield 19, 3) := by decide +kernel
theorem dX6_digestOfPlayer_47 : decode cX6_digestOfPlayer 47 = .ok (.invokevirtual 86, 3) := by decide +kernel
theorem dX6_digestOfPlayer_50 : decode cX6_digestOfPlayer 50 = .ok (.invokevirtual 167, 3) := by decide +kernel
theorem dX6_digestOfPlayer_53 : decode cX6_digestOfPlayer 53 = .ok (.ldc2_w 207, 3) := by decide +kernel
theorem dX6_digestOfPlayer_56 : decode cX6_digestOfPlayer 56 = .ok (.lload_n 3, 1) := by decide +kernel
theorem dX6_digestOfPlayer_57 : decode cX6_digestOfPlayer 57 = .ok (.lmul, 1) := by decide +kernel
theorem dX6_digestOfPlayer_58 : decode cX6_digestOfPlayer 58 = .ok (.aload_n 0, 1) := by decide +kernel
theorem dX6_digestOfPlayer_59 : decode cX6_digestOfPlayer 59 = .ok (.getfield 49, 3) := by decide +kernel
theorem dX6_digestOfPlayer_62 : decode cX6_digestOfPlayer 62 = .ok (.iconst 0, 1) := by decide +kernel
theorem dX6_digestOfPlayer_63 : decode cX6_digestOfPlayer 63 = .ok (.invokevirtual 171, 3) := by decide +kernel
theorem dX6_digestOfPlayer_66 : decode cX6_digestOfPlayer 66 = .ok (.i2l, 1) := by decide +kernel
theorem dX6_digestOfPlayer_67 : decode cX6_digestOfPlayer 67 = .ok (.ladd, 1) := by decide +kernel
theorem dX6_digestOfPlayer_68 : decode cX6_digestOfPlayer 68 = .ok (.lstore_n 3, 1) := by decide +kernel
theorem dX6_digestOfPlayer_69 : decode cX6_digestOfPlayer 69 = .ok (.iconst 0, 1) := by decide +kernel
theorem dX6_digestOfPlayer_70 : decode cX6_digestOfPlayer 70 = .ok (.istore 5, 2) := by decide +kernel
theorem dX6_digestOfPlayer_72 : decode cX6_digestOfPlayer 72 = .ok (.iload 5, 2) := by decide +kernel
theorem dX6_digestOfPlayer_74 : decode cX6_digestOfPlayer 74 = .ok (.bipush 6, 2) := by decide +kernel
theorem dX6_digestOfPlayer_76 : decode cX6_digestOfPlayer 76 = .ok (.if_icmp .ge 29, 3) := by decide +kernel
theorem dX6_digestOfPlayer_79 : decode cX6_digestOfPlayer 79 = .ok (.ldc2_w 207, 3) := by decide +kernel
theorem dX6_digestOfPlayer_82 : decode cX6_digestOfPlayer 82 = .ok (.lload_n 3, 1) := by decide +kernel
theorem dX6_digestOfPlayer_83 : decode cX6_digestOfPlayer 83 = .ok (.lmul, 1) := by decide +kernel
theorem dX6_digestOfPlayer_84 : decode cX6_digestOfPlayer 84 = .ok (.aload_n 0, 1) := by decide +kernel
theorem dX6_digestOfPlayer_85 : decode cX6_digestOfPlayer 85 = .ok (.getfield 49, 3) := by decide +kernel
theorem dX6_digestOfPlayer_88 : decode cX6_digestOfPlayer 88 = .ok (.bipush 10, 2) := by decide +kernel
theorem dX6_digestOfPlayer_90 : decode cX6_digestOfPlayer 90 = .ok (.iload 5, 2) := by decide +kernel
theorem dX6_digestOfPlayer_92 : decode cX6_digestOfPlayer 92 = .ok (.iadd, 1) := by decide +kernel
theorem dX6_digestOfPlayer_93 : decode cX6_digestOfPlayer 93 = .ok (.invokevirtual 171, 3) := by decide +kernel
theorem dX6_digestOfPlayer_96 : decode cX6_digestOfPlayer 96 = .ok (.i2l, 1) := by decide +kernel
theorem dX6_digestOfPlayer_97 : decode cX6_digestOfPlayer 97 = .ok (.ladd, 1) := by decide +kernel
theorem dX6_digestOfPlayer_98 : decode cX6_digestOfPlayer 98 = .ok (.lstore_n 3, 1) := by decide +kernel
theorem dX6_digestOfPlayer_99 : decode cX6_digestOfPlayer 99 = .ok (.iinc 5 1, 3) := by decide +kernel
theorem dX6_digestOfPlayer_102 : decode cX6_digestOfPlayer 102 = .ok (.goto (-30), 3) := by decide +kernel
theorem dX6_digestOfPlayer_105 : decode cX6_digestOfPlayer 105 = .ok (.ldc2_w 207, 3) := by decide +kernel
theorem dX6_digestOfPlayer_108 : decode cX6_digestOfPlayer 108 = .ok (.lload_n 3, 1) := by decide +kernel
theorem dX6_digestOfPlayer_109 : decode cX6_digestOfPlayer 109 = .ok (.lmul, 1) := by decide +kernel
theorem dX6_digestOfPlayer_110 : decode cX6_digestOfPlayer 110 = .ok (.aload_n 0, 1) := by decide +kernel
theorem dX6_digestOfPlayer_111 : decode cX6_digestOfPlayer 111 = .ok (.invokevirtual 183, 3) := by decide +kernel
theorem dX6_digestOfPlayer_114 : decode cX6_digestOfPlayer 114 = .ok (.i2l, 1) := by decide +kernel
theorem dX6_digestOfPlayer_115 : decode cX6_digestOfPlayer 115 = .ok (.ladd, 1) := by decide +kernel
theorem dX6_digestOfPlayer_116 : decode cX6_digestOfPlayer 116 = .ok (.lstore_n 3, 1) := by decide +kernel
theorem dX6_digestOfPlayer_117 : decode cX6_digestOfPlayer 117 = .ok (.ldc2_w 207, 3) := by decide +kernel
theorem dX6_digestOfPlayer_120 : decode cX6_digestOfPlayer 120 = .ok (.lload_n 3, 1) := by decide +kernel
theorem dX6_digestOfPlayer_121 : decode cX6_digestOfPlayer 121 = .ok (.lmul, 1) := by decide +kernel
theorem dX6_digestOfPlayer_122 : decode cX6_digestOfPlayer 122 = .ok (.aload_n 0, 1) := by decide +kernel
theorem dX6_digestOfPlayer_123 : decode cX6_digestOfPlayer 123 = .ok (.invokevirtual 186, 3) := by decide +kernel
theorem dX6_digestOfPlayer_126 : decode cX6_digestOfPlayer 126 = .ok (.i2l, 1) := by decide +kernel
theorem dX6_digestOfPlayer_127 : decode cX6_digestOfPlayer 127 = .ok (.ladd, 1) := by decide +kernel
theorem dX6_digestOfPlayer_128 : decode cX6_digestOfPlayer 128 = .ok (.lreturn, 1) := by decide +kernel
