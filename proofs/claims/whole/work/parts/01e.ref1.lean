theorem dX7_init_0 : decode cX7_init 0 = .ok (.aload_n 0, 1) := by decide +kernel
theorem dX7_init_1 : decode cX7_init 1 = .ok (.invokespecial 1, 3) := by decide +kernel
theorem dX7_init_4 : decode cX7_init 4 = .ok (.aload_n 0, 1) := by decide +kernel
theorem dX7_init_5 : decode cX7_init 5 = .ok (.bipush 22, 2) := by decide +kernel
theorem dX7_init_7 : decode cX7_init 7 = .ok (.newarray .int, 2) := by decide +kernel
theorem dX7_init_9 : decode cX7_init 9 = .ok (.putfield 7, 3) := by decide +kernel
theorem dX7_init_12 : decode cX7_init 12 = .ok (.aload_n 0, 1) := by decide +kernel
theorem dX7_init_13 : decode cX7_init 13 = .ok (.bipush 12, 2) := by decide +kernel
theorem dX7_init_15 : decode cX7_init 15 = .ok (.newarray .int, 2) := by decide +kernel
theorem dX7_init_17 : decode cX7_init 17 = .ok (.putfield 13, 3) := by decide +kernel
theorem dX7_init_20 : decode cX7_init 20 = .ok (.aload_n 0, 1) := by decide +kernel
theorem dX7_init_21 : decode cX7_init 21 = .ok (.bipush 24, 2) := by decide +kernel
theorem dX7_init_23 : decode cX7_init 23 = .ok (.newarray .int, 2) := by decide +kernel
theorem dX7_init_25 : decode cX7_init 25 = .ok (.putfield 16, 3) := by decide +kernel
theorem dX7_init_28 : decode cX7_init 28 = .ok (.aload_n 0, 1) := by decide +kernel
theorem dX7_init_29 : decode cX7_init 29 = .ok (.bipush 6, 2) := by decide +kernel
theorem dX7_init_31 : decode cX7_init 31 = .ok (.newarray .int, 2) := by decide +kernel
theorem dX7_init_33 : decode cX7_init 33 = .ok (.putfield 19, 3) := by decide +kernel
theorem dX7_init_36 : decode cX7_init 36 = .ok (.aload_n 0, 1) := by decide +kernel
theorem dX7_init_37 : decode cX7_init 37 = .ok (.bipush 6, 2) := by decide +kernel
theorem dX7_init_39 : decode cX7_init 39 = .ok (.newarray .int, 2) := by decide +kernel
theorem dX7_init_41 : decode cX7_init 41 = .ok (.putfield 22, 3) := by decide +kernel
theorem dX7_init_44 : decode cX7_init 44 = .ok (.aload_n 0, 1) := by decide +kernel
theorem dX7_init_45 : decode cX7_init 45 = .ok (.bipush 8, 2) := by decide +kernel
theorem dX7_init_47 : decode cX7_init 47 = .ok (.newarray .int, 2) := by decide +kernel
theorem dX7_init_49 : decode cX7_init 49 = .ok (.putfield 25, 3) := by decide +kernel
theorem dX7_init_52 : decode cX7_init 52 = .ok (.aload_n 0, 1) := by decide +kernel
theorem dX7_init_53 : decode cX7_init 53 = .ok (.bipush 24, 2) := by decide +kernel
theorem dX7_init_55 : decode cX7_init 55 = .ok (.newarray .int, 2) := by decide +kernel
theorem dX7_init_57 : decode cX7_init 57 = .ok (.putfield 28, 3) := by decide +kernel
theorem dX7_init_60 : decode cX7_init 60 = .ok (.aload_n 0, 1) := by decide +kernel
theorem dX7_init_61 : decode cX7_init 61 = .ok (.bipush 8, 2) := by decide +kernel
theorem dX7_init_63 : decode cX7_init 63 = .ok (.newarray .int, 2) := by decide +kernel
theorem dX7_init_65 : decode cX7_init 65 = .ok (.putfield 31, 3) := by decide +kernel
theorem dX7_init_68 : decode cX7_init 68 = .ok (.aload_n 0, 1) := by decide +kernel
theorem dX7_init_69 : decode cX7_init 69 = .ok (.iconst (-1), 1) := by decide +kernel
theorem dX7_init_70 : decode cX7_init 70 = .ok (.putfield 34, 3) := by decide +kernel
theorem dX7_init_73 : decode cX7_init 73 = .ok (.aload_n 0, 1) := by decide +kernel
theorem dX7_init_74 : decode cX7_init 74 = .ok (.iconst (-1), 1) := by decide +kernel
theorem dX7_init_75 : decode cX7_init 75 = .ok (.putfield 38, 3) := by decide +kernel
theorem dX7_init_78 : decode cX7_init 78 = .ok (.return_, 1) := by decide +kernel
theorem dX7_in_0 : decode cX7_in 0 = .ok (.lload_n 0, 1) := by decide +kernel
theorem dX7_in_1 : decode cX7_in 1 = .ok (.lload_n 2, 1) := by decide +kernel
theorem dX7_in_2 : decode cX7_in 2 = .ok (.lcmp, 1) := by decide +kernel
theorem dX7_in_3 : decode cX7_in 3 = .ok (.ifCond .lt 14, 3) := by decide +kernel
theorem dX7_in_6 : decode cX7_in 6 = .ok (.lload_n 0, 1) := by decide +kernel
theorem dX7_in_7 : decode cX7_in 7 = .ok (.lload 4, 2) := by decide +kernel
theorem dX7_in_9 : decode cX7_in 9 = .ok (.lcmp, 1) := by decide +kernel
theorem dX7_in_10 : decode cX7_in 10 = .ok (.ifCond .gt 7, 3) := by decide +kernel
theorem dX7_in_13 : decode cX7_in 13 = .ok (.iconst 1, 1) := by decide +kernel
theorem dX7_in_14 : decode cX7_in 14 = .ok (.goto 4, 3) := by decide +kernel
theorem dX7_in_17 : decode cX7_in 17 = .ok (.iconst 0, 1) := by decide +kernel
theorem dX7_in_18 : decode cX7_in 18 = .ok (.ireturn, 1) := by decide +kernel
theorem dX7_copy_0 : decode cX7_copy 0 = .ok (.iconst 0, 1) := by decide +kernel
theorem dX7_copy_1 : decode cX7_copy 1 = .ok (.istore_n 2, 1) := by decide +kernel
theorem dX7_copy_2 : decode cX7_copy 2 = .ok (.iload_n 2, 1) := by decide +kernel
theorem dX7_copy_3 : decode cX7_copy 3 = .ok (.aload_n 0, 1) := by decide +kernel
theorem dX7_copy_4 : decode cX7_copy 4 = .ok (.arraylength, 1) := by decide +kernel
theorem dX7_copy_5 : decode cX7_copy 5 = .ok (.if_icmp .ge 15, 3) := by decide +kernel
theorem dX7_copy_8 : decode cX7_copy 8 = .ok (.aload_n 1, 1) := by decide +kernel
theorem dX7_copy_9 : decode cX7_copy 9 = .ok (.iload_n 2, 1) := by decide +kernel
theorem dX7_copy_10 : decode cX7_copy 10 = .ok (.aload_n 0, 1) := by decide +kernel
theorem dX7_copy_11 : decode cX7_copy 11 = .ok (.iload_n 2, 1) := by decide +kernel
theorem dX7_copy_12 : decode cX7_copy 12 = .ok (.iaload, 1) := by decide +kernel
theorem dX7_copy_13 : decode cX7_copy 13 = .ok (.iastore, 1) := by decide +kernel
theorem dX7_copy_14 : decode cX7_copy 14 = .ok (.iinc 2 1, 3) := by decide +kernel
theorem dX7_copy_17 : decode cX7_copy 17 = .ok (.goto (-15), 3) := by decide +kernel
theorem dX7_copy_20 : decode cX7_copy 20 = .ok (.return_, 1) := by decide +kernel
theorem dX7_common_0 : decode cX7_common 0 = .ok (.lload_n 0, 1) := by decide +kernel
theorem dX7_common_1 : decode cX7_common 1 = .ok (.lstore 4, 2) := by decide +kernel
theorem dX7_common_3 : decode cX7_common 3 = .ok (.lload_n 2, 1) := by decide +kernel
theorem dX7_common_4 : decode cX7_common 4 = .ok (.lstore 6, 2) := by decide +kernel
theorem dX7_common_6 : decode cX7_common 6 = .ok (.lload 6, 2) := by decide +kernel
theorem dX7_common_8 : decode cX7_common 8 = .ok (.lconst 0, 1) := by decide +kernel
theorem dX7_common_9 : decode cX7_common 9 = .ok (.lcmp, 1) := by decide +kernel
theorem dX7_common_10 : decode cX7_common 10 = .ok (.ifCond .le 21, 3) := by decide +kernel
theorem dX7_common_13 : decode cX7_common 13 = .ok (.lload 4, 2) := by decide +kernel
theorem dX7_common_15 : decode cX7_common 15 = .ok (.lload 6, 2) := by decide +kernel
theorem dX7_common_17 : decode cX7_common 17 = .ok (.lrem, 1) := by decide +kernel
theorem dX7_common_18 : decode cX7_common 18 = .ok (.lstore 8, 2) := by decide +kernel
theorem dX7_common_20 : decode cX7_common 20 = .ok (.lload 6, 2) := by decide +kernel
theorem dX7_common_22 : decode cX7_common 22 = .ok (.lstore 4, 2) := by decide +kernel
theorem dX7_common_24 : decode cX7_common 24 = .ok (.lload 8, 2) := by decide +kernel
theorem dX7_common_26 : decode cX7_common 26 = .ok (.lstore 6, 2) := by decide +kernel
theorem dX7_common_28 : decode cX7_common 28 = .ok (.goto (-22), 3) := by decide +kernel
theorem dX7_common_31 : decode cX7_common 31 = .ok (.lload 4, 2) := by decide +kernel
theorem dX7_common_33 : decode cX7_common 33 = .ok (.lreturn, 1) := by decide +kernel
theorem dX7_ones_0 : decode cX7_ones 0 = .ok (.iconst 0, 1) := by decide +kernel
theorem dX7_ones_1 : decode cX7_ones 1 = .ok (.istore_n 1, 1) := by decide +kernel
theorem dX7_ones_2 : decode cX7_ones 2 = .ok (.iconst 0, 1) := by decide +kernel
theorem dX7_ones_3 : decode cX7_ones 3 = .ok (.istore_n 2, 1) := by decide +kernel
theorem dX7_ones_4 : decode cX7_ones 4 = .ok (.iload_n 2, 1) := by decide +kernel
theorem dX7_ones_5 : decode cX7_ones 5 = .ok (.bipush 6, 2) := by decide +kernel
theorem dX7_ones_7 : decode cX7_ones 7 = .ok (.if_icmp .ge 17, 3) := by decide +kernel
theorem dX7_ones_10 : decode cX7_ones 10 = .ok (.iload_n 1, 1) := by decide +kernel
theorem dX7_ones_11 : decode cX7_ones 11 = .ok (.iload_n 0, 1) := by decide +kernel
theorem dX7_ones_12 : decode cX7_ones 12 = .ok (.iload_n 2, 1) := by decide +kernel
theorem dX7_ones_13 : decode cX7_ones 13 = .ok (.ishr, 1) := by decide +kernel
theorem dX7_ones_14 : decode cX7_ones 14 = .ok (.iconst 1, 1) := by decide +kernel
theorem dX7_ones_15 : decode cX7_ones 15 = .ok (.iand, 1) := by decide +kernel
theorem dX7_ones_16 : decode cX7_ones 16 = .ok (.iadd, 1) := by decide +kernel
theorem dX7_ones_17 : decode cX7_ones 17 = .ok (.istore_n 1, 1) := by decide +kernel
theorem dX7_ones_18 : decode cX7_ones 18 = .ok (.iinc 2 1, 3) := by decide +kernel
theorem dX7_ones_21 : decode cX7_ones 21 = .ok (.goto (-17), 3) := by decide +kernel
theorem dX7_ones_24 : decode cX7_ones 24 = .ok (.iload_n 1, 1) := by decide +kernel
theorem dX7_ones_25 : decode cX7_ones 25 = .ok (.ireturn, 1) := by decide +kernel
set_option maxRecDepth 20000 in
theorem ggX7_letter_X7_in : GoodIn wsX7_letter wsX7_in := goodIn_r _ [7] (by decide +kernel) (by decide +kernel)
set_option maxRecDepth 20000 in
theorem gX7_letter_X7_in : GoodIn wsX7_letter (va_wsS RX7 43 yX7_in wsX7_in) := goodIn_app (goodIn_of _ (by decide +kernel)) ggX7_letter_X7_in
theorem dX7_letter_0 : decode cX7_letter 0 = .ok (.iload_n 1, 1) := by decide +kernel
theorem dX7_letter_1 : decode cX7_letter 1 = .ok (.i2l, 1) := by decide +kernel
theorem dX7_letter_2 : decode cX7_letter 2 = .ok (.lconst 1, 1) := by decide +kernel
theorem dX7_letter_3 : decode cX7_letter 3 = .ok (.ldc2_w 41, 3) := by decide +kernel
theorem dX7_letter_6 : decode cX7_letter 6 = .ok (.invokestatic 43, 3) := by decide +kernel
theorem dX7_letter_9 : decode cX7_letter 9 = .ok (.ifCond .ne 6, 3) := by decide +kernel
theorem dX7_letter_12 : decode cX7_letter 12 = .ok (.bipush (-102), 2) := by decide +kernel
theorem dX7_letter_14 : decode cX7_letter 14 = .ok (.ireturn, 1) := by decide +kernel
theorem dX7_letter_15 : decode cX7_letter 15 = .ok (.aload_n 0, 1) := by decide +kernel
theorem dX7_letter_16 : decode cX7_letter 16 = .ok (.getfield 47, 3) := by decide +kernel
theorem dX7_letter_19 : decode cX7_letter 19 = .ok (.bipush 22, 2) := by decide +kernel
theorem dX7_letter_21 : decode cX7_letter 21 = .ok (.if_icmp .ne 6, 3) := by decide +kernel
theorem dX7_letter_24 : decode cX7_letter 24 = .ok (.bipush (-104), 2) := by decide +kernel
theorem dX7_letter_26 : decode cX7_letter 26 = .ok (.ireturn, 1) := by decide +kernel
theorem dX7_letter_27 : decode cX7_letter 27 = .ok (.aload_n 0, 1) := by decide +kernel
theorem dX7_letter_28 : decode cX7_letter 28 = .ok (.getfield 7, 3) := by decide +kernel
theorem dX7_letter_31 : decode cX7_letter 31 = .ok (.aload_n 0, 1) := by decide +kernel
theorem dX7_letter_32 : decode cX7_letter 32 = .ok (.getfield 47, 3) := by decide +kernel
theorem dX7_letter_35 : decode cX7_letter 35 = .ok (.iload_n 1, 1) := by decide +kernel
theorem dX7_letter_36 : decode cX7_letter 36 = .ok (.iastore, 1) := by decide +kernel
theorem dX7_letter_37 : decode cX7_letter 37 = .ok (.aload_n 0, 1) := by decide +kernel
theorem dX7_letter_38 : decode cX7_letter 38 = .ok (.dup, 1) := by decide +kernel
theorem dX7_letter_39 : decode cX7_letter 39 = .ok (.getfield 47, 3) := by decide +kernel
theorem dX7_letter_42 : decode cX7_letter 42 = .ok (.iconst 1, 1) := by decide +kernel
theorem dX7_letter_43 : decode cX7_letter 43 = .ok (.iadd, 1) := by decide +kernel
theorem dX7_letter_44 : decode cX7_letter 44 = .ok (.putfield 47, 3) := by decide +kernel
theorem dX7_letter_47 : decode cX7_letter 47 = .ok (.aload_n 0, 1) := by decide +kernel
theorem dX7_letter_48 : decode cX7_letter 48 = .ok (.getfield 47, 3) := by decide +kernel
theorem dX7_letter_51 : decode cX7_letter 51 = .ok (.ireturn, 1) := by decide +kernel
theorem dX7_blank_0 : decode cX7_blank 0 = .ok (.aload_n 0, 1) := by decide +kernel
theorem dX7_blank_1 : decode cX7_blank 1 = .ok (.getfield 47, 3) := by decide +kernel
theorem dX7_blank_4 : decode cX7_blank 4 = .ok (.istore_n 1, 1) := by decide +kernel
theorem dX7_blank_5 : decode cX7_blank 5 = .ok (.aload_n 0, 1) := by decide +kernel
theorem dX7_blank_6 : decode cX7_blank 6 = .ok (.iconst 0, 1) := by decide +kernel
theorem dX7_blank_7 : decode cX7_blank 7 = .ok (.putfield 47, 3) := by decide +kernel
theorem dX7_blank_10 : decode cX7_blank 10 = .ok (.iload_n 1, 1) := by decide +kernel
theorem dX7_blank_11 : decode cX7_blank 11 = .ok (.ireturn, 1) := by decide +kernel
theorem dX7_kindBy_0 : decode cX7_kindBy 0 = .ok (.iload_n 0, 1) := by decide +kernel
theorem dX7_kindBy_1 : decode cX7_kindBy 1 = .ok (.bipush 115, 2) := by decide +kernel
theorem dX7_kindBy_3 : decode cX7_kindBy 3 = .ok (.if_icmp .ne 7, 3) := by decide +kernel
theorem dX7_kindBy_6 : decode cX7_kindBy 6 = .ok (.iconst 0, 1) := by decide +kernel
theorem dX7_kindBy_7 : decode cX7_kindBy 7 = .ok (.goto 44, 3) := by decide +kernel
theorem dX7_kindBy_10 : decode cX7_kindBy 10 = .ok (.iload_n 0, 1) := by decide +kernel
theorem dX7_kindBy_11 : decode cX7_kindBy 11 = .ok (.bipush 108, 2) := by decide +kernel
theorem dX7_kindBy_13 : decode cX7_kindBy 13 = .ok (.if_icmp .ne 7, 3) := by decide +kernel
theorem dX7_kindBy_16 : decode cX7_kindBy 16 = .ok (.iconst 1, 1) := by decide +kernel
theorem dX7_kindBy_17 : decode cX7_kindBy 17 = .ok (.goto 34, 3) := by decide +kernel
theorem dX7_kindBy_20 : decode cX7_kindBy 20 = .ok (.iload_n 0, 1) := by decide +kernel
theorem dX7_kindBy_21 : decode cX7_kindBy 21 = .ok (.bipush 104, 2) := by decide +kernel
theorem dX7_kindBy_23 : decode cX7_kindBy 23 = .ok (.if_icmp .ne 7, 3) := by decide +kernel
theorem dX7_kindBy_26 : decode cX7_kindBy 26 = .ok (.iconst 2, 1) := by decide +kernel
theorem dX7_kindBy_27 : decode cX7_kindBy 27 = .ok (.goto 24, 3) := by decide +kernel
theorem dX7_kindBy_30 : decode cX7_kindBy 30 = .ok (.iload_n 0, 1) := by decide +kernel
theorem dX7_kindBy_31 : decode cX7_kindBy 31 = .ok (.bipush 110, 2) := by decide +kernel
theorem dX7_kindBy_33 : decode cX7_kindBy 33 = .ok (.if_icmp .ne 7, 3) := by decide +kernel
theorem dX7_kindBy_36 : decode cX7_kindBy 36 = .ok (.iconst 3, 1) := by decide +kernel
theorem dX7_kindBy_37 : decode cX7_kindBy 37 = .ok (.goto 14, 3) := by decide +kernel
theorem dX7_kindBy_40 : decode cX7_kindBy 40 = .ok (.iload_n 0, 1) := by decide +kernel
theorem dX7_kindBy_41 : decode cX7_kindBy 41 = .ok (.bipush 97, 2) := by decide +kernel
theorem dX7_kindBy_43 : decode cX7_kindBy 43 = .ok (.if_icmp .ne 7, 3) := by decide +kernel
theorem dX7_kindBy_46 : decode cX7_kindBy 46 = .ok (.iconst 4, 1) := by decide +kernel
theorem dX7_kindBy_47 : decode cX7_kindBy 47 = .ok (.goto 4, 3) := by decide +kernel
theorem dX7_kindBy_50 : decode cX7_kindBy 50 = .ok (.iconst (-1), 1) := by decide +kernel
theorem dX7_kindBy_51 : decode cX7_kindBy 51 = .ok (.ireturn, 1) := by decide +kernel
set_option maxRecDepth 20000 in
theorem ggX7_go_X7_kindBy : GoodIn wsX7_go wsX7_kindBy := goodIn_r _ [9] (by decide +kernel) (by decide +kernel)
set_option maxRecDepth 20000 in
theorem gX7_go_X7_kindBy : GoodIn wsX7_go (va_wsS RX7 56 yX7_kindBy wsX7_kindBy) := goodIn_app (goodIn_of _ (by decide +kernel)) ggX7_go_X7_kindBy
set_option maxRecDepth 20000 in
theorem ggX7_go_X7_in : GoodIn wsX7_go wsX7_in := goodIn_r _ [12] (by decide +kernel) (by decide +kernel)
set_option maxRecDepth 20000 in
theorem gX7_go_X7_in : GoodIn wsX7_go (va_wsS RX7 43 yX7_in wsX7_in) := goodIn_app (goodIn_of _ (by decide +kernel)) ggX7_go_X7_in
theorem dX7_go_0 : decode cX7_go 0 = .ok (.iload_n 1, 1) := by decide +kernel
theorem dX7_go_1 : decode cX7_go 1 = .ok (.bipush 48, 2) := by decide +kernel
theorem dX7_go_3 : decode cX7_go 3 = .ok (.isub, 1) := by decide +kernel
theorem dX7_go_4 : decode cX7_go 4 = .ok (.istore_n 2, 1) := by decide +kernel
theorem dX7_go_5 : decode cX7_go 5 = .ok (.aload_n 0, 1) := by decide +kernel
theorem dX7_go_6 : decode cX7_go 6 = .ok (.getfield 50, 3) := by decide +kernel
theorem dX7_go_9 : decode cX7_go 9 = .ok (.istore_n 3, 1) := by decide +kernel
theorem dX7_go_10 : decode cX7_go 10 = .ok (.aload_n 0, 1) := by decide +kernel
theorem dX7_go_11 : decode cX7_go 11 = .ok (.dup, 1) := by decide +kernel
theorem dX7_go_12 : decode cX7_go 12 = .ok (.getfield 50, 3) := by decide +kernel
theorem dX7_go_15 : decode cX7_go 15 = .ok (.iconst 1, 1) := by decide +kernel
theorem dX7_go_16 : decode cX7_go 16 = .ok (.iadd, 1) := by decide +kernel
theorem dX7_go_17 : decode cX7_go 17 = .ok (.putfield 50, 3) := by decide +kernel
theorem dX7_go_20 : decode cX7_go 20 = .ok (.iload_n 3, 1) := by decide +kernel
theorem dX7_go_21 : decode cX7_go 21 = .ok (.tableswitch 167 0 3 #[31, 60, 94, 152], 31) := by decide +kernel
theorem dX7_go_52 : decode cX7_go 52 = .ok (.aload_n 0, 1) := by decide +kernel
theorem dX7_go_53 : decode cX7_go 53 = .ok (.getfield 13, 3) := by decide +kernel
theorem dX7_go_56 : decode cX7_go 56 = .ok (.iconst 2, 1) := by decide +kernel
theorem dX7_go_57 : decode cX7_go 57 = .ok (.aload_n 0, 1) := by decide +kernel
theorem dX7_go_58 : decode cX7_go 58 = .ok (.getfield 53, 3) := by decide +kernel
theorem dX7_go_61 : decode cX7_go 61 = .ok (.imul, 1) := by decide +kernel
theorem dX7_go_62 : decode cX7_go 62 = .ok (.iload_n 1, 1) := by decide +kernel
theorem dX7_go_63 : decode cX7_go 63 = .ok (.invokestatic 56, 3) := by decide +kernel
theorem dX7_go_66 : decode cX7_go 66 = .ok (.iastore, 1) := by decide +kernel
theorem dX7_go_67 : decode cX7_go 67 = .ok (.iload_n 1, 1) := by decide +kernel
theorem dX7_go_68 : decode cX7_go 68 = .ok (.invokestatic 56, 3) := by decide +kernel
theorem dX7_go_71 : decode cX7_go 71 = .ok (.iconst (-1), 1) := by decide +kernel
theorem dX7_go_72 : decode cX7_go 72 = .ok (.if_icmp .eq 7, 3) := by decide +kernel
theorem dX7_go_75 : decode cX7_go 75 = .ok (.iconst 1, 1) := by decide +kernel
theorem dX7_go_76 : decode cX7_go 76 = .ok (.goto 4, 3) := by decide +kernel
theorem dX7_go_79 : decode cX7_go 79 = .ok (.iconst 0, 1) := by decide +kernel
theorem dX7_go_80 : decode cX7_go 80 = .ok (.ireturn, 1) := by decide +kernel
theorem dX7_go_81 : decode cX7_go 81 = .ok (.aload_n 0, 1) := by decide +kernel
theorem dX7_go_82 : decode cX7_go 82 = .ok (.getfield 13, 3) := by decide +kernel
theorem dX7_go_85 : decode cX7_go 85 = .ok (.iconst 2, 1) := by decide +kernel
theorem dX7_go_86 : decode cX7_go 86 = .ok (.aload_n 0, 1) := by decide +kernel
theorem dX7_go_87 : decode cX7_go 87 = .ok (.getfield 53, 3) := by decide +kernel
theorem dX7_go_90 : decode cX7_go 90 = .ok (.imul, 1) := by decide +kernel
theorem dX7_go_91 : decode cX7_go 91 = .ok (.iconst 1, 1) := by decide +kernel
theorem dX7_go_92 : decode cX7_go 92 = .ok (.iadd, 1) := by decide +kernel
theorem dX7_go_93 : decode cX7_go 93 = .ok (.iload_n 2, 1) := by decide +kernel
theorem dX7_go_94 : decode cX7_go 94 = .ok (.iastore, 1) := by decide +kernel
theorem dX7_go_95 : decode cX7_go 95 = .ok (.aload_n 0, 1) := by decide +kernel
theorem dX7_go_96 : decode cX7_go 96 = .ok (.dup, 1) := by decide +kernel
theorem dX7_go_97 : decode cX7_go 97 = .ok (.getfield 53, 3) := by decide +kernel
theorem dX7_go_100 : decode cX7_go 100 = .ok (.iconst 1, 1) := by decide +kernel
theorem dX7_go_101 : decode cX7_go 101 = .ok (.iadd, 1) := by decide +kernel
theorem dX7_go_102 : decode cX7_go 102 = .ok (.putfield 53, 3) := by decide +kernel
theorem dX7_go_105 : decode cX7_go 105 = .ok (.iload_n 2, 1) := by decide +kernel
theorem dX7_go_106 : decode cX7_go 106 = .ok (.i2l, 1) := by decide +kernel
theorem dX7_go_107 : decode cX7_go 107 = .ok (.lconst 0, 1) := by decide +kernel
theorem dX7_go_108 : decode cX7_go 108 = .ok (.ldc2_w 60, 3) := by decide +kernel
theorem dX7_go_111 : decode cX7_go 111 = .ok (.invokestatic 43, 3) := by decide +kernel
theorem dX7_go_114 : decode cX7_go 114 = .ok (.ireturn, 1) := by decide +kernel
theorem dX7_go_115 : decode cX7_go 115 = .ok (.aload_n 0, 1) := by decide +kernel
theorem dX7_go_116 : decode cX7_go 116 = .ok (.iload_n 1, 1) := by decide +kernel
theorem dX7_go_117 : decode cX7_go 117 = .ok (.bipush 44, 2) := by decide +kernel
theorem dX7_go_119 : decode cX7_go 119 = .ok (.if_icmp .ne 7, 3) := by decide +kernel
theorem dX7_go_122 : decode cX7_go 122 = .ok (.iconst 0, 1) := by decide +kernel
theorem dX7_go_123 : decode cX7_go 123 = .ok (.goto 4, 3) := by decide +kernel
theorem dX7_go_126 : decode cX7_go 126 = .ok (.iconst 3, 1) := by decide +kernel
theorem dX7_go_127 : decode cX7_go 127 = .ok (.putfield 50, 3) := by decide +kernel
theorem dX7_go_130 : decode cX7_go 130 = .ok (.iload_n 1, 1) := by decide +kernel
theorem dX7_go_131 : decode cX7_go 131 = .ok (.bipush 44, 2) := by decide +kernel
theorem dX7_go_133 : decode cX7_go 133 = .ok (.if_icmp .ne 20, 3) := by decide +kernel
theorem dX7_go_136 : decode cX7_go 136 = .ok (.aload_n 0, 1) := by decide +kernel
theorem dX7_go_137 : decode cX7_go 137 = .ok (.getfield 53, 3) := by decide +kernel
theorem dX7_go_140 : decode cX7_go 140 = .ok (.bipush 6, 2) := by decide +kernel
theorem dX7_go_142 : decode cX7_go 142 = .ok (.if_icmp .ge 7, 3) := by decide +kernel
theorem dX7_go_145 : decode cX7_go 145 = .ok (.iconst 1, 1) := by decide +kernel
theorem dX7_go_146 : decode cX7_go 146 = .ok (.goto 26, 3) := by decide +kernel
theorem dX7_go_149 : decode cX7_go 149 = .ok (.iconst 0, 1) := by decide +kernel
theorem dX7_go_150 : decode cX7_go 150 = .ok (.goto 22, 3) := by decide +kernel
theorem dX7_go_153 : decode cX7_go 153 = .ok (.iload_n 1, 1) := by decide +kernel
theorem dX7_go_154 : decode cX7_go 154 = .ok (.bipush 59, 2) := by decide +kernel
theorem dX7_go_156 : decode cX7_go 156 = .ok (.if_icmp .ne 15, 3) := by decide +kernel
theorem dX7_go_159 : decode cX7_go 159 = .ok (.aload_n 0, 1) := by decide +kernel
theorem dX7_go_160 : decode cX7_go 160 = .ok (.getfield 53, 3) := by decide +kernel
theorem dX7_go_163 : decode cX7_go 163 = .ok (.iconst 1, 1) := by decide +kernel
theorem dX7_go_164 : decode cX7_go 164 = .ok (.if_icmp .le 7, 3) := by decide +kernel
theorem dX7_go_167 : decode cX7_go 167 = .ok (.iconst 1, 1) := by decide +kernel
theorem dX7_go_168 : decode cX7_go 168 = .ok (.goto 4, 3) := by decide +kernel
theorem dX7_go_171 : decode cX7_go 171 = .ok (.iconst 0, 1) := by decide +kernel
theorem dX7_go_172 : decode cX7_go 172 = .ok (.ireturn, 1) := by decide +kernel
theorem dX7_go_173 : decode cX7_go 173 = .ok (.aload_n 0, 1) := by decide +kernel
theorem dX7_go_174 : decode cX7_go 174 = .ok (.iload_n 2, 1) := by decide +kernel
theorem dX7_go_175 : decode cX7_go 175 = .ok (.putfield 62, 3) := by decide +kernel
theorem dX7_go_178 : decode cX7_go 178 = .ok (.iload_n 2, 1) := by decide +kernel
theorem dX7_go_179 : decode cX7_go 179 = .ok (.i2l, 1) := by decide +kernel
theorem dX7_go_180 : decode cX7_go 180 = .ok (.lconst 0, 1) := by decide +kernel
theorem dX7_go_181 : decode cX7_go 181 = .ok (.ldc2_w 60, 3) := by decide +kernel
theorem dX7_go_184 : decode cX7_go 184 = .ok (.invokestatic 43, 3) := by decide +kernel
theorem dX7_go_187 : decode cX7_go 187 = .ok (.ireturn, 1) := by decide +kernel
theorem dX7_go_188 : decode cX7_go 188 = .ok (.iconst 0, 1) := by decide +kernel
theorem dX7_go_189 : decode cX7_go 189 = .ok (.ireturn, 1) := by decide +kernel
set_option maxRecDepth 20000 in
theorem ggX7_faultOf_X7_go : GoodIn wsX7_faultOf wsX7_go := goodIn_r _ [9, 2, 10, 1, 11, 12, 13, 14, 8, 15, 16, 17, 18, 19, 20, 21, 22, 23, 24, 25, 26, 27, 28, 29, 30, 31, 32, 33, 34, 35, 36, 37, 38, 39, 40, 41, 42, 43, 44, 45, 46, 47, 48] (by decide +kernel) (by decide +kernel)
set_option maxRecDepth 20000 in
theorem gX7_faultOf_X7_go : GoodIn wsX7_faultOf (wsV RX7 65 RX7 yX7_go wsX7_go) := goodIn_app (goodIn_of _ (by decide +kernel)) ggX7_faultOf_X7_go
theorem dX7_faultOf_0 : decode cX7_faultOf 0 = .ok (.aload_n 0, 1) := by decide +kernel
theorem dX7_faultOf_1 : decode cX7_faultOf 1 = .ok (.iconst 0, 1) := by decide +kernel
theorem dX7_faultOf_2 : decode cX7_faultOf 2 = .ok (.putfield 53, 3) := by decide +kernel
theorem dX7_faultOf_5 : decode cX7_faultOf 5 = .ok (.aload_n 0, 1) := by decide +kernel
theorem dX7_faultOf_6 : decode cX7_faultOf 6 = .ok (.iconst 0, 1) := by decide +kernel
theorem dX7_faultOf_7 : decode cX7_faultOf 7 = .ok (.putfield 50, 3) := by decide +kernel
theorem dX7_faultOf_10 : decode cX7_faultOf 10 = .ok (.iconst 0, 1) := by decide +kernel
theorem dX7_faultOf_11 : decode cX7_faultOf 11 = .ok (.istore_n 1, 1) := by decide +kernel
theorem dX7_faultOf_12 : decode cX7_faultOf 12 = .ok (.iload_n 1, 1) := by decide +kernel
theorem dX7_faultOf_13 : decode cX7_faultOf 13 = .ok (.aload_n 0, 1) := by decide +kernel
theorem dX7_faultOf_14 : decode cX7_faultOf 14 = .ok (.getfield 47, 3) := by decide +kernel
theorem dX7_faultOf_17 : decode cX7_faultOf 17 = .ok (.if_icmp .ge 22, 3) := by decide +kernel
theorem dX7_faultOf_20 : decode cX7_faultOf 20 = .ok (.aload_n 0, 1) := by decide +kernel
theorem dX7_faultOf_21 : decode cX7_faultOf 21 = .ok (.aload_n 0, 1) := by decide +kernel
theorem dX7_faultOf_22 : decode cX7_faultOf 22 = .ok (.getfield 7, 3) := by decide +kernel
theorem dX7_faultOf_25 : decode cX7_faultOf 25 = .ok (.iload_n 1, 1) := by decide +kernel
theorem dX7_faultOf_26 : decode cX7_faultOf 26 = .ok (.iaload, 1) := by decide +kernel
theorem dX7_faultOf_27 : decode cX7_faultOf 27 = .ok (.invokevirtual 65, 3) := by decide +kernel
theorem dX7_faultOf_30 : decode cX7_faultOf 30 = .ok (.ifCond .eq 9, 3) := by decide +kernel
theorem dX7_faultOf_33 : decode cX7_faultOf 33 = .ok (.iinc 1 1, 3) := by decide +kernel
theorem dX7_faultOf_36 : decode cX7_faultOf 36 = .ok (.goto (-24), 3) := by decide +kernel
theorem dX7_faultOf_39 : decode cX7_faultOf 39 = .ok (.iload_n 1, 1) := by decide +kernel
theorem dX7_faultOf_40 : decode cX7_faultOf 40 = .ok (.ireturn, 1) := by decide +kernel
set_option maxRecDepth 20000 in
theorem ggX7_fault_X7_faultOf : GoodIn wsX7_fault wsX7_faultOf := goodIn_r _ [5, 6, 7, 8, 9, 10, 11, 12, 4, 13, 14, 15, 16, 17, 18, 19, 20, 21, 22, 23, 24, 25, 26, 27, 28, 29, 30, 31, 32, 33, 34, 35, 36, 37, 38, 39, 40, 41, 42, 43, 44, 45, 46, 47, 48, 49, 50, 51, 52] (by decide +kernel) (by decide +kernel)
set_option maxRecDepth 20000 in
theorem gX7_fault_X7_faultOf : GoodIn wsX7_fault (wsV RX7 69 RX7 yX7_faultOf wsX7_faultOf) := goodIn_app (goodIn_of _ (by decide +kernel)) ggX7_fault_X7_faultOf
theorem dX7_fault_0 : decode cX7_fault 0 = .ok (.aload_n 0, 1) := by decide +kernel
theorem dX7_fault_1 : decode cX7_fault 1 = .ok (.invokevirtual 69, 3) := by decide +kernel
theorem dX7_fault_4 : decode cX7_fault 4 = .ok (.ireturn, 1) := by decide +kernel
set_option maxRecDepth 20000 in
theorem ggX7_player_X7_faultOf : GoodIn wsX7_player wsX7_faultOf := goodIn_r _ [18, 3, 2, 1, 19, 20, 21, 22, 17, 23, 6, 24, 7, 25, 26, 27, 28, 29, 30, 35, 36, 37, 38, 39, 40, 41, 42, 43, 44, 45, 46, 47, 48, 49, 50, 51, 52, 53, 54, 55, 56, 57, 58, 59, 60, 61, 62, 63, 64] (by decide +kernel) (by decide +kernel)
set_option maxRecDepth 20000 in
theorem gX7_player_X7_faultOf : GoodIn wsX7_player (wsV RX7 69 RX7 yX7_faultOf wsX7_faultOf) := goodIn_app (goodIn_of _ (by decide +kernel)) ggX7_player_X7_faultOf
set_option maxRecDepth 20000 in
theorem ggX7_player_X7_all : GoodIn wsX7_player wsX7_all := goodIn_r _ [34, 4, 35, 36, 37, 38, 39, 40, 41, 42, 43, 44, 45, 46, 47, 48, 49, 50, 51, 52, 53, 54, 55, 56, 57, 58, 59, 60, 61, 62, 63, 64] (by decide +kernel) (by decide +kernel)
set_option maxRecDepth 20000 in
theorem gX7_player_X7_all : GoodIn wsX7_player (wsV RX7 79 RX7 yX7_all wsX7_all) := goodIn_app (goodIn_of _ (by decide +kernel)) ggX7_player_X7_all
theorem dX7_player_0 : decode cX7_player 0 = .ok (.aload_n 0, 1) := by decide +kernel
theorem dX7_player_1 : decode cX7_player 1 = .ok (.invokevirtual 69, 3) := by decide +kernel
theorem dX7_player_4 : decode cX7_player 4 = .ok (.aload_n 0, 1) := by decide +kernel
theorem dX7_player_5 : decode cX7_player 5 = .ok (.getfield 47, 3) := by decide +kernel
theorem dX7_player_8 : decode cX7_player 8 = .ok (.if_icmp .lt 11, 3) := by decide +kernel
theorem dX7_player_11 : decode cX7_player 11 = .ok (.aload_n 0, 1) := by decide +kernel
theorem dX7_player_12 : decode cX7_player 12 = .ok (.getfield 50, 3) := by decide +kernel
theorem dX7_player_15 : decode cX7_player 15 = .ok (.iconst 4, 1) := by decide +kernel
theorem dX7_player_16 : decode cX7_player 16 = .ok (.if_icmp .eq 6, 3) := by decide +kernel
theorem dX7_player_19 : decode cX7_player 19 = .ok (.bipush (-103), 2) := by decide +kernel
theorem dX7_player_21 : decode cX7_player 21 = .ok (.ireturn, 1) := by decide +kernel
theorem dX7_player_22 : decode cX7_player 22 = .ok (.aload_n 0, 1) := by decide +kernel
theorem dX7_player_23 : decode cX7_player 23 = .ok (.aload_n 0, 1) := by decide +kernel
theorem dX7_player_24 : decode cX7_player 24 = .ok (.getfield 53, 3) := by decide +kernel
theorem dX7_player_27 : decode cX7_player 27 = .ok (.putfield 73, 3) := by decide +kernel
theorem dX7_player_30 : decode cX7_player 30 = .ok (.iconst 0, 1) := by decide +kernel
theorem dX7_player_31 : decode cX7_player 31 = .ok (.istore_n 1, 1) := by decide +kernel
theorem dX7_player_32 : decode cX7_player 32 = .ok (.iload_n 1, 1) := by decide +kernel
theorem dX7_player_33 : decode cX7_player 33 = .ok (.aload_n 0, 1) := by decide +kernel
theorem dX7_player_34 : decode cX7_player 34 = .ok (.getfield 73, 3) := by decide +kernel
theorem dX7_player_37 : decode cX7_player 37 = .ok (.if_icmp .ge 67, 3) := by decide +kernel
theorem dX7_player_40 : decode cX7_player 40 = .ok (.aload_n 0, 1) := by decide +kernel
theorem dX7_player_41 : decode cX7_player 41 = .ok (.getfield 16, 3) := by decide +kernel
theorem dX7_player_44 : decode cX7_player 44 = .ok (.iconst 4, 1) := by decide +kernel
theorem dX7_player_45 : decode cX7_player 45 = .ok (.iload_n 1, 1) := by decide +kernel
theorem dX7_player_46 : decode cX7_player 46 = .ok (.imul, 1) := by decide +kernel
theorem dX7_player_47 : decode cX7_player 47 = .ok (.aload_n 0, 1) := by decide +kernel
theorem dX7_player_48 : decode cX7_player 48 = .ok (.getfield 13, 3) := by decide +kernel
theorem dX7_player_51 : decode cX7_player 51 = .ok (.iconst 2, 1) := by decide +kernel
theorem dX7_player_52 : decode cX7_player 52 = .ok (.iload_n 1, 1) := by decide +kernel
theorem dX7_player_53 : decode cX7_player 53 = .ok (.imul, 1) := by decide +kernel
theorem dX7_player_54 : decode cX7_player 54 = .ok (.iaload, 1) := by decide +kernel
theorem dX7_player_55 : decode cX7_player 55 = .ok (.iastore, 1) := by decide +kernel
theorem dX7_player_56 : decode cX7_player 56 = .ok (.aload_n 0, 1) := by decide +kernel
theorem dX7_player_57 : decode cX7_player 57 = .ok (.getfield 16, 3) := by decide +kernel
theorem dX7_player_60 : decode cX7_player 60 = .ok (.iconst 4, 1) := by decide +kernel
theorem dX7_player_61 : decode cX7_player 61 = .ok (.iload_n 1, 1) := by decide +kernel
theorem dX7_player_62 : decode cX7_player 62 = .ok (.imul, 1) := by decide +kernel
theorem dX7_player_63 : decode cX7_player 63 = .ok (.iconst 1, 1) := by decide +kernel
theorem dX7_player_64 : decode cX7_player 64 = .ok (.iadd, 1) := by decide +kernel
theorem dX7_player_65 : decode cX7_player 65 = .ok (.aload_n 0, 1) := by decide +kernel
theorem dX7_player_66 : decode cX7_player 66 = .ok (.getfield 13, 3) := by decide +kernel
theorem dX7_player_69 : decode cX7_player 69 = .ok (.iconst 2, 1) := by decide +kernel
theorem dX7_player_70 : decode cX7_player 70 = .ok (.iload_n 1, 1) := by decide +kernel
theorem dX7_player_71 : decode cX7_player 71 = .ok (.imul, 1) := by decide +kernel
theorem dX7_player_72 : decode cX7_player 72 = .ok (.iconst 1, 1) := by decide +kernel
theorem dX7_player_73 : decode cX7_player 73 = .ok (.iadd, 1) := by decide +kernel
theorem dX7_player_74 : decode cX7_player 74 = .ok (.iaload, 1) := by decide +kernel
theorem dX7_player_75 : decode cX7_player 75 = .ok (.iastore, 1) := by decide +kernel
theorem dX7_player_76 : decode cX7_player 76 = .ok (.aload_n 0, 1) := by decide +kernel
theorem dX7_player_77 : decode cX7_player 77 = .ok (.getfield 16, 3) := by decide +kernel
theorem dX7_player_80 : decode cX7_player 80 = .ok (.iconst 4, 1) := by decide +kernel
theorem dX7_player_81 : decode cX7_player 81 = .ok (.iload_n 1, 1) := by decide +kernel
theorem dX7_player_82 : decode cX7_player 82 = .ok (.imul, 1) := by decide +kernel
theorem dX7_player_83 : decode cX7_player 83 = .ok (.iconst 2, 1) := by decide +kernel
theorem dX7_player_84 : decode cX7_player 84 = .ok (.iadd, 1) := by decide +kernel
theorem dX7_player_85 : decode cX7_player 85 = .ok (.iconst 0, 1) := by decide +kernel
theorem dX7_player_86 : decode cX7_player 86 = .ok (.iastore, 1) := by decide +kernel
theorem dX7_player_87 : decode cX7_player 87 = .ok (.aload_n 0, 1) := by decide +kernel
theorem dX7_player_88 : decode cX7_player 88 = .ok (.getfield 16, 3) := by decide +kernel
theorem dX7_player_91 : decode cX7_player 91 = .ok (.iconst 4, 1) := by decide +kernel
theorem dX7_player_92 : decode cX7_player 92 = .ok (.iload_n 1, 1) := by decide +kernel
theorem dX7_player_93 : decode cX7_player 93 = .ok (.imul, 1) := by decide +kernel
theorem dX7_player_94 : decode cX7_player 94 = .ok (.iconst 3, 1) := by decide +kernel
theorem dX7_player_95 : decode cX7_player 95 = .ok (.iadd, 1) := by decide +kernel
theorem dX7_player_96 : decode cX7_player 96 = .ok (.iconst 0, 1) := by decide +kernel
theorem dX7_player_97 : decode cX7_player 97 = .ok (.iastore, 1) := by decide +kernel
theorem dX7_player_98 : decode cX7_player 98 = .ok (.iinc 1 1, 3) := by decide +kernel
theorem dX7_player_101 : decode cX7_player 101 = .ok (.goto (-69), 3) := by decide +kernel
theorem dX7_player_104 : decode cX7_player 104 = .ok (.aload_n 0, 1) := by decide +kernel
theorem dX7_player_105 : decode cX7_player 105 = .ok (.aload_n 0, 1) := by decide +kernel
theorem dX7_player_106 : decode cX7_player 106 = .ok (.getfield 62, 3) := by decide +kernel
theorem dX7_player_109 : decode cX7_player 109 = .ok (.putfield 76, 3) := by decide +kernel
theorem dX7_player_112 : decode cX7_player 112 = .ok (.aload_n 0, 1) := by decide +kernel
theorem dX7_player_113 : decode cX7_player 113 = .ok (.aload_n 0, 1) := by decide +kernel
theorem dX7_player_114 : decode cX7_player 114 = .ok (.invokevirtual 79, 3) := by decide +kernel
theorem dX7_player_117 : decode cX7_player 117 = .ok (.putfield 82, 3) := by decide +kernel
theorem dX7_player_120 : decode cX7_player 120 = .ok (.aload_n 0, 1) := by decide +kernel
theorem dX7_player_121 : decode cX7_player 121 = .ok (.iconst (-1), 1) := by decide +kernel
theorem dX7_player_122 : decode cX7_player 122 = .ok (.putfield 38, 3) := by decide +kernel
theorem dX7_player_125 : decode cX7_player 125 = .ok (.aload_n 0, 1) := by decide +kernel
theorem dX7_player_126 : decode cX7_player 126 = .ok (.iconst 0, 1) := by decide +kernel
theorem dX7_player_127 : decode cX7_player 127 = .ok (.putfield 85, 3) := by decide +kernel
theorem dX7_player_130 : decode cX7_player 130 = .ok (.aload_n 0, 1) := by decide +kernel
theorem dX7_player_131 : decode cX7_player 131 = .ok (.iconst 0, 1) := by decide +kernel
theorem dX7_player_132 : decode cX7_player 132 = .ok (.putfield 89, 3) := by decide +kernel
theorem dX7_player_135 : decode cX7_player 135 = .ok (.aload_n 0, 1) := by decide +kernel
theorem dX7_player_136 : decode cX7_player 136 = .ok (.dup, 1) := by decide +kernel
theorem dX7_player_137 : decode cX7_player 137 = .ok (.getfield 92, 3) := by decide +kernel
theorem dX7_player_140 : decode cX7_player 140 = .ok (.iconst 1, 1) := by decide +kernel
theorem dX7_player_141 : decode cX7_player 141 = .ok (.iadd, 1) := by decide +kernel
theorem dX7_player_142 : decode cX7_player 142 = .ok (.putfield 92, 3) := by decide +kernel
theorem dX7_player_145 : decode cX7_player 145 = .ok (.aload_n 0, 1) := by decide +kernel
theorem dX7_player_146 : decode cX7_player 146 = .ok (.iconst 0, 1) := by decide +kernel
theorem dX7_player_147 : decode cX7_player 147 = .ok (.putfield 47, 3) := by decide +kernel
theorem dX7_player_150 : decode cX7_player 150 = .ok (.aload_n 0, 1) := by decide +kernel
theorem dX7_player_151 : decode cX7_player 151 = .ok (.getfield 73, 3) := by decide +kernel
theorem dX7_player_154 : decode cX7_player 154 = .ok (.ireturn, 1) := by decide +kernel
theorem dX7_all_0 : decode cX7_all 0 = .ok (.iconst 1, 1) := by decide +kernel
theorem dX7_all_1 : decode cX7_all 1 = .ok (.aload_n 0, 1) := by decide +kernel
theorem dX7_all_2 : decode cX7_all 2 = .ok (.getfield 73, 3) := by decide +kernel
theorem dX7_all_5 : decode cX7_all 5 = .ok (.ishl, 1) := by decide +kernel
theorem dX7_all_6 : decode cX7_all 6 = .ok (.iconst 1, 1) := by decide +kernel
theorem dX7_all_7 : decode cX7_all 7 = .ok (.isub, 1) := by decide +kernel
theorem dX7_all_8 : decode cX7_all 8 = .ok (.ireturn, 1) := by decide +kernel
theorem dX7_lacks_0 : decode cX7_lacks 0 = .ok (.aload_n 0, 1) := by decide +kernel
theorem dX7_lacks_1 : decode cX7_lacks 1 = .ok (.getfield 73, 3) := by decide +kernel
theorem dX7_lacks_4 : decode cX7_lacks 4 = .ok (.ifCond .ne 7, 3) := by decide +kernel
theorem dX7_lacks_7 : decode cX7_lacks 7 = .ok (.iconst 1, 1) := by decide +kernel
theorem dX7_lacks_8 : decode cX7_lacks 8 = .ok (.goto 4, 3) := by decide +kernel
theorem dX7_lacks_11 : decode cX7_lacks 11 = .ok (.iconst 0, 1) := by decide +kernel
theorem dX7_lacks_12 : decode cX7_lacks 12 = .ok (.ireturn, 1) := by decide +kernel
set_option maxRecDepth 20000 in
theorem ggX7_isSong_X7_in : GoodIn wsX7_isSong wsX7_in := goodIn_r _ [5] (by decide +kernel) (by decide +kernel)
set_option maxRecDepth 20000 in
theorem gX7_isSong_X7_in : GoodIn wsX7_isSong (va_wsS RX7 43 yX7_in wsX7_in) := goodIn_app (goodIn_of _ (by decide +kernel)) ggX7_isSong_X7_in
theorem dX7_isSong_0 : decode cX7_isSong 0 = .ok (.iload_n 1, 1) := by decide +kernel
theorem dX7_isSong_1 : decode cX7_isSong 1 = .ok (.i2l, 1) := by decide +kernel
theorem dX7_isSong_2 : decode cX7_isSong 2 = .ok (.lconst 0, 1) := by decide +kernel
theorem dX7_isSong_3 : decode cX7_isSong 3 = .ok (.aload_n 0, 1) := by decide +kernel
theorem dX7_isSong_4 : decode cX7_isSong 4 = .ok (.getfield 73, 3) := by decide +kernel
theorem dX7_isSong_7 : decode cX7_isSong 7 = .ok (.iconst 1, 1) := by decide +kernel
theorem dX7_isSong_8 : decode cX7_isSong 8 = .ok (.isub, 1) := by decide +kernel
theorem dX7_isSong_9 : decode cX7_isSong 9 = .ok (.i2l, 1) := by decide +kernel
theorem dX7_isSong_10 : decode cX7_isSong 10 = .ok (.invokestatic 43, 3) := by decide +kernel
theorem dX7_isSong_13 : decode cX7_isSong 13 = .ok (.ireturn, 1) := by decide +kernel
theorem dX7_baseOf_0 : decode cX7_baseOf 0 = .ok (.aload_n 0, 1) := by decide +kernel
theorem dX7_baseOf_1 : decode cX7_baseOf 1 = .ok (.getfield 16, 3) := by decide +kernel
theorem dX7_baseOf_4 : decode cX7_baseOf 4 = .ok (.iconst 4, 1) := by decide +kernel
theorem dX7_baseOf_5 : decode cX7_baseOf 5 = .ok (.iload_n 1, 1) := by decide +kernel
theorem dX7_baseOf_6 : decode cX7_baseOf 6 = .ok (.imul, 1) := by decide +kernel
theorem dX7_baseOf_7 : decode cX7_baseOf 7 = .ok (.iaload, 1) := by decide +kernel
theorem dX7_baseOf_8 : decode cX7_baseOf 8 = .ok (.iconst 2, 1) := by decide +kernel
theorem dX7_baseOf_9 : decode cX7_baseOf 9 = .ok (.if_icmp .ne 7, 3) := by decide +kernel
theorem dX7_baseOf_12 : decode cX7_baseOf 12 = .ok (.iconst 2, 1) := by decide +kernel
theorem dX7_baseOf_13 : decode cX7_baseOf 13 = .ok (.goto 20, 3) := by decide +kernel
theorem dX7_baseOf_16 : decode cX7_baseOf 16 = .ok (.aload_n 0, 1) := by decide +kernel
theorem dX7_baseOf_17 : decode cX7_baseOf 17 = .ok (.getfield 16, 3) := by decide +kernel
theorem dX7_baseOf_20 : decode cX7_baseOf 20 = .ok (.iconst 4, 1) := by decide +kernel
theorem dX7_baseOf_21 : decode cX7_baseOf 21 = .ok (.iload_n 1, 1) := by decide +kernel
theorem dX7_baseOf_22 : decode cX7_baseOf 22 = .ok (.imul, 1) := by decide +kernel
theorem dX7_baseOf_23 : decode cX7_baseOf 23 = .ok (.iaload, 1) := by decide +kernel
theorem dX7_baseOf_24 : decode cX7_baseOf 24 = .ok (.iconst 4, 1) := by decide +kernel
theorem dX7_baseOf_25 : decode cX7_baseOf 25 = .ok (.if_icmp .ne 7, 3) := by decide +kernel
theorem dX7_baseOf_28 : decode cX7_baseOf 28 = .ok (.iconst 3, 1) := by decide +kernel
theorem dX7_baseOf_29 : decode cX7_baseOf 29 = .ok (.goto 4, 3) := by decide +kernel
theorem dX7_baseOf_32 : decode cX7_baseOf 32 = .ok (.iconst 1, 1) := by decide +kernel
theorem dX7_baseOf_33 : decode cX7_baseOf 33 = .ok (.ireturn, 1) := by decide +kernel
set_option maxRecDepth 20000 in
theorem ggX7_weightOf_X7_baseOf : GoodIn wsX7_weightOf wsX7_baseOf := goodIn_r _ [6, 1, 7, 8, 9, 10, 11, 12, 13, 14, 15, 16, 17, 18, 19, 20, 21, 22, 23, 24, 25, 26, 27, 28, 29, 30, 31, 32, 33, 34, 35, 36] (by decide +kernel) (by decide +kernel)
set_option maxRecDepth 20000 in
theorem gX7_weightOf_X7_baseOf : GoodIn wsX7_weightOf (wsV RX7 95 RX7 yX7_baseOf wsX7_baseOf) := goodIn_app (goodIn_of _ (by decide +kernel)) ggX7_weightOf_X7_baseOf
theorem dX7_weightOf_0 : decode cX7_weightOf 0 = .ok (.aload_n 0, 1) := by decide +kernel
theorem dX7_weightOf_1 : decode cX7_weightOf 1 = .ok (.iload_n 1, 1) := by decide +kernel
theorem dX7_weightOf_2 : decode cX7_weightOf 2 = .ok (.invokevirtual 95, 3) := by decide +kernel
theorem dX7_weightOf_5 : decode cX7_weightOf 5 = .ok (.aload_n 0, 1) := by decide +kernel
theorem dX7_weightOf_6 : decode cX7_weightOf 6 = .ok (.getfield 16, 3) := by decide +kernel
theorem dX7_weightOf_9 : decode cX7_weightOf 9 = .ok (.iconst 4, 1) := by decide +kernel
theorem dX7_weightOf_10 : decode cX7_weightOf 10 = .ok (.iload_n 1, 1) := by decide +kernel
theorem dX7_weightOf_11 : decode cX7_weightOf 11 = .ok (.imul, 1) := by decide +kernel
theorem dX7_weightOf_12 : decode cX7_weightOf 12 = .ok (.iconst 3, 1) := by decide +kernel
theorem dX7_weightOf_13 : decode cX7_weightOf 13 = .ok (.iadd, 1) := by decide +kernel
theorem dX7_weightOf_14 : decode cX7_weightOf 14 = .ok (.iaload, 1) := by decide +kernel
theorem dX7_weightOf_15 : decode cX7_weightOf 15 = .ok (.isub, 1) := by decide +kernel
theorem dX7_weightOf_16 : decode cX7_weightOf 16 = .ok (.istore_n 2, 1) := by decide +kernel
theorem dX7_weightOf_17 : decode cX7_weightOf 17 = .ok (.iload_n 2, 1) := by decide +kernel
theorem dX7_weightOf_18 : decode cX7_weightOf 18 = .ok (.ifCond .ge 7, 3) := by decide +kernel
theorem dX7_weightOf_21 : decode cX7_weightOf 21 = .ok (.iconst 0, 1) := by decide +kernel
theorem dX7_weightOf_22 : decode cX7_weightOf 22 = .ok (.goto 4, 3) := by decide +kernel
theorem dX7_weightOf_25 : decode cX7_weightOf 25 = .ok (.iload_n 2, 1) := by decide +kernel
theorem dX7_weightOf_26 : decode cX7_weightOf 26 = .ok (.ireturn, 1) := by decide +kernel
theorem dX7_minutesOf_0 : decode cX7_minutesOf 0 = .ok (.aload_n 0, 1) := by decide +kernel
theorem dX7_minutesOf_1 : decode cX7_minutesOf 1 = .ok (.getfield 16, 3) := by decide +kernel
theorem dX7_minutesOf_4 : decode cX7_minutesOf 4 = .ok (.iconst 4, 1) := by decide +kernel
theorem dX7_minutesOf_5 : decode cX7_minutesOf 5 = .ok (.iload_n 1, 1) := by decide +kernel
theorem dX7_minutesOf_6 : decode cX7_minutesOf 6 = .ok (.imul, 1) := by decide +kernel
theorem dX7_minutesOf_7 : decode cX7_minutesOf 7 = .ok (.iaload, 1) := by decide +kernel
theorem dX7_minutesOf_8 : decode cX7_minutesOf 8 = .ok (.iconst 1, 1) := by decide +kernel
theorem dX7_minutesOf_9 : decode cX7_minutesOf 9 = .ok (.if_icmp .ne 8, 3) := by decide +kernel
theorem dX7_minutesOf_12 : decode cX7_minutesOf 12 = .ok (.bipush 7, 2) := by decide +kernel
theorem dX7_minutesOf_14 : decode cX7_minutesOf 14 = .ok (.goto 4, 3) := by decide +kernel
theorem dX7_minutesOf_17 : decode cX7_minutesOf 17 = .ok (.iconst 3, 1) := by decide +kernel
theorem dX7_minutesOf_18 : decode cX7_minutesOf 18 = .ok (.ireturn, 1) := by decide +kernel
set_option maxRecDepth 20000 in
theorem ggX7_mayBy_X7_all : GoodIn wsX7_mayBy wsX7_all := goodIn_r _ [7, 1, 8, 9, 10, 11, 12, 13, 14, 15, 16, 17, 18, 19, 20, 21, 22, 23, 24, 25, 26, 27, 28, 29, 30, 31, 32, 33, 34, 35, 36, 37] (by decide +kernel) (by decide +kernel)
set_option maxRecDepth 20000 in
theorem gX7_mayBy_X7_all : GoodIn wsX7_mayBy (wsV RX7 79 RX7 yX7_all wsX7_all) := goodIn_app (goodIn_of _ (by decide +kernel)) ggX7_mayBy_X7_all
theorem dX7_mayBy_0 : decode cX7_mayBy 0 = .ok (.iload_n 1, 1) := by decide +kernel
theorem dX7_mayBy_1 : decode cX7_mayBy 1 = .ok (.iconst 1, 1) := by decide +kernel
theorem dX7_mayBy_2 : decode cX7_mayBy 2 = .ok (.if_icmp .le 7, 3) := by decide +kernel
theorem dX7_mayBy_5 : decode cX7_mayBy 5 = .ok (.iload_n 2, 1) := by decide +kernel
theorem dX7_mayBy_6 : decode cX7_mayBy 6 = .ok (.goto 7, 3) := by decide +kernel
theorem dX7_mayBy_9 : decode cX7_mayBy 9 = .ok (.aload_n 0, 1) := by decide +kernel
theorem dX7_mayBy_10 : decode cX7_mayBy 10 = .ok (.invokevirtual 79, 3) := by decide +kernel
theorem dX7_mayBy_13 : decode cX7_mayBy 13 = .ok (.istore 4, 2) := by decide +kernel
theorem dX7_mayBy_15 : decode cX7_mayBy 15 = .ok (.iload_n 1, 1) := by decide +kernel
theorem dX7_mayBy_16 : decode cX7_mayBy 16 = .ok (.iconst 2, 1) := by decide +kernel
theorem dX7_mayBy_17 : decode cX7_mayBy 17 = .ok (.irem, 1) := by decide +kernel
theorem dX7_mayBy_18 : decode cX7_mayBy 18 = .ok (.ifCond .eq 8, 3) := by decide +kernel
theorem dX7_mayBy_21 : decode cX7_mayBy 21 = .ok (.iload_n 3, 1) := by decide +kernel
theorem dX7_mayBy_22 : decode cX7_mayBy 22 = .ok (.iconst (-1), 1) := by decide +kernel
theorem dX7_mayBy_23 : decode cX7_mayBy 23 = .ok (.if_icmp .ne 6, 3) := by decide +kernel
theorem dX7_mayBy_26 : decode cX7_mayBy 26 = .ok (.iload 4, 2) := by decide +kernel
theorem dX7_mayBy_28 : decode cX7_mayBy 28 = .ok (.ireturn, 1) := by decide +kernel
theorem dX7_mayBy_29 : decode cX7_mayBy 29 = .ok (.iconst 0, 1) := by decide +kernel
theorem dX7_mayBy_30 : decode cX7_mayBy 30 = .ok (.istore 5, 2) := by decide +kernel
theorem dX7_mayBy_32 : decode cX7_mayBy 32 = .ok (.iconst 0, 1) := by decide +kernel
theorem dX7_mayBy_33 : decode cX7_mayBy 33 = .ok (.istore 6, 2) := by decide +kernel
theorem dX7_mayBy_35 : decode cX7_mayBy 35 = .ok (.iload 6, 2) := by decide +kernel
theorem dX7_mayBy_37 : decode cX7_mayBy 37 = .ok (.aload_n 0, 1) := by decide +kernel
theorem dX7_mayBy_38 : decode cX7_mayBy 38 = .ok (.getfield 73, 3) := by decide +kernel
theorem dX7_mayBy_41 : decode cX7_mayBy 41 = .ok (.if_icmp .ge 74, 3) := by decide +kernel
theorem dX7_mayBy_44 : decode cX7_mayBy 44 = .ok (.aload_n 0, 1) := by decide +kernel
theorem dX7_mayBy_45 : decode cX7_mayBy 45 = .ok (.getfield 16, 3) := by decide +kernel
theorem dX7_mayBy_48 : decode cX7_mayBy 48 = .ok (.iconst 4, 1) := by decide +kernel
theorem dX7_mayBy_49 : decode cX7_mayBy 49 = .ok (.iload 6, 2) := by decide +kernel
theorem dX7_mayBy_51 : decode cX7_mayBy 51 = .ok (.imul, 1) := by decide +kernel
theorem dX7_mayBy_52 : decode cX7_mayBy 52 = .ok (.iaload, 1) := by decide +kernel
theorem dX7_mayBy_53 : decode cX7_mayBy 53 = .ok (.iconst 3, 1) := by decide +kernel
theorem dX7_mayBy_54 : decode cX7_mayBy 54 = .ok (.if_icmp .eq 27, 3) := by decide +kernel
theorem dX7_mayBy_57 : decode cX7_mayBy 57 = .ok (.aload_n 0, 1) := by decide +kernel
theorem dX7_mayBy_58 : decode cX7_mayBy 58 = .ok (.getfield 16, 3) := by decide +kernel
theorem dX7_mayBy_61 : decode cX7_mayBy 61 = .ok (.iconst 4, 1) := by decide +kernel
theorem dX7_mayBy_62 : decode cX7_mayBy 62 = .ok (.iload 6, 2) := by decide +kernel
theorem dX7_mayBy_64 : decode cX7_mayBy 64 = .ok (.imul, 1) := by decide +kernel
theorem dX7_mayBy_65 : decode cX7_mayBy 65 = .ok (.iconst 1, 1) := by decide +kernel
theorem dX7_mayBy_66 : decode cX7_mayBy 66 = .ok (.iadd, 1) := by decide +kernel
theorem dX7_mayBy_67 : decode cX7_mayBy 67 = .ok (.iaload, 1) := by decide +kernel
theorem dX7_mayBy_68 : decode cX7_mayBy 68 = .ok (.aload_n 0, 1) := by decide +kernel
theorem dX7_mayBy_69 : decode cX7_mayBy 69 = .ok (.getfield 16, 3) := by decide +kernel
theorem dX7_mayBy_72 : decode cX7_mayBy 72 = .ok (.iconst 4, 1) := by decide +kernel
theorem dX7_mayBy_73 : decode cX7_mayBy 73 = .ok (.iload_n 3, 1) := by decide +kernel
theorem dX7_mayBy_74 : decode cX7_mayBy 74 = .ok (.imul, 1) := by decide +kernel
theorem dX7_mayBy_75 : decode cX7_mayBy 75 = .ok (.iconst 1, 1) := by decide +kernel
theorem dX7_mayBy_76 : decode cX7_mayBy 76 = .ok (.iadd, 1) := by decide +kernel
theorem dX7_mayBy_77 : decode cX7_mayBy 77 = .ok (.iaload, 1) := by decide +kernel
theorem dX7_mayBy_78 : decode cX7_mayBy 78 = .ok (.if_icmp .eq 7, 3) := by decide +kernel
theorem dX7_mayBy_81 : decode cX7_mayBy 81 = .ok (.iconst 1, 1) := by decide +kernel
theorem dX7_mayBy_82 : decode cX7_mayBy 82 = .ok (.goto 4, 3) := by decide +kernel
theorem dX7_mayBy_85 : decode cX7_mayBy 85 = .ok (.iconst 0, 1) := by decide +kernel
theorem dX7_mayBy_86 : decode cX7_mayBy 86 = .ok (.istore 7, 2) := by decide +kernel
theorem dX7_mayBy_88 : decode cX7_mayBy 88 = .ok (.iload 5, 2) := by decide +kernel
theorem dX7_mayBy_90 : decode cX7_mayBy 90 = .ok (.iload 7, 2) := by decide +kernel
theorem dX7_mayBy_92 : decode cX7_mayBy 92 = .ok (.ifCond .eq 13, 3) := by decide +kernel
theorem dX7_mayBy_95 : decode cX7_mayBy 95 = .ok (.iload 4, 2) := by decide +kernel
theorem dX7_mayBy_97 : decode cX7_mayBy 97 = .ok (.iconst 1, 1) := by decide +kernel
theorem dX7_mayBy_98 : decode cX7_mayBy 98 = .ok (.iload 6, 2) := by decide +kernel
theorem dX7_mayBy_100 : decode cX7_mayBy 100 = .ok (.ishl, 1) := by decide +kernel
theorem dX7_mayBy_101 : decode cX7_mayBy 101 = .ok (.iand, 1) := by decide +kernel
theorem dX7_mayBy_102 : decode cX7_mayBy 102 = .ok (.goto 4, 3) := by decide +kernel
theorem dX7_mayBy_105 : decode cX7_mayBy 105 = .ok (.iconst 0, 1) := by decide +kernel
theorem dX7_mayBy_106 : decode cX7_mayBy 106 = .ok (.ior, 1) := by decide +kernel
theorem dX7_mayBy_107 : decode cX7_mayBy 107 = .ok (.istore 5, 2) := by decide +kernel
theorem dX7_mayBy_109 : decode cX7_mayBy 109 = .ok (.iinc 6 1, 3) := by decide +kernel
theorem dX7_mayBy_112 : decode cX7_mayBy 112 = .ok (.goto (-77), 3) := by decide +kernel
theorem dX7_mayBy_115 : decode cX7_mayBy 115 = .ok (.iload 5, 2) := by decide +kernel
theorem dX7_mayBy_117 : decode cX7_mayBy 117 = .ok (.ifCond .ne 8, 3) := by decide +kernel
theorem dX7_mayBy_120 : decode cX7_mayBy 120 = .ok (.iload 4, 2) := by decide +kernel
theorem dX7_mayBy_122 : decode cX7_mayBy 122 = .ok (.goto 5, 3) := by decide +kernel
theorem dX7_mayBy_125 : decode cX7_mayBy 125 = .ok (.iload 5, 2) := by decide +kernel
theorem dX7_mayBy_127 : decode cX7_mayBy 127 = .ok (.ireturn, 1) := by decide +kernel
set_option maxRecDepth 20000 in
theorem ggX7_bagBehind_X7_all : GoodIn wsX7_bagBehind wsX7_all := goodIn_r _ [5, 6, 7, 8, 9, 10, 11, 12, 13, 14, 15, 16, 17, 18, 19, 20, 21, 22, 23, 24, 25, 26, 27, 28, 29, 30, 31, 32, 33, 34, 35, 36] (by decide +kernel) (by decide +kernel)
set_option maxRecDepth 20000 in
theorem gX7_bagBehind_X7_all : GoodIn wsX7_bagBehind (wsV RX7 79 RX7 yX7_all wsX7_all) := goodIn_app (goodIn_of _ (by decide +kernel)) ggX7_bagBehind_X7_all
theorem dX7_bagBehind_0 : decode cX7_bagBehind 0 = .ok (.iload_n 1, 1) := by decide +kernel
theorem dX7_bagBehind_1 : decode cX7_bagBehind 1 = .ok (.iconst 1, 1) := by decide +kernel
theorem dX7_bagBehind_2 : decode cX7_bagBehind 2 = .ok (.iload_n 2, 1) := by decide +kernel
theorem dX7_bagBehind_3 : decode cX7_bagBehind 3 = .ok (.ishl, 1) := by decide +kernel
theorem dX7_bagBehind_4 : decode cX7_bagBehind 4 = .ok (.iconst (-1), 1) := by decide +kernel
theorem dX7_bagBehind_5 : decode cX7_bagBehind 5 = .ok (.ixor, 1) := by decide +kernel
theorem dX7_bagBehind_6 : decode cX7_bagBehind 6 = .ok (.iand, 1) := by decide +kernel
theorem dX7_bagBehind_7 : decode cX7_bagBehind 7 = .ok (.istore_n 3, 1) := by decide +kernel
theorem dX7_bagBehind_8 : decode cX7_bagBehind 8 = .ok (.iload_n 3, 1) := by decide +kernel
theorem dX7_bagBehind_9 : decode cX7_bagBehind 9 = .ok (.ifCond .ne 10, 3) := by decide +kernel
theorem dX7_bagBehind_12 : decode cX7_bagBehind 12 = .ok (.aload_n 0, 1) := by decide +kernel
theorem dX7_bagBehind_13 : decode cX7_bagBehind 13 = .ok (.invokevirtual 79, 3) := by decide +kernel
theorem dX7_bagBehind_16 : decode cX7_bagBehind 16 = .ok (.goto 4, 3) := by decide +kernel
theorem dX7_bagBehind_19 : decode cX7_bagBehind 19 = .ok (.iload_n 3, 1) := by decide +kernel
theorem dX7_bagBehind_20 : decode cX7_bagBehind 20 = .ok (.ireturn, 1) := by decide +kernel
set_option maxRecDepth 20000 in
theorem ggX7_mayNow_X7_mayBy : GoodIn wsX7_mayNow wsX7_mayBy := goodIn_r _ [8, 9, 10, 11, 12, 13, 7, 14, 15, 16, 17, 18, 19, 20, 21, 22, 23, 24, 25, 26, 27, 28, 29, 30, 31, 32, 33, 34, 35, 36, 37, 38, 39, 40, 41, 42, 43, 44] (by decide +kernel) (by decide +kernel)
set_option maxRecDepth 20000 in
theorem gX7_mayNow_X7_mayBy : GoodIn wsX7_mayNow (wsV RX7 98 RX7 yX7_mayBy wsX7_mayBy) := goodIn_app (goodIn_of _ (by decide +kernel)) ggX7_mayNow_X7_mayBy
theorem dX7_mayNow_0 : decode cX7_mayNow 0 = .ok (.aload_n 0, 1) := by decide +kernel
theorem dX7_mayNow_1 : decode cX7_mayNow 1 = .ok (.aload_n 0, 1) := by decide +kernel
theorem dX7_mayNow_2 : decode cX7_mayNow 2 = .ok (.getfield 76, 3) := by decide +kernel
theorem dX7_mayNow_5 : decode cX7_mayNow 5 = .ok (.aload_n 0, 1) := by decide +kernel
theorem dX7_mayNow_6 : decode cX7_mayNow 6 = .ok (.getfield 82, 3) := by decide +kernel
theorem dX7_mayNow_9 : decode cX7_mayNow 9 = .ok (.aload_n 0, 1) := by decide +kernel
theorem dX7_mayNow_10 : decode cX7_mayNow 10 = .ok (.getfield 38, 3) := by decide +kernel
theorem dX7_mayNow_13 : decode cX7_mayNow 13 = .ok (.invokevirtual 98, 3) := by decide +kernel
theorem dX7_mayNow_16 : decode cX7_mayNow 16 = .ok (.ireturn, 1) := by decide +kernel
set_option maxRecDepth 20000 in
theorem ggX7_sumOf_X7_baseOf : GoodIn wsX7_sumOf wsX7_baseOf := goodIn_r _ [6, 7, 12, 13, 14, 15, 16, 17, 18, 19, 20, 21, 22, 23, 24, 25, 26, 27, 28, 29, 30, 31, 32, 33, 34, 35, 36, 37, 38, 39, 40, 41] (by decide +kernel) (by decide +kernel)
set_option maxRecDepth 20000 in
theorem gX7_sumOf_X7_baseOf : GoodIn wsX7_sumOf (wsV RX7 95 RX7 yX7_baseOf wsX7_baseOf) := goodIn_app (goodIn_of _ (by decide +kernel)) ggX7_sumOf_X7_baseOf
set_option maxRecDepth 20000 in
theorem ggX7_sumOf_X7_weightOf : GoodIn wsX7_sumOf wsX7_weightOf := goodIn_r _ [11, 7, 2, 3, 4, 5, 6, 12, 13, 14, 15, 16, 17, 18, 19, 20, 21, 22, 23, 24, 25, 26, 27, 28, 29, 30, 31, 32, 33, 34, 35, 36, 37, 38, 39, 40, 41] (by decide +kernel) (by decide +kernel)
set_option maxRecDepth 20000 in
theorem gX7_sumOf_X7_weightOf : GoodIn wsX7_sumOf (wsV RX7 102 RX7 yX7_weightOf wsX7_weightOf) := goodIn_app (goodIn_of _ (by decide +kernel)) ggX7_sumOf_X7_weightOf
theorem dX7_sumOf_0 : decode cX7_sumOf 0 = .ok (.iconst 0, 1) := by decide +kernel
theorem dX7_sumOf_1 : decode cX7_sumOf 1 = .ok (.istore_n 3, 1) := by decide +kernel
theorem dX7_sumOf_2 : decode cX7_sumOf 2 = .ok (.iconst 0, 1) := by decide +kernel
theorem dX7_sumOf_3 : decode cX7_sumOf 3 = .ok (.istore 4, 2) := by decide +kernel
theorem dX7_sumOf_5 : decode cX7_sumOf 5 = .ok (.iload 4, 2) := by decide +kernel
theorem dX7_sumOf_7 : decode cX7_sumOf 7 = .ok (.aload_n 0, 1) := by decide +kernel
theorem dX7_sumOf_8 : decode cX7_sumOf 8 = .ok (.getfield 73, 3) := by decide +kernel
theorem dX7_sumOf_11 : decode cX7_sumOf 11 = .ok (.if_icmp .ge 38, 3) := by decide +kernel
theorem dX7_sumOf_14 : decode cX7_sumOf 14 = .ok (.iload_n 3, 1) := by decide +kernel
theorem dX7_sumOf_15 : decode cX7_sumOf 15 = .ok (.iload_n 1, 1) := by decide +kernel
theorem dX7_sumOf_16 : decode cX7_sumOf 16 = .ok (.iload 4, 2) := by decide +kernel
theorem dX7_sumOf_18 : decode cX7_sumOf 18 = .ok (.ishr, 1) := by decide +kernel
theorem dX7_sumOf_19 : decode cX7_sumOf 19 = .ok (.iconst 1, 1) := by decide +kernel
theorem dX7_sumOf_20 : decode cX7_sumOf 20 = .ok (.iand, 1) := by decide +kernel
theorem dX7_sumOf_21 : decode cX7_sumOf 21 = .ok (.iload_n 2, 1) := by decide +kernel
theorem dX7_sumOf_22 : decode cX7_sumOf 22 = .ok (.ifCond .eq 12, 3) := by decide +kernel
theorem dX7_sumOf_25 : decode cX7_sumOf 25 = .ok (.aload_n 0, 1) := by decide +kernel
theorem dX7_sumOf_26 : decode cX7_sumOf 26 = .ok (.iload 4, 2) := by decide +kernel
theorem dX7_sumOf_28 : decode cX7_sumOf 28 = .ok (.invokevirtual 95, 3) := by decide +kernel
theorem dX7_sumOf_31 : decode cX7_sumOf 31 = .ok (.goto 9, 3) := by decide +kernel
theorem dX7_sumOf_34 : decode cX7_sumOf 34 = .ok (.aload_n 0, 1) := by decide +kernel
theorem dX7_sumOf_35 : decode cX7_sumOf 35 = .ok (.iload 4, 2) := by decide +kernel
theorem dX7_sumOf_37 : decode cX7_sumOf 37 = .ok (.invokevirtual 102, 3) := by decide +kernel
theorem dX7_sumOf_40 : decode cX7_sumOf 40 = .ok (.imul, 1) := by decide +kernel
theorem dX7_sumOf_41 : decode cX7_sumOf 41 = .ok (.iadd, 1) := by decide +kernel
theorem dX7_sumOf_42 : decode cX7_sumOf 42 = .ok (.istore_n 3, 1) := by decide +kernel
theorem dX7_sumOf_43 : decode cX7_sumOf 43 = .ok (.iinc 4 1, 3) := by decide +kernel
theorem dX7_sumOf_46 : decode cX7_sumOf 46 = .ok (.goto (-41), 3) := by decide +kernel
theorem dX7_sumOf_49 : decode cX7_sumOf 49 = .ok (.iload_n 3, 1) := by decide +kernel
theorem dX7_sumOf_50 : decode cX7_sumOf 50 = .ok (.ireturn, 1) := by decide +kernel
set_option maxRecDepth 20000 in
theorem ggX7_shareOf_X7_sumOf : GoodIn wsX7_shareOf wsX7_sumOf := goodIn_r _ [5, 6, 7, 8, 9, 4, 10, 11, 12, 13, 14, 15, 16, 17, 18, 19, 20, 21, 22, 23, 24, 25, 26, 27, 28, 29, 30, 31, 32, 33, 34, 35, 36, 37, 38, 39, 40, 41, 42, 43, 44, 45] (by decide +kernel) (by decide +kernel)
set_option maxRecDepth 20000 in
theorem gX7_shareOf_X7_sumOf : GoodIn wsX7_shareOf (wsV RX7 105 RX7 yX7_sumOf wsX7_sumOf) := goodIn_app (goodIn_of _ (by decide +kernel)) ggX7_shareOf_X7_sumOf
set_option maxRecDepth 20000 in
theorem ggX7_shareOf_X7_weightOf : GoodIn wsX7_shareOf wsX7_weightOf := goodIn_r _ [15, 11, 7, 8, 9, 4, 10, 16, 17, 18, 19, 20, 21, 22, 23, 24, 25, 26, 27, 28, 29, 30, 31, 32, 33, 34, 35, 36, 37, 38, 39, 40, 41, 42, 43, 44, 45] (by decide +kernel) (by decide +kernel)
set_option maxRecDepth 20000 in
theorem gX7_shareOf_X7_weightOf : GoodIn wsX7_shareOf (wsV RX7 102 RX7 yX7_weightOf wsX7_weightOf) := goodIn_app (goodIn_of _ (by decide +kernel)) ggX7_shareOf_X7_weightOf
theorem dX7_shareOf_0 : decode cX7_shareOf 0 = .ok (.iload_n 2, 1) := by decide +kernel
theorem dX7_shareOf_1 : decode cX7_shareOf 1 = .ok (.iload_n 1, 1) := by decide +kernel
theorem dX7_shareOf_2 : decode cX7_shareOf 2 = .ok (.ishr, 1) := by decide +kernel
theorem dX7_shareOf_3 : decode cX7_shareOf 3 = .ok (.iconst 1, 1) := by decide +kernel
theorem dX7_shareOf_4 : decode cX7_shareOf 4 = .ok (.iand, 1) := by decide +kernel
theorem dX7_shareOf_5 : decode cX7_shareOf 5 = .ok (.ifCond .ne 5, 3) := by decide +kernel
theorem dX7_shareOf_8 : decode cX7_shareOf 8 = .ok (.iconst 0, 1) := by decide +kernel
theorem dX7_shareOf_9 : decode cX7_shareOf 9 = .ok (.ireturn, 1) := by decide +kernel
theorem dX7_shareOf_10 : decode cX7_shareOf 10 = .ok (.aload_n 0, 1) := by decide +kernel
theorem dX7_shareOf_11 : decode cX7_shareOf 11 = .ok (.iload_n 2, 1) := by decide +kernel
theorem dX7_shareOf_12 : decode cX7_shareOf 12 = .ok (.iconst 0, 1) := by decide +kernel
theorem dX7_shareOf_13 : decode cX7_shareOf 13 = .ok (.invokevirtual 105, 3) := by decide +kernel
theorem dX7_shareOf_16 : decode cX7_shareOf 16 = .ok (.ifCond .ne 7, 3) := by decide +kernel
theorem dX7_shareOf_19 : decode cX7_shareOf 19 = .ok (.iconst 1, 1) := by decide +kernel
theorem dX7_shareOf_20 : decode cX7_shareOf 20 = .ok (.goto 8, 3) := by decide +kernel
theorem dX7_shareOf_23 : decode cX7_shareOf 23 = .ok (.aload_n 0, 1) := by decide +kernel
theorem dX7_shareOf_24 : decode cX7_shareOf 24 = .ok (.iload_n 1, 1) := by decide +kernel
theorem dX7_shareOf_25 : decode cX7_shareOf 25 = .ok (.invokevirtual 102, 3) := by decide +kernel
theorem dX7_shareOf_28 : decode cX7_shareOf 28 = .ok (.ireturn, 1) := by decide +kernel
set_option maxRecDepth 20000 in
theorem ggX7_sharesOf_X7_sumOf : GoodIn wsX7_sharesOf wsX7_sumOf := goodIn_r _ [5, 6, 7, 8, 9, 4, 10, 11, 12, 13, 14, 15, 19, 20, 21, 22, 23, 24, 25, 26, 27, 28, 29, 30, 31, 32, 33, 34, 35, 36, 37, 38, 39, 40, 41, 42, 43, 44, 45, 46, 47, 48] (by decide +kernel) (by decide +kernel)
set_option maxRecDepth 20000 in
theorem gX7_sharesOf_X7_sumOf : GoodIn wsX7_sharesOf (wsV RX7 105 RX7 yX7_sumOf wsX7_sumOf) := goodIn_app (goodIn_of _ (by decide +kernel)) ggX7_sharesOf_X7_sumOf
set_option maxRecDepth 20000 in
theorem ggX7_sharesOf_X7_ones : GoodIn wsX7_sharesOf wsX7_ones := goodIn_r _ [18] (by decide +kernel) (by decide +kernel)
set_option maxRecDepth 20000 in
theorem gX7_sharesOf_X7_ones : GoodIn wsX7_sharesOf (va_wsS RX7 109 yX7_ones wsX7_ones) := goodIn_app (goodIn_of _ (by decide +kernel)) ggX7_sharesOf_X7_ones
theorem dX7_sharesOf_0 : decode cX7_sharesOf 0 = .ok (.aload_n 0, 1) := by decide +kernel
theorem dX7_sharesOf_1 : decode cX7_sharesOf 1 = .ok (.iload_n 1, 1) := by decide +kernel
theorem dX7_sharesOf_2 : decode cX7_sharesOf 2 = .ok (.iconst 0, 1) := by decide +kernel
theorem dX7_sharesOf_3 : decode cX7_sharesOf 3 = .ok (.invokevirtual 105, 3) := by decide +kernel
theorem dX7_sharesOf_6 : decode cX7_sharesOf 6 = .ok (.istore_n 2, 1) := by decide +kernel
theorem dX7_sharesOf_7 : decode cX7_sharesOf 7 = .ok (.iload_n 2, 1) := by decide +kernel
theorem dX7_sharesOf_8 : decode cX7_sharesOf 8 = .ok (.ifCond .ne 10, 3) := by decide +kernel
theorem dX7_sharesOf_11 : decode cX7_sharesOf 11 = .ok (.iload_n 1, 1) := by decide +kernel
theorem dX7_sharesOf_12 : decode cX7_sharesOf 12 = .ok (.invokestatic 109, 3) := by decide +kernel
theorem dX7_sharesOf_15 : decode cX7_sharesOf 15 = .ok (.goto 4, 3) := by decide +kernel
theorem dX7_sharesOf_18 : decode cX7_sharesOf 18 = .ok (.iload_n 2, 1) := by decide +kernel
theorem dX7_sharesOf_19 : decode cX7_sharesOf 19 = .ok (.ireturn, 1) := by decide +kernel
set_option maxRecDepth 20000 in
theorem ggX7_chanceOf_X7_mayNow : GoodIn wsX7_chanceOf wsX7_mayNow := goodIn_r _ [5, 6, 7, 8, 9, 10, 11, 4, 12, 13, 14, 15, 16, 17, 18, 45, 46, 47, 48, 49, 50, 51, 52, 53, 54, 55, 56, 57, 58, 59, 60, 61, 62, 63, 64, 65, 66, 67, 68, 69, 70, 71, 72, 73, 74] (by decide +kernel) (by decide +kernel)
set_option maxRecDepth 20000 in
theorem gX7_chanceOf_X7_mayNow : GoodIn wsX7_chanceOf (wsV RX7 112 RX7 yX7_mayNow wsX7_mayNow) := goodIn_app (goodIn_of _ (by decide +kernel)) ggX7_chanceOf_X7_mayNow
set_option maxRecDepth 20000 in
theorem ggX7_chanceOf_X7_sharesOf : GoodIn wsX7_chanceOf wsX7_sharesOf := goodIn_r _ [22, 23, 24, 25, 4, 26, 13, 27, 28, 29, 30, 14, 31, 32, 33, 34, 35, 36, 37, 45, 46, 47, 48, 49, 50, 51, 52, 53, 54, 55, 56, 57, 58, 59, 60, 61, 62, 63, 64, 65, 66, 67, 68, 69, 70, 71, 72, 73, 74] (by decide +kernel) (by decide +kernel)
set_option maxRecDepth 20000 in
theorem gX7_chanceOf_X7_sharesOf : GoodIn wsX7_chanceOf (wsV RX7 115 RX7 yX7_sharesOf wsX7_sharesOf) := goodIn_app (goodIn_of _ (by decide +kernel)) ggX7_chanceOf_X7_sharesOf
set_option maxRecDepth 20000 in
theorem ggX7_chanceOf_X7_shareOf : GoodIn wsX7_chanceOf wsX7_shareOf := goodIn_r _ [41, 23, 24, 25, 4, 26, 13, 27, 28, 29, 30, 14, 31, 32, 33, 34, 45, 46, 47, 48, 49, 50, 51, 52, 53, 54, 55, 56, 57, 58, 59, 60, 61, 62, 63, 64, 65, 66, 67, 68, 69, 70, 71, 72, 73, 74] (by decide +kernel) (by decide +kernel)
set_option maxRecDepth 20000 in
theorem gX7_chanceOf_X7_shareOf : GoodIn wsX7_chanceOf (wsV RX7 118 RX7 yX7_shareOf wsX7_shareOf) := goodIn_app (goodIn_of _ (by decide +kernel)) ggX7_chanceOf_X7_shareOf
set_option maxRecDepth 20000 in
theorem ggX7_chanceOf_X7_common : GoodIn wsX7_chanceOf wsX7_common := goodIn_r _ [44] (by decide +kernel) (by decide +kernel)
set_option maxRecDepth 20000 in
theorem gX7_chanceOf_X7_common : GoodIn wsX7_chanceOf (va_wsS RX7 122 yX7_common wsX7_common) := goodIn_app (goodIn_of _ (by decide +kernel)) ggX7_chanceOf_X7_common
theorem dX7_chanceOf_0 : decode cX7_chanceOf 0 = .ok (.aload_n 0, 1) := by decide +kernel
theorem dX7_chanceOf_1 : decode cX7_chanceOf 1 = .ok (.invokevirtual 112, 3) := by decide +kernel
theorem dX7_chanceOf_4 : decode cX7_chanceOf 4 = .ok (.istore_n 3, 1) := by decide +kernel
theorem dX7_chanceOf_5 : decode cX7_chanceOf 5 = .ok (.aload_n 0, 1) := by decide +kernel
theorem dX7_chanceOf_6 : decode cX7_chanceOf 6 = .ok (.iload_n 3, 1) := by decide +kernel
theorem dX7_chanceOf_7 : decode cX7_chanceOf 7 = .ok (.invokevirtual 115, 3) := by decide +kernel
theorem dX7_chanceOf_10 : decode cX7_chanceOf 10 = .ok (.i2l, 1) := by decide +kernel
theorem dX7_chanceOf_11 : decode cX7_chanceOf 11 = .ok (.aload_n 0, 1) := by decide +kernel
theorem dX7_chanceOf_12 : decode cX7_chanceOf 12 = .ok (.iload_n 1, 1) := by decide +kernel
theorem dX7_chanceOf_13 : decode cX7_chanceOf 13 = .ok (.iload_n 3, 1) := by decide +kernel
theorem dX7_chanceOf_14 : decode cX7_chanceOf 14 = .ok (.invokevirtual 118, 3) := by decide +kernel
theorem dX7_chanceOf_17 : decode cX7_chanceOf 17 = .ok (.i2l, 1) := by decide +kernel
theorem dX7_chanceOf_18 : decode cX7_chanceOf 18 = .ok (.invokestatic 122, 3) := by decide +kernel
theorem dX7_chanceOf_21 : decode cX7_chanceOf 21 = .ok (.l2i, 1) := by decide +kernel
theorem dX7_chanceOf_22 : decode cX7_chanceOf 22 = .ok (.istore 4, 2) := by decide +kernel
theorem dX7_chanceOf_24 : decode cX7_chanceOf 24 = .ok (.iload_n 2, 1) := by decide +kernel
theorem dX7_chanceOf_25 : decode cX7_chanceOf 25 = .ok (.ifCond .ne 15, 3) := by decide +kernel
theorem dX7_chanceOf_28 : decode cX7_chanceOf 28 = .ok (.aload_n 0, 1) := by decide +kernel
theorem dX7_chanceOf_29 : decode cX7_chanceOf 29 = .ok (.iload_n 1, 1) := by decide +kernel
theorem dX7_chanceOf_30 : decode cX7_chanceOf 30 = .ok (.iload_n 3, 1) := by decide +kernel
theorem dX7_chanceOf_31 : decode cX7_chanceOf 31 = .ok (.invokevirtual 118, 3) := by decide +kernel
theorem dX7_chanceOf_34 : decode cX7_chanceOf 34 = .ok (.iload 4, 2) := by decide +kernel
theorem dX7_chanceOf_36 : decode cX7_chanceOf 36 = .ok (.idiv, 1) := by decide +kernel
theorem dX7_chanceOf_37 : decode cX7_chanceOf 37 = .ok (.goto 11, 3) := by decide +kernel
theorem dX7_chanceOf_40 : decode cX7_chanceOf 40 = .ok (.aload_n 0, 1) := by decide +kernel
theorem dX7_chanceOf_41 : decode cX7_chanceOf 41 = .ok (.iload_n 3, 1) := by decide +kernel
theorem dX7_chanceOf_42 : decode cX7_chanceOf 42 = .ok (.invokevirtual 115, 3) := by decide +kernel
theorem dX7_chanceOf_45 : decode cX7_chanceOf 45 = .ok (.iload 4, 2) := by decide +kernel
theorem dX7_chanceOf_47 : decode cX7_chanceOf 47 = .ok (.idiv, 1) := by decide +kernel
theorem dX7_chanceOf_48 : decode cX7_chanceOf 48 = .ok (.ireturn, 1) := by decide +kernel
set_option maxRecDepth 20000 in
theorem ggX7_tell_X7_weightOf : GoodIn wsX7_tell wsX7_weightOf := goodIn_r _ [7, 1, 8, 9, 10, 6, 11, 53, 54, 55, 56, 57, 58, 59, 60, 61, 62, 63, 64, 65, 66, 67, 68, 69, 70, 71, 72, 73, 74, 75, 76, 77, 78, 79, 80, 81, 82] (by decide +kernel) (by decide +kernel)
set_option maxRecDepth 20000 in
theorem gX7_tell_X7_weightOf : GoodIn wsX7_tell (wsV RX7 102 RX7 yX7_weightOf wsX7_weightOf) := goodIn_app (goodIn_of _ (by decide +kernel)) ggX7_tell_X7_weightOf
set_option maxRecDepth 20000 in
theorem ggX7_tell_X7_minutesOf : GoodIn wsX7_tell wsX7_minutesOf := goodIn_r _ [15, 1, 53, 54, 55, 56, 57, 58, 59, 60, 61, 62, 63, 64, 65, 66, 67, 68, 69, 70, 71, 72, 73, 74, 75, 76, 77, 78, 79, 80, 81, 82] (by decide +kernel) (by decide +kernel)
set_option maxRecDepth 20000 in
theorem gX7_tell_X7_minutesOf : GoodIn wsX7_tell (wsV RX7 126 RX7 yX7_minutesOf wsX7_minutesOf) := goodIn_app (goodIn_of _ (by decide +kernel)) ggX7_tell_X7_minutesOf
set_option maxRecDepth 20000 in
theorem ggX7_tell_X7_mayNow : GoodIn wsX7_tell wsX7_mayNow := goodIn_r _ [19, 20, 2, 21, 22, 23, 24, 6, 25, 26, 1, 27, 28, 29, 30, 53, 54, 55, 56, 57, 58, 59, 60, 61, 62, 63, 64, 65, 66, 67, 68, 69, 70, 71, 72, 73, 74, 75, 76, 77, 78, 79, 80, 81, 82] (by decide +kernel) (by decide +kernel)
set_option maxRecDepth 20000 in
theorem gX7_tell_X7_mayNow : GoodIn wsX7_tell (wsV RX7 112 RX7 yX7_mayNow wsX7_mayNow) := goodIn_app (goodIn_of _ (by decide +kernel)) ggX7_tell_X7_mayNow
set_option maxRecDepth 20000 in
theorem ggX7_tell_X7_chanceOf : GoodIn wsX7_tell wsX7_chanceOf := goodIn_r _ [34, 16, 17, 18, 6, 19, 20, 2, 21, 22, 23, 24, 25, 26, 1, 27, 28, 29, 30, 35, 36, 37, 38, 39, 40, 41, 42, 8, 9, 10, 11, 3, 4, 5, 7, 43, 44, 45, 46, 47, 48, 49, 50, 51, 52, 53, 54, 55, 56, 57, 58, 59, 60, 61, 62, 63, 64, 65, 66, 67, 68, 69, 70, 71, 72, 73, 74, 75, 76, 77, 78, 79, 80, 81, 82] (by decide +kernel) (by decide +kernel)
set_option maxRecDepth 20000 in
theorem gX7_tell_X7_chanceOf : GoodIn wsX7_tell (wsV RX7 129 RX7 yX7_chanceOf wsX7_chanceOf) := goodIn_app (goodIn_of _ (by decide +kernel)) ggX7_tell_X7_chanceOf
theorem dX7_tell_0 : decode cX7_tell 0 = .ok (.iload_n 2, 1) := by decide +kernel
theorem dX7_tell_1 : decode cX7_tell 1 = .ok (.tableswitch 119 0 9 #[55, 55, 66, 72, 78, 78, 91, 100, 109, 109], 55) := by decide +kernel
theorem dX7_tell_56 : decode cX7_tell 56 = .ok (.aload_n 0, 1) := by decide +kernel
theorem dX7_tell_57 : decode cX7_tell 57 = .ok (.getfield 16, 3) := by decide +kernel
theorem dX7_tell_60 : decode cX7_tell 60 = .ok (.iconst 4, 1) := by decide +kernel
theorem dX7_tell_61 : decode cX7_tell 61 = .ok (.iload_n 1, 1) := by decide +kernel
theorem dX7_tell_62 : decode cX7_tell 62 = .ok (.imul, 1) := by decide +kernel
theorem dX7_tell_63 : decode cX7_tell 63 = .ok (.iload_n 2, 1) := by decide +kernel
theorem dX7_tell_64 : decode cX7_tell 64 = .ok (.iadd, 1) := by decide +kernel
theorem dX7_tell_65 : decode cX7_tell 65 = .ok (.iaload, 1) := by decide +kernel
theorem dX7_tell_66 : decode cX7_tell 66 = .ok (.ireturn, 1) := by decide +kernel
theorem dX7_tell_67 : decode cX7_tell 67 = .ok (.aload_n 0, 1) := by decide +kernel
theorem dX7_tell_68 : decode cX7_tell 68 = .ok (.iload_n 1, 1) := by decide +kernel
theorem dX7_tell_69 : decode cX7_tell 69 = .ok (.invokevirtual 102, 3) := by decide +kernel
theorem dX7_tell_72 : decode cX7_tell 72 = .ok (.ireturn, 1) := by decide +kernel
theorem dX7_tell_73 : decode cX7_tell 73 = .ok (.aload_n 0, 1) := by decide +kernel
theorem dX7_tell_74 : decode cX7_tell 74 = .ok (.iload_n 1, 1) := by decide +kernel
theorem dX7_tell_75 : decode cX7_tell 75 = .ok (.invokevirtual 126, 3) := by decide +kernel
theorem dX7_tell_78 : decode cX7_tell 78 = .ok (.ireturn, 1) := by decide +kernel
theorem dX7_tell_79 : decode cX7_tell 79 = .ok (.aload_n 0, 1) := by decide +kernel
theorem dX7_tell_80 : decode cX7_tell 80 = .ok (.getfield 16, 3) := by decide +kernel
theorem dX7_tell_83 : decode cX7_tell 83 = .ok (.iconst 4, 1) := by decide +kernel
theorem dX7_tell_84 : decode cX7_tell 84 = .ok (.iload_n 1, 1) := by decide +kernel
theorem dX7_tell_85 : decode cX7_tell 85 = .ok (.imul, 1) := by decide +kernel
theorem dX7_tell_86 : decode cX7_tell 86 = .ok (.iload_n 2, 1) := by decide +kernel
theorem dX7_tell_87 : decode cX7_tell 87 = .ok (.iadd, 1) := by decide +kernel
theorem dX7_tell_88 : decode cX7_tell 88 = .ok (.iconst 2, 1) := by decide +kernel
theorem dX7_tell_89 : decode cX7_tell 89 = .ok (.isub, 1) := by decide +kernel
theorem dX7_tell_90 : decode cX7_tell 90 = .ok (.iaload, 1) := by decide +kernel
theorem dX7_tell_91 : decode cX7_tell 91 = .ok (.ireturn, 1) := by decide +kernel
theorem dX7_tell_92 : decode cX7_tell 92 = .ok (.aload_n 0, 1) := by decide +kernel
theorem dX7_tell_93 : decode cX7_tell 93 = .ok (.getfield 82, 3) := by decide +kernel
theorem dX7_tell_96 : decode cX7_tell 96 = .ok (.iload_n 1, 1) := by decide +kernel
theorem dX7_tell_97 : decode cX7_tell 97 = .ok (.ishr, 1) := by decide +kernel
theorem dX7_tell_98 : decode cX7_tell 98 = .ok (.iconst 1, 1) := by decide +kernel
theorem dX7_tell_99 : decode cX7_tell 99 = .ok (.iand, 1) := by decide +kernel
theorem dX7_tell_100 : decode cX7_tell 100 = .ok (.ireturn, 1) := by decide +kernel
theorem dX7_tell_101 : decode cX7_tell 101 = .ok (.aload_n 0, 1) := by decide +kernel
theorem dX7_tell_102 : decode cX7_tell 102 = .ok (.invokevirtual 112, 3) := by decide +kernel
theorem dX7_tell_105 : decode cX7_tell 105 = .ok (.iload_n 1, 1) := by decide +kernel
theorem dX7_tell_106 : decode cX7_tell 106 = .ok (.ishr, 1) := by decide +kernel
theorem dX7_tell_107 : decode cX7_tell 107 = .ok (.iconst 1, 1) := by decide +kernel
theorem dX7_tell_108 : decode cX7_tell 108 = .ok (.iand, 1) := by decide +kernel
theorem dX7_tell_109 : decode cX7_tell 109 = .ok (.ireturn, 1) := by decide +kernel
theorem dX7_tell_110 : decode cX7_tell 110 = .ok (.aload_n 0, 1) := by decide +kernel
theorem dX7_tell_111 : decode cX7_tell 111 = .ok (.iload_n 1, 1) := by decide +kernel
theorem dX7_tell_112 : decode cX7_tell 112 = .ok (.iload_n 2, 1) := by decide +kernel
theorem dX7_tell_113 : decode cX7_tell 113 = .ok (.bipush 8, 2) := by decide +kernel
theorem dX7_tell_115 : decode cX7_tell 115 = .ok (.isub, 1) := by decide +kernel
theorem dX7_tell_116 : decode cX7_tell 116 = .ok (.invokevirtual 129, 3) := by decide +kernel
theorem dX7_tell_119 : decode cX7_tell 119 = .ok (.ireturn, 1) := by decide +kernel
theorem dX7_tell_120 : decode cX7_tell 120 = .ok (.bipush (-102), 2) := by decide +kernel
theorem dX7_tell_122 : decode cX7_tell 122 = .ok (.ireturn, 1) := by decide +kernel
set_option maxRecDepth 20000 in
theorem ggX7_song_X7_isSong : GoodIn wsX7_song wsX7_isSong := goodIn_r _ [5, 6, 7, 8, 4, 9, 64, 65, 66, 67, 68, 69, 70, 71, 72, 73, 74, 75, 76, 77, 78, 79, 80, 81, 82, 83, 84, 85, 86, 87, 88, 89, 90, 91, 92, 93] (by decide +kernel) (by decide +kernel)
set_option maxRecDepth 20000 in
theorem gX7_song_X7_isSong : GoodIn wsX7_song (wsV RX7 132 RX7 yX7_isSong wsX7_isSong) := goodIn_app (goodIn_of _ (by decide +kernel)) ggX7_song_X7_isSong
set_option maxRecDepth 20000 in
theorem ggX7_song_X7_tell : GoodIn wsX7_song wsX7_tell := goodIn_r _ [13, 14, 15, 16, 17, 18, 4, 19, 20, 21, 22, 23, 24, 25, 26, 27, 28, 29, 30, 31, 32, 33, 34, 35, 36, 37, 6, 38, 39, 40, 41, 42, 43, 44, 45, 46, 47, 48, 49, 50, 51, 52, 53, 54, 55, 56, 57, 58, 59, 60, 61, 62, 63, 64, 65, 66, 67, 68, 69, 70, 71, 72, 73, 74, 75, 76, 77, 78, 79, 80, 81, 82, 83, 84, 85, 86, 87, 88, 89, 90, 91, 92, 93] (by decide +kernel) (by decide +kernel)
set_option maxRecDepth 20000 in
theorem gX7_song_X7_tell : GoodIn wsX7_song (wsV RX7 135 RX7 yX7_tell wsX7_tell) := goodIn_app (goodIn_of _ (by decide +kernel)) ggX7_song_X7_tell
theorem dX7_song_0 : decode cX7_song 0 = .ok (.aload_n 0, 1) := by decide +kernel
theorem dX7_song_1 : decode cX7_song 1 = .ok (.iload_n 1, 1) := by decide +kernel
theorem dX7_song_2 : decode cX7_song 2 = .ok (.invokevirtual 132, 3) := by decide +kernel
theorem dX7_song_5 : decode cX7_song 5 = .ok (.ifCond .eq 12, 3) := by decide +kernel
theorem dX7_song_8 : decode cX7_song 8 = .ok (.aload_n 0, 1) := by decide +kernel
theorem dX7_song_9 : decode cX7_song 9 = .ok (.iload_n 1, 1) := by decide +kernel
theorem dX7_song_10 : decode cX7_song 10 = .ok (.iload_n 2, 1) := by decide +kernel
theorem dX7_song_11 : decode cX7_song 11 = .ok (.invokevirtual 135, 3) := by decide +kernel
theorem dX7_song_14 : decode cX7_song 14 = .ok (.goto 5, 3) := by decide +kernel
theorem dX7_song_17 : decode cX7_song 17 = .ok (.bipush (-101), 2) := by decide +kernel
theorem dX7_song_19 : decode cX7_song 19 = .ok (.ireturn, 1) := by decide +kernel
set_option maxRecDepth 20000 in
theorem ggX7_as_X7_isSong : GoodIn wsX7_as wsX7_isSong := goodIn_r _ [7, 8, 9, 10, 6, 11, 12, 13, 14, 15, 16, 17, 18, 19, 20, 21, 22, 23, 24, 25, 26, 27, 28, 29, 30, 31, 32, 33, 34, 35, 36, 37, 38, 39, 40, 41] (by decide +kernel) (by decide +kernel)
set_option maxRecDepth 20000 in
theorem gX7_as_X7_isSong : GoodIn wsX7_as (wsV RX7 132 RX7 yX7_isSong wsX7_isSong) := goodIn_app (goodIn_of _ (by decide +kernel)) ggX7_as_X7_isSong
set_option maxRecDepth 20000 in
theorem ggX7_as_X7_in : GoodIn wsX7_as wsX7_in := goodIn_r _ [11] (by decide +kernel) (by decide +kernel)
set_option maxRecDepth 20000 in
theorem gX7_as_X7_in : GoodIn wsX7_as (va_wsS RX7 43 yX7_in wsX7_in) := goodIn_app (goodIn_of _ (by decide +kernel)) ggX7_as_X7_in
theorem dX7_as_0 : decode cX7_as 0 = .ok (.aload_n 0, 1) := by decide +kernel
theorem dX7_as_1 : decode cX7_as 1 = .ok (.iload_n 1, 1) := by decide +kernel
theorem dX7_as_2 : decode cX7_as 2 = .ok (.invokevirtual 132, 3) := by decide +kernel
theorem dX7_as_5 : decode cX7_as 5 = .ok (.ifCond .ne 6, 3) := by decide +kernel
theorem dX7_as_8 : decode cX7_as 8 = .ok (.bipush (-101), 2) := by decide +kernel
theorem dX7_as_10 : decode cX7_as 10 = .ok (.ireturn, 1) := by decide +kernel
theorem dX7_as_11 : decode cX7_as 11 = .ok (.iload_n 2, 1) := by decide +kernel
theorem dX7_as_12 : decode cX7_as 12 = .ok (.i2l, 1) := by decide +kernel
theorem dX7_as_13 : decode cX7_as 13 = .ok (.lconst 0, 1) := by decide +kernel
theorem dX7_as_14 : decode cX7_as 14 = .ok (.ldc2_w 138, 3) := by decide +kernel
theorem dX7_as_17 : decode cX7_as 17 = .ok (.invokestatic 43, 3) := by decide +kernel
theorem dX7_as_20 : decode cX7_as 20 = .ok (.ifCond .ne 6, 3) := by decide +kernel
theorem dX7_as_23 : decode cX7_as 23 = .ok (.bipush (-102), 2) := by decide +kernel
theorem dX7_as_25 : decode cX7_as 25 = .ok (.ireturn, 1) := by decide +kernel
theorem dX7_as_26 : decode cX7_as 26 = .ok (.aload_n 0, 1) := by decide +kernel
theorem dX7_as_27 : decode cX7_as 27 = .ok (.getfield 16, 3) := by decide +kernel
theorem dX7_as_30 : decode cX7_as 30 = .ok (.iconst 4, 1) := by decide +kernel
theorem dX7_as_31 : decode cX7_as 31 = .ok (.iload_n 1, 1) := by decide +kernel
theorem dX7_as_32 : decode cX7_as 32 = .ok (.imul, 1) := by decide +kernel
theorem dX7_as_33 : decode cX7_as 33 = .ok (.iaload, 1) := by decide +kernel
theorem dX7_as_34 : decode cX7_as 34 = .ok (.istore_n 3, 1) := by decide +kernel
theorem dX7_as_35 : decode cX7_as 35 = .ok (.iload_n 2, 1) := by decide +kernel
theorem dX7_as_36 : decode cX7_as 36 = .ok (.ifCond .eq 18, 3) := by decide +kernel
theorem dX7_as_39 : decode cX7_as 39 = .ok (.iload_n 2, 1) := by decide +kernel
theorem dX7_as_40 : decode cX7_as 40 = .ok (.iload_n 3, 1) := by decide +kernel
theorem dX7_as_41 : decode cX7_as 41 = .ok (.if_icmp .eq 13, 3) := by decide +kernel
theorem dX7_as_44 : decode cX7_as 44 = .ok (.iload_n 2, 1) := by decide +kernel
theorem dX7_as_45 : decode cX7_as 45 = .ok (.iconst 2, 1) := by decide +kernel
theorem dX7_as_46 : decode cX7_as 46 = .ok (.if_icmp .ne 12, 3) := by decide +kernel
theorem dX7_as_49 : decode cX7_as 49 = .ok (.iload_n 3, 1) := by decide +kernel
theorem dX7_as_50 : decode cX7_as 50 = .ok (.iconst 4, 1) := by decide +kernel
theorem dX7_as_51 : decode cX7_as 51 = .ok (.if_icmp .ne 7, 3) := by decide +kernel
theorem dX7_as_54 : decode cX7_as 54 = .ok (.iconst 1, 1) := by decide +kernel
theorem dX7_as_55 : decode cX7_as 55 = .ok (.goto 4, 3) := by decide +kernel
theorem dX7_as_58 : decode cX7_as 58 = .ok (.iconst 0, 1) := by decide +kernel
theorem dX7_as_59 : decode cX7_as 59 = .ok (.istore 4, 2) := by decide +kernel
theorem dX7_as_61 : decode cX7_as 61 = .ok (.iload 4, 2) := by decide +kernel
theorem dX7_as_63 : decode cX7_as 63 = .ok (.ifCond .eq 7, 3) := by decide +kernel
theorem dX7_as_66 : decode cX7_as 66 = .ok (.iload_n 1, 1) := by decide +kernel
theorem dX7_as_67 : decode cX7_as 67 = .ok (.goto 4, 3) := by decide +kernel
theorem dX7_as_70 : decode cX7_as 70 = .ok (.iconst (-1), 1) := by decide +kernel
theorem dX7_as_71 : decode cX7_as 71 = .ok (.ireturn, 1) := by decide +kernel
set_option maxRecDepth 20000 in
theorem ggX7_rule_X7_in : GoodIn wsX7_rule wsX7_in := goodIn_r _ [6] (by decide +kernel) (by decide +kernel)
set_option maxRecDepth 20000 in
theorem gX7_rule_X7_in : GoodIn wsX7_rule (va_wsS RX7 43 yX7_in wsX7_in) := goodIn_app (goodIn_of _ (by decide +kernel)) ggX7_rule_X7_in
set_option maxRecDepth 20000 in
theorem ggX7_rule_X7_lacks : GoodIn wsX7_rule wsX7_lacks := goodIn_r _ [10, 11, 12, 13, 14, 15, 16, 17, 18, 19, 20, 21, 22, 23, 24, 25, 26, 27, 28, 29, 30, 31, 32, 33, 34, 35, 36, 37, 38, 39, 40, 41] (by decide +kernel) (by decide +kernel)
set_option maxRecDepth 20000 in
theorem gX7_rule_X7_lacks : GoodIn wsX7_rule (wsV RX7 140 RX7 yX7_lacks wsX7_lacks) := goodIn_app (goodIn_of _ (by decide +kernel)) ggX7_rule_X7_lacks
theorem dX7_rule_0 : decode cX7_rule 0 = .ok (.iload_n 1, 1) := by decide +kernel
theorem dX7_rule_1 : decode cX7_rule 1 = .ok (.i2l, 1) := by decide +kernel
theorem dX7_rule_2 : decode cX7_rule 2 = .ok (.lconst 0, 1) := by decide +kernel
theorem dX7_rule_3 : decode cX7_rule 3 = .ok (.ldc2_w 60, 3) := by decide +kernel
theorem dX7_rule_6 : decode cX7_rule 6 = .ok (.invokestatic 43, 3) := by decide +kernel
theorem dX7_rule_9 : decode cX7_rule 9 = .ok (.ifCond .ne 6, 3) := by decide +kernel
theorem dX7_rule_12 : decode cX7_rule 12 = .ok (.bipush (-102), 2) := by decide +kernel
theorem dX7_rule_14 : decode cX7_rule 14 = .ok (.ireturn, 1) := by decide +kernel
theorem dX7_rule_15 : decode cX7_rule 15 = .ok (.aload_n 0, 1) := by decide +kernel
theorem dX7_rule_16 : decode cX7_rule 16 = .ok (.invokevirtual 140, 3) := by decide +kernel
theorem dX7_rule_19 : decode cX7_rule 19 = .ok (.ifCond .eq 6, 3) := by decide +kernel
theorem dX7_rule_22 : decode cX7_rule 22 = .ok (.bipush (-103), 2) := by decide +kernel
theorem dX7_rule_24 : decode cX7_rule 24 = .ok (.ireturn, 1) := by decide +kernel
theorem dX7_rule_25 : decode cX7_rule 25 = .ok (.aload_n 0, 1) := by decide +kernel
theorem dX7_rule_26 : decode cX7_rule 26 = .ok (.getfield 76, 3) := by decide +kernel
theorem dX7_rule_29 : decode cX7_rule 29 = .ok (.istore_n 2, 1) := by decide +kernel
theorem dX7_rule_30 : decode cX7_rule 30 = .ok (.aload_n 0, 1) := by decide +kernel
theorem dX7_rule_31 : decode cX7_rule 31 = .ok (.iload_n 1, 1) := by decide +kernel
theorem dX7_rule_32 : decode cX7_rule 32 = .ok (.putfield 76, 3) := by decide +kernel
theorem dX7_rule_35 : decode cX7_rule 35 = .ok (.iload_n 2, 1) := by decide +kernel
theorem dX7_rule_36 : decode cX7_rule 36 = .ok (.ireturn, 1) := by decide +kernel
set_option maxRecDepth 20000 in
theorem ggX7_play_X7_isSong : GoodIn wsX7_play wsX7_isSong := goodIn_r _ [9, 10, 11, 12, 8, 13, 34, 35, 36, 37, 38, 39, 40, 41, 42, 43, 44, 45, 46, 47, 48, 49, 50, 51, 52, 53, 54, 55, 56, 57, 58, 59, 60, 61, 62, 63] (by decide +kernel) (by decide +kernel)
set_option maxRecDepth 20000 in
theorem gX7_play_X7_isSong : GoodIn wsX7_play (wsV RX7 132 RX7 yX7_isSong wsX7_isSong) := goodIn_app (goodIn_of _ (by decide +kernel)) ggX7_play_X7_isSong
set_option maxRecDepth 20000 in
theorem ggX7_play_X7_mayNow : GoodIn wsX7_play wsX7_mayNow := goodIn_r _ [17, 18, 1, 2, 19, 20, 21, 8, 22, 10, 4, 23, 24, 25, 26, 34, 35, 36, 37, 38, 39, 40, 41, 42, 43, 44, 45, 46, 47, 48, 49, 50, 51, 52, 53, 54, 55, 56, 57, 58, 59, 60, 61, 62, 63] (by decide +kernel) (by decide +kernel)
set_option maxRecDepth 20000 in
theorem gX7_play_X7_mayNow : GoodIn wsX7_play (wsV RX7 112 RX7 yX7_mayNow wsX7_mayNow) := goodIn_app (goodIn_of _ (by decide +kernel)) ggX7_play_X7_mayNow
set_option maxRecDepth 20000 in
theorem ggX7_play_X7_bagBehind : GoodIn wsX7_play wsX7_bagBehind := goodIn_r _ [30, 23, 24, 25, 8, 26, 10, 34, 35, 36, 37, 38, 39, 40, 41, 42, 43, 44, 45, 46, 47, 48, 49, 50, 51, 52, 53, 54, 55, 56, 57, 58, 59, 60, 61, 62, 63] (by decide +kernel) (by decide +kernel)
set_option maxRecDepth 20000 in
theorem gX7_play_X7_bagBehind : GoodIn wsX7_play (wsV RX7 144 RX7 yX7_bagBehind wsX7_bagBehind) := goodIn_app (goodIn_of _ (by decide +kernel)) ggX7_play_X7_bagBehind
set_option maxRecDepth 20000 in
theorem ggX7_play_X7_ones : GoodIn wsX7_play wsX7_ones := goodIn_r _ [33] (by decide +kernel) (by decide +kernel)
set_option maxRecDepth 20000 in
theorem gX7_play_X7_ones : GoodIn wsX7_play (va_wsS RX7 109 yX7_ones wsX7_ones) := goodIn_app (goodIn_of _ (by decide +kernel)) ggX7_play_X7_ones
theorem dX7_play_0 : decode cX7_play 0 = .ok (.aload_n 0, 1) := by decide +kernel
theorem dX7_play_1 : decode cX7_play 1 = .ok (.iload_n 1, 1) := by decide +kernel
theorem dX7_play_2 : decode cX7_play 2 = .ok (.invokevirtual 132, 3) := by decide +kernel
theorem dX7_play_5 : decode cX7_play 5 = .ok (.ifCond .ne 6, 3) := by decide +kernel
theorem dX7_play_8 : decode cX7_play 8 = .ok (.bipush (-101), 2) := by decide +kernel
theorem dX7_play_10 : decode cX7_play 10 = .ok (.ireturn, 1) := by decide +kernel
theorem dX7_play_11 : decode cX7_play 11 = .ok (.aload_n 0, 1) := by decide +kernel
theorem dX7_play_12 : decode cX7_play 12 = .ok (.invokevirtual 112, 3) := by decide +kernel
theorem dX7_play_15 : decode cX7_play 15 = .ok (.iload_n 1, 1) := by decide +kernel
theorem dX7_play_16 : decode cX7_play 16 = .ok (.ishr, 1) := by decide +kernel
theorem dX7_play_17 : decode cX7_play 17 = .ok (.iconst 1, 1) := by decide +kernel
theorem dX7_play_18 : decode cX7_play 18 = .ok (.iand, 1) := by decide +kernel
theorem dX7_play_19 : decode cX7_play 19 = .ok (.ifCond .ne 6, 3) := by decide +kernel
theorem dX7_play_22 : decode cX7_play 22 = .ok (.bipush (-103), 2) := by decide +kernel
theorem dX7_play_24 : decode cX7_play 24 = .ok (.ireturn, 1) := by decide +kernel
theorem dX7_play_25 : decode cX7_play 25 = .ok (.aload_n 0, 1) := by decide +kernel
theorem dX7_play_26 : decode cX7_play 26 = .ok (.aload_n 0, 1) := by decide +kernel
theorem dX7_play_27 : decode cX7_play 27 = .ok (.aload_n 0, 1) := by decide +kernel
theorem dX7_play_28 : decode cX7_play 28 = .ok (.getfield 82, 3) := by decide +kernel
theorem dX7_play_31 : decode cX7_play 31 = .ok (.iload_n 1, 1) := by decide +kernel
theorem dX7_play_32 : decode cX7_play 32 = .ok (.invokevirtual 144, 3) := by decide +kernel
theorem dX7_play_35 : decode cX7_play 35 = .ok (.putfield 82, 3) := by decide +kernel
theorem dX7_play_38 : decode cX7_play 38 = .ok (.aload_n 0, 1) := by decide +kernel
theorem dX7_play_39 : decode cX7_play 39 = .ok (.iload_n 1, 1) := by decide +kernel
theorem dX7_play_40 : decode cX7_play 40 = .ok (.putfield 38, 3) := by decide +kernel
theorem dX7_play_43 : decode cX7_play 43 = .ok (.aload_n 0, 1) := by decide +kernel
theorem dX7_play_44 : decode cX7_play 44 = .ok (.iconst 0, 1) := by decide +kernel
theorem dX7_play_45 : decode cX7_play 45 = .ok (.putfield 85, 3) := by decide +kernel
theorem dX7_play_48 : decode cX7_play 48 = .ok (.aload_n 0, 1) := by decide +kernel
theorem dX7_play_49 : decode cX7_play 49 = .ok (.getfield 16, 3) := by decide +kernel
theorem dX7_play_52 : decode cX7_play 52 = .ok (.iconst 4, 1) := by decide +kernel
theorem dX7_play_53 : decode cX7_play 53 = .ok (.iload_n 1, 1) := by decide +kernel
theorem dX7_play_54 : decode cX7_play 54 = .ok (.imul, 1) := by decide +kernel
theorem dX7_play_55 : decode cX7_play 55 = .ok (.iconst 2, 1) := by decide +kernel
theorem dX7_play_56 : decode cX7_play 56 = .ok (.iadd, 1) := by decide +kernel
theorem dX7_play_57 : decode cX7_play 57 = .ok (.dup2, 1) := by decide +kernel
theorem dX7_play_58 : decode cX7_play 58 = .ok (.iaload, 1) := by decide +kernel
theorem dX7_play_59 : decode cX7_play 59 = .ok (.iconst 1, 1) := by decide +kernel
theorem dX7_play_60 : decode cX7_play 60 = .ok (.iadd, 1) := by decide +kernel
theorem dX7_play_61 : decode cX7_play 61 = .ok (.iastore, 1) := by decide +kernel
theorem dX7_play_62 : decode cX7_play 62 = .ok (.aload_n 0, 1) := by decide +kernel
theorem dX7_play_63 : decode cX7_play 63 = .ok (.getfield 82, 3) := by decide +kernel
theorem dX7_play_66 : decode cX7_play 66 = .ok (.invokestatic 109, 3) := by decide +kernel
theorem dX7_play_69 : decode cX7_play 69 = .ok (.ireturn, 1) := by decide +kernel
set_option maxRecDepth 20000 in
theorem ggX7_skip_X7_weightOf : GoodIn wsX7_skip wsX7_weightOf := goodIn_r _ [8, 3, 9, 10, 11, 7, 12, 13, 14, 15, 16, 17, 18, 19, 20, 21, 22, 23, 24, 25, 26, 27, 28, 29, 30, 31, 32, 33, 34, 35, 36, 37, 38, 39, 40, 41, 42] (by decide +kernel) (by decide +kernel)
set_option maxRecDepth 20000 in
theorem gX7_skip_X7_weightOf : GoodIn wsX7_skip (wsV RX7 102 RX7 yX7_weightOf wsX7_weightOf) := goodIn_app (goodIn_of _ (by decide +kernel)) ggX7_skip_X7_weightOf
theorem dX7_skip_0 : decode cX7_skip 0 = .ok (.aload_n 0, 1) := by decide +kernel
theorem dX7_skip_1 : decode cX7_skip 1 = .ok (.getfield 38, 3) := by decide +kernel
theorem dX7_skip_4 : decode cX7_skip 4 = .ok (.iconst (-1), 1) := by decide +kernel
theorem dX7_skip_5 : decode cX7_skip 5 = .ok (.if_icmp .eq 10, 3) := by decide +kernel
theorem dX7_skip_8 : decode cX7_skip 8 = .ok (.aload_n 0, 1) := by decide +kernel
theorem dX7_skip_9 : decode cX7_skip 9 = .ok (.getfield 85, 3) := by decide +kernel
theorem dX7_skip_12 : decode cX7_skip 12 = .ok (.ifCond .eq 6, 3) := by decide +kernel
theorem dX7_skip_15 : decode cX7_skip 15 = .ok (.bipush (-103), 2) := by decide +kernel
theorem dX7_skip_17 : decode cX7_skip 17 = .ok (.ireturn, 1) := by decide +kernel
theorem dX7_skip_18 : decode cX7_skip 18 = .ok (.aload_n 0, 1) := by decide +kernel
theorem dX7_skip_19 : decode cX7_skip 19 = .ok (.iconst 1, 1) := by decide +kernel
theorem dX7_skip_20 : decode cX7_skip 20 = .ok (.putfield 85, 3) := by decide +kernel
theorem dX7_skip_23 : decode cX7_skip 23 = .ok (.aload_n 0, 1) := by decide +kernel
theorem dX7_skip_24 : decode cX7_skip 24 = .ok (.getfield 16, 3) := by decide +kernel
theorem dX7_skip_27 : decode cX7_skip 27 = .ok (.iconst 4, 1) := by decide +kernel
theorem dX7_skip_28 : decode cX7_skip 28 = .ok (.aload_n 0, 1) := by decide +kernel
theorem dX7_skip_29 : decode cX7_skip 29 = .ok (.getfield 38, 3) := by decide +kernel
theorem dX7_skip_32 : decode cX7_skip 32 = .ok (.imul, 1) := by decide +kernel
theorem dX7_skip_33 : decode cX7_skip 33 = .ok (.iconst 3, 1) := by decide +kernel
theorem dX7_skip_34 : decode cX7_skip 34 = .ok (.iadd, 1) := by decide +kernel
theorem dX7_skip_35 : decode cX7_skip 35 = .ok (.dup2, 1) := by decide +kernel
theorem dX7_skip_36 : decode cX7_skip 36 = .ok (.iaload, 1) := by decide +kernel
theorem dX7_skip_37 : decode cX7_skip 37 = .ok (.iconst 1, 1) := by decide +kernel
theorem dX7_skip_38 : decode cX7_skip 38 = .ok (.iadd, 1) := by decide +kernel
theorem dX7_skip_39 : decode cX7_skip 39 = .ok (.iastore, 1) := by decide +kernel
theorem dX7_skip_40 : decode cX7_skip 40 = .ok (.aload_n 0, 1) := by decide +kernel
theorem dX7_skip_41 : decode cX7_skip 41 = .ok (.aload_n 0, 1) := by decide +kernel
theorem dX7_skip_42 : decode cX7_skip 42 = .ok (.getfield 38, 3) := by decide +kernel
theorem dX7_skip_45 : decode cX7_skip 45 = .ok (.invokevirtual 102, 3) := by decide +kernel
theorem dX7_skip_48 : decode cX7_skip 48 = .ok (.ireturn, 1) := by decide +kernel
