set_option maxRecDepth 20000 in
theorem ggX0_init_X4_init : GoodIn wsX0_init wsX4_init := goodIn_r _ [10, 11, 2, 3, 12, 13, 14, 15, 16, 17, 18] (by decide +kernel) (by decide +kernel)
set_option maxRecDepth 20000 in
theorem gX0_init_X4_init : GoodIn wsX0_init (wsX4_init) := ggX0_init_X4_init
theorem dX0_init_0 : decode cX0_init 0 = .ok (.aload_n 0, 1) := by decide +kernel
theorem dX0_init_1 : decode cX0_init 1 = .ok (.invokespecial 3, 3) := by decide +kernel
theorem dX0_init_4 : decode cX0_init 4 = .ok (.aload_n 0, 1) := by decide +kernel
theorem dX0_init_5 : decode cX0_init 5 = .ok (.new 9, 3) := by decide +kernel
theorem dX0_init_8 : decode cX0_init 8 = .ok (.dup, 1) := by decide +kernel
theorem dX0_init_9 : decode cX0_init 9 = .ok (.bipush 16, 2) := by decide +kernel
theorem dX0_init_11 : decode cX0_init 11 = .ok (.invokespecial 11, 3) := by decide +kernel
theorem dX0_init_14 : decode cX0_init 14 = .ok (.putfield 14, 3) := by decide +kernel
theorem dX0_init_17 : decode cX0_init 17 = .ok (.return_, 1) := by decide +kernel
theorem dX0_size_0 : decode cX0_size 0 = .ok (.aload_n 0, 1) := by decide +kernel
theorem dX0_size_1 : decode cX0_size 1 = .ok (.getfield 20, 3) := by decide +kernel
theorem dX0_size_4 : decode cX0_size 4 = .ok (.ireturn, 1) := by decide +kernel
theorem dX0_clear_0 : decode cX0_clear 0 = .ok (.aload_n 0, 1) := by decide +kernel
theorem dX0_clear_1 : decode cX0_clear 1 = .ok (.iconst 0, 1) := by decide +kernel
theorem dX0_clear_2 : decode cX0_clear 2 = .ok (.putfield 20, 3) := by decide +kernel
theorem dX0_clear_5 : decode cX0_clear 5 = .ok (.return_, 1) := by decide +kernel
set_option maxRecDepth 20000 in
theorem ggX0_add_X0_forgetFirst : GoodIn wsX0_add wsX0_forgetFirst := goodIn_r _ [7, 2, 1, 8, 9, 10, 11, 12, 13, 14, 15, 16, 17, 18, 19, 20] (by decide +kernel) (by decide +kernel)
set_option maxRecDepth 20000 in
theorem gX0_add_X0_forgetFirst : GoodIn wsX0_add (wsV RX0 24 RX0 yX0_forgetFirst wsX0_forgetFirst) := goodIn_app (goodIn_of _ (by decide +kernel)) ggX0_add_X0_forgetFirst
set_option maxRecDepth 20000 in
theorem ggX0_add_X4_put : GoodIn wsX0_add wsX4_put := goodIn_r _ [17, 13, 20] (by decide +kernel) (by decide +kernel)
set_option maxRecDepth 20000 in
theorem gX0_add_X4_put : GoodIn wsX0_add (wsV RX0 27 RX4 yX4_put wsX4_put) := goodIn_app (goodIn_of _ (by decide +kernel)) ggX0_add_X4_put
theorem dX0_add_0 : decode cX0_add 0 = .ok (.aload_n 0, 1) := by decide +kernel
theorem dX0_add_1 : decode cX0_add 1 = .ok (.getfield 20, 3) := by decide +kernel
theorem dX0_add_4 : decode cX0_add 4 = .ok (.bipush 16, 2) := by decide +kernel
theorem dX0_add_6 : decode cX0_add 6 = .ok (.if_icmp .lt 7, 3) := by decide +kernel
theorem dX0_add_9 : decode cX0_add 9 = .ok (.aload_n 0, 1) := by decide +kernel
theorem dX0_add_10 : decode cX0_add 10 = .ok (.invokevirtual 24, 3) := by decide +kernel
theorem dX0_add_13 : decode cX0_add 13 = .ok (.aload_n 0, 1) := by decide +kernel
theorem dX0_add_14 : decode cX0_add 14 = .ok (.getfield 14, 3) := by decide +kernel
theorem dX0_add_17 : decode cX0_add 17 = .ok (.aload_n 0, 1) := by decide +kernel
theorem dX0_add_18 : decode cX0_add 18 = .ok (.getfield 20, 3) := by decide +kernel
theorem dX0_add_21 : decode cX0_add 21 = .ok (.iload_n 1, 1) := by decide +kernel
theorem dX0_add_22 : decode cX0_add 22 = .ok (.invokevirtual 27, 3) := by decide +kernel
theorem dX0_add_25 : decode cX0_add 25 = .ok (.aload_n 0, 1) := by decide +kernel
theorem dX0_add_26 : decode cX0_add 26 = .ok (.dup, 1) := by decide +kernel
theorem dX0_add_27 : decode cX0_add 27 = .ok (.getfield 20, 3) := by decide +kernel
theorem dX0_add_30 : decode cX0_add 30 = .ok (.iconst 1, 1) := by decide +kernel
theorem dX0_add_31 : decode cX0_add 31 = .ok (.iadd, 1) := by decide +kernel
theorem dX0_add_32 : decode cX0_add 32 = .ok (.putfield 20, 3) := by decide +kernel
theorem dX0_add_35 : decode cX0_add 35 = .ok (.return_, 1) := by decide +kernel
set_option maxRecDepth 20000 in
theorem ggX0_removeLast_X4_at : GoodIn wsX0_removeLast wsX4_at := goodIn_r _ [7, 8, 11] (by decide +kernel) (by decide +kernel)
set_option maxRecDepth 20000 in
theorem gX0_removeLast_X4_at : GoodIn wsX0_removeLast (wsV RX0 31 RX4 yX4_at wsX4_at) := goodIn_app (goodIn_of _ (by decide +kernel)) ggX0_removeLast_X4_at
theorem dX0_removeLast_0 : decode cX0_removeLast 0 = .ok (.aload_n 0, 1) := by decide +kernel
theorem dX0_removeLast_1 : decode cX0_removeLast 1 = .ok (.getfield 20, 3) := by decide +kernel
theorem dX0_removeLast_4 : decode cX0_removeLast 4 = .ok (.ifCond .ne 6, 3) := by decide +kernel
theorem dX0_removeLast_7 : decode cX0_removeLast 7 = .ok (.bipush (-9), 2) := by decide +kernel
theorem dX0_removeLast_9 : decode cX0_removeLast 9 = .ok (.ireturn, 1) := by decide +kernel
theorem dX0_removeLast_10 : decode cX0_removeLast 10 = .ok (.aload_n 0, 1) := by decide +kernel
theorem dX0_removeLast_11 : decode cX0_removeLast 11 = .ok (.dup, 1) := by decide +kernel
theorem dX0_removeLast_12 : decode cX0_removeLast 12 = .ok (.getfield 20, 3) := by decide +kernel
theorem dX0_removeLast_15 : decode cX0_removeLast 15 = .ok (.iconst 1, 1) := by decide +kernel
theorem dX0_removeLast_16 : decode cX0_removeLast 16 = .ok (.isub, 1) := by decide +kernel
theorem dX0_removeLast_17 : decode cX0_removeLast 17 = .ok (.putfield 20, 3) := by decide +kernel
theorem dX0_removeLast_20 : decode cX0_removeLast 20 = .ok (.aload_n 0, 1) := by decide +kernel
theorem dX0_removeLast_21 : decode cX0_removeLast 21 = .ok (.getfield 14, 3) := by decide +kernel
theorem dX0_removeLast_24 : decode cX0_removeLast 24 = .ok (.aload_n 0, 1) := by decide +kernel
theorem dX0_removeLast_25 : decode cX0_removeLast 25 = .ok (.getfield 20, 3) := by decide +kernel
theorem dX0_removeLast_28 : decode cX0_removeLast 28 = .ok (.invokevirtual 31, 3) := by decide +kernel
theorem dX0_removeLast_31 : decode cX0_removeLast 31 = .ok (.ireturn, 1) := by decide +kernel
set_option maxRecDepth 20000 in
theorem ggX0_forgetFirst_X4_at : GoodIn wsX0_forgetFirst wsX4_at := goodIn_r _ [7, 8, 15] (by decide +kernel) (by decide +kernel)
set_option maxRecDepth 20000 in
theorem gX0_forgetFirst_X4_at : GoodIn wsX0_forgetFirst (wsV RX0 31 RX4 yX4_at wsX4_at) := goodIn_app (goodIn_of _ (by decide +kernel)) ggX0_forgetFirst_X4_at
set_option maxRecDepth 20000 in
theorem ggX0_forgetFirst_X4_put : GoodIn wsX0_forgetFirst wsX4_put := goodIn_r _ [12, 8, 15] (by decide +kernel) (by decide +kernel)
set_option maxRecDepth 20000 in
theorem gX0_forgetFirst_X4_put : GoodIn wsX0_forgetFirst (wsV RX0 27 RX4 yX4_put wsX4_put) := goodIn_app (goodIn_of _ (by decide +kernel)) ggX0_forgetFirst_X4_put
theorem dX0_forgetFirst_0 : decode cX0_forgetFirst 0 = .ok (.iconst 1, 1) := by decide +kernel
theorem dX0_forgetFirst_1 : decode cX0_forgetFirst 1 = .ok (.istore_n 1, 1) := by decide +kernel
theorem dX0_forgetFirst_2 : decode cX0_forgetFirst 2 = .ok (.iload_n 1, 1) := by decide +kernel
theorem dX0_forgetFirst_3 : decode cX0_forgetFirst 3 = .ok (.bipush 16, 2) := by decide +kernel
theorem dX0_forgetFirst_5 : decode cX0_forgetFirst 5 = .ok (.if_icmp .ge 27, 3) := by decide +kernel
theorem dX0_forgetFirst_8 : decode cX0_forgetFirst 8 = .ok (.aload_n 0, 1) := by decide +kernel
theorem dX0_forgetFirst_9 : decode cX0_forgetFirst 9 = .ok (.getfield 14, 3) := by decide +kernel
theorem dX0_forgetFirst_12 : decode cX0_forgetFirst 12 = .ok (.iload_n 1, 1) := by decide +kernel
theorem dX0_forgetFirst_13 : decode cX0_forgetFirst 13 = .ok (.iconst 1, 1) := by decide +kernel
theorem dX0_forgetFirst_14 : decode cX0_forgetFirst 14 = .ok (.isub, 1) := by decide +kernel
theorem dX0_forgetFirst_15 : decode cX0_forgetFirst 15 = .ok (.aload_n 0, 1) := by decide +kernel
theorem dX0_forgetFirst_16 : decode cX0_forgetFirst 16 = .ok (.getfield 14, 3) := by decide +kernel
theorem dX0_forgetFirst_19 : decode cX0_forgetFirst 19 = .ok (.iload_n 1, 1) := by decide +kernel
theorem dX0_forgetFirst_20 : decode cX0_forgetFirst 20 = .ok (.invokevirtual 31, 3) := by decide +kernel
theorem dX0_forgetFirst_23 : decode cX0_forgetFirst 23 = .ok (.invokevirtual 27, 3) := by decide +kernel
theorem dX0_forgetFirst_26 : decode cX0_forgetFirst 26 = .ok (.iinc 1 1, 3) := by decide +kernel
theorem dX0_forgetFirst_29 : decode cX0_forgetFirst 29 = .ok (.goto (-27), 3) := by decide +kernel
theorem dX0_forgetFirst_32 : decode cX0_forgetFirst 32 = .ok (.aload_n 0, 1) := by decide +kernel
theorem dX0_forgetFirst_33 : decode cX0_forgetFirst 33 = .ok (.bipush 15, 2) := by decide +kernel
theorem dX0_forgetFirst_35 : decode cX0_forgetFirst 35 = .ok (.putfield 20, 3) := by decide +kernel
theorem dX0_forgetFirst_38 : decode cX0_forgetFirst 38 = .ok (.return_, 1) := by decide +kernel
set_option maxRecDepth 20000 in
theorem ggX1_init_X4_init : GoodIn wsX1_init wsX4_init := goodIn_r _ [17, 18, 2, 3, 19, 20, 21, 22, 23, 24, 37] (by decide +kernel) (by decide +kernel)
set_option maxRecDepth 20000 in
theorem gX1_init_X4_init : GoodIn wsX1_init (wsX4_init) := ggX1_init_X4_init
set_option maxRecDepth 20000 in
theorem ggX1_init_X1_clear : GoodIn wsX1_init wsX1_clear := goodIn_r _ [29, 30, 31, 32, 13, 14, 33, 34, 35, 6, 36, 24, 38, 39, 40, 41, 42, 43, 44, 45, 46, 47, 48, 37] (by decide +kernel) (by decide +kernel)
set_option maxRecDepth 20000 in
theorem gX1_init_X1_clear : GoodIn wsX1_init (wsV RX1 41 RX1 yX1_clear wsX1_clear) := goodIn_app (goodIn_of _ (by decide +kernel)) ggX1_init_X1_clear
theorem dX1_init_0 : decode cX1_init 0 = .ok (.aload_n 0, 1) := by decide +kernel
theorem dX1_init_1 : decode cX1_init 1 = .ok (.invokespecial 3, 3) := by decide +kernel
theorem dX1_init_4 : decode cX1_init 4 = .ok (.aload_n 0, 1) := by decide +kernel
theorem dX1_init_5 : decode cX1_init 5 = .ok (.new 9, 3) := by decide +kernel
theorem dX1_init_8 : decode cX1_init 8 = .ok (.dup, 1) := by decide +kernel
theorem dX1_init_9 : decode cX1_init 9 = .ok (.iconst 5, 1) := by decide +kernel
theorem dX1_init_10 : decode cX1_init 10 = .ok (.invokespecial 11, 3) := by decide +kernel
theorem dX1_init_13 : decode cX1_init 13 = .ok (.putfield 14, 3) := by decide +kernel
theorem dX1_init_16 : decode cX1_init 16 = .ok (.aload_n 0, 1) := by decide +kernel
theorem dX1_init_17 : decode cX1_init 17 = .ok (.new 9, 3) := by decide +kernel
theorem dX1_init_20 : decode cX1_init 20 = .ok (.dup, 1) := by decide +kernel
theorem dX1_init_21 : decode cX1_init 21 = .ok (.iconst 5, 1) := by decide +kernel
theorem dX1_init_22 : decode cX1_init 22 = .ok (.invokespecial 11, 3) := by decide +kernel
theorem dX1_init_25 : decode cX1_init 25 = .ok (.putfield 20, 3) := by decide +kernel
theorem dX1_init_28 : decode cX1_init 28 = .ok (.aload_n 0, 1) := by decide +kernel
theorem dX1_init_29 : decode cX1_init 29 = .ok (.new 9, 3) := by decide +kernel
theorem dX1_init_32 : decode cX1_init 32 = .ok (.dup, 1) := by decide +kernel
theorem dX1_init_33 : decode cX1_init 33 = .ok (.iconst 5, 1) := by decide +kernel
theorem dX1_init_34 : decode cX1_init 34 = .ok (.invokespecial 11, 3) := by decide +kernel
theorem dX1_init_37 : decode cX1_init 37 = .ok (.putfield 23, 3) := by decide +kernel
theorem dX1_init_40 : decode cX1_init 40 = .ok (.aload_n 0, 1) := by decide +kernel
theorem dX1_init_41 : decode cX1_init 41 = .ok (.new 9, 3) := by decide +kernel
theorem dX1_init_44 : decode cX1_init 44 = .ok (.dup, 1) := by decide +kernel
theorem dX1_init_45 : decode cX1_init 45 = .ok (.iconst 5, 1) := by decide +kernel
theorem dX1_init_46 : decode cX1_init 46 = .ok (.invokespecial 11, 3) := by decide +kernel
theorem dX1_init_49 : decode cX1_init 49 = .ok (.putfield 26, 3) := by decide +kernel
theorem dX1_init_52 : decode cX1_init 52 = .ok (.aload_n 0, 1) := by decide +kernel
theorem dX1_init_53 : decode cX1_init 53 = .ok (.new 9, 3) := by decide +kernel
theorem dX1_init_56 : decode cX1_init 56 = .ok (.dup, 1) := by decide +kernel
theorem dX1_init_57 : decode cX1_init 57 = .ok (.iconst 5, 1) := by decide +kernel
theorem dX1_init_58 : decode cX1_init 58 = .ok (.invokespecial 11, 3) := by decide +kernel
theorem dX1_init_61 : decode cX1_init 61 = .ok (.putfield 29, 3) := by decide +kernel
theorem dX1_init_64 : decode cX1_init 64 = .ok (.aload_n 0, 1) := by decide +kernel
theorem dX1_init_65 : decode cX1_init 65 = .ok (.new 9, 3) := by decide +kernel
theorem dX1_init_68 : decode cX1_init 68 = .ok (.dup, 1) := by decide +kernel
theorem dX1_init_69 : decode cX1_init 69 = .ok (.iconst 5, 1) := by decide +kernel
theorem dX1_init_70 : decode cX1_init 70 = .ok (.invokespecial 11, 3) := by decide +kernel
theorem dX1_init_73 : decode cX1_init 73 = .ok (.putfield 32, 3) := by decide +kernel
theorem dX1_init_76 : decode cX1_init 76 = .ok (.aload_n 0, 1) := by decide +kernel
theorem dX1_init_77 : decode cX1_init 77 = .ok (.new 9, 3) := by decide +kernel
theorem dX1_init_80 : decode cX1_init 80 = .ok (.dup, 1) := by decide +kernel
theorem dX1_init_81 : decode cX1_init 81 = .ok (.bipush 12, 2) := by decide +kernel
theorem dX1_init_83 : decode cX1_init 83 = .ok (.invokespecial 11, 3) := by decide +kernel
theorem dX1_init_86 : decode cX1_init 86 = .ok (.putfield 35, 3) := by decide +kernel
theorem dX1_init_89 : decode cX1_init 89 = .ok (.aload_n 0, 1) := by decide +kernel
theorem dX1_init_90 : decode cX1_init 90 = .ok (.new 9, 3) := by decide +kernel
theorem dX1_init_93 : decode cX1_init 93 = .ok (.dup, 1) := by decide +kernel
theorem dX1_init_94 : decode cX1_init 94 = .ok (.iconst 2, 1) := by decide +kernel
theorem dX1_init_95 : decode cX1_init 95 = .ok (.invokespecial 11, 3) := by decide +kernel
theorem dX1_init_98 : decode cX1_init 98 = .ok (.putfield 38, 3) := by decide +kernel
theorem dX1_init_101 : decode cX1_init 101 = .ok (.aload_n 0, 1) := by decide +kernel
theorem dX1_init_102 : decode cX1_init 102 = .ok (.invokevirtual 41, 3) := by decide +kernel
theorem dX1_init_105 : decode cX1_init 105 = .ok (.return_, 1) := by decide +kernel
set_option maxRecDepth 20000 in
theorem ggX1_clear_X4_fill : GoodIn wsX1_clear wsX4_fill := goodIn_r _ [10, 11, 23] (by decide +kernel) (by decide +kernel)
set_option maxRecDepth 20000 in
theorem gX1_clear_X4_fill : GoodIn wsX1_clear (wsV RX1 54 RX4 yX4_fill wsX4_fill) := goodIn_app (goodIn_of _ (by decide +kernel)) ggX1_clear_X4_fill
theorem dX1_clear_0 : decode cX1_clear 0 = .ok (.aload_n 0, 1) := by decide +kernel
theorem dX1_clear_1 : decode cX1_clear 1 = .ok (.iconst 0, 1) := by decide +kernel
theorem dX1_clear_2 : decode cX1_clear 2 = .ok (.putfield 44, 3) := by decide +kernel
theorem dX1_clear_5 : decode cX1_clear 5 = .ok (.aload_n 0, 1) := by decide +kernel
theorem dX1_clear_6 : decode cX1_clear 6 = .ok (.iconst 0, 1) := by decide +kernel
theorem dX1_clear_7 : decode cX1_clear 7 = .ok (.putfield 48, 3) := by decide +kernel
theorem dX1_clear_10 : decode cX1_clear 10 = .ok (.aload_n 0, 1) := by decide +kernel
theorem dX1_clear_11 : decode cX1_clear 11 = .ok (.iconst 0, 1) := by decide +kernel
theorem dX1_clear_12 : decode cX1_clear 12 = .ok (.putfield 51, 3) := by decide +kernel
theorem dX1_clear_15 : decode cX1_clear 15 = .ok (.aload_n 0, 1) := by decide +kernel
theorem dX1_clear_16 : decode cX1_clear 16 = .ok (.getfield 35, 3) := by decide +kernel
theorem dX1_clear_19 : decode cX1_clear 19 = .ok (.iconst 0, 1) := by decide +kernel
theorem dX1_clear_20 : decode cX1_clear 20 = .ok (.invokevirtual 54, 3) := by decide +kernel
theorem dX1_clear_23 : decode cX1_clear 23 = .ok (.aload_n 0, 1) := by decide +kernel
theorem dX1_clear_24 : decode cX1_clear 24 = .ok (.getfield 38, 3) := by decide +kernel
theorem dX1_clear_27 : decode cX1_clear 27 = .ok (.bipush 6, 2) := by decide +kernel
theorem dX1_clear_29 : decode cX1_clear 29 = .ok (.invokevirtual 54, 3) := by decide +kernel
theorem dX1_clear_32 : decode cX1_clear 32 = .ok (.return_, 1) := by decide +kernel
theorem dX1_addSquare_0 : decode cX1_addSquare 0 = .ok (.aload_n 0, 1) := by decide +kernel
theorem dX1_addSquare_1 : decode cX1_addSquare 1 = .ok (.dup, 1) := by decide +kernel
theorem dX1_addSquare_2 : decode cX1_addSquare 2 = .ok (.getfield 44, 3) := by decide +kernel
theorem dX1_addSquare_5 : decode cX1_addSquare 5 = .ok (.iconst 1, 1) := by decide +kernel
theorem dX1_addSquare_6 : decode cX1_addSquare 6 = .ok (.iload_n 1, 1) := by decide +kernel
theorem dX1_addSquare_7 : decode cX1_addSquare 7 = .ok (.ishl, 1) := by decide +kernel
theorem dX1_addSquare_8 : decode cX1_addSquare 8 = .ok (.ior, 1) := by decide +kernel
theorem dX1_addSquare_9 : decode cX1_addSquare 9 = .ok (.putfield 44, 3) := by decide +kernel
theorem dX1_addSquare_12 : decode cX1_addSquare 12 = .ok (.return_, 1) := by decide +kernel
set_option maxRecDepth 20000 in
theorem ggX1_addWish_X7_cellAbove : GoodIn wsX1_addWish wsX7_cellAbove := goodIn_r _ [10] (by decide +kernel) (by decide +kernel)
set_option maxRecDepth 20000 in
theorem gX1_addWish_X7_cellAbove_n57 : GoodIn wsX1_addWish (wsX7_cellAbove) := ggX1_addWish_X7_cellAbove
set_option maxRecDepth 20000 in
theorem ggX1_addWish_X4_put : GoodIn wsX1_addWish wsX4_put := goodIn_r _ [15, 16, 28] (by decide +kernel) (by decide +kernel)
set_option maxRecDepth 20000 in
theorem gX1_addWish_X4_put : GoodIn wsX1_addWish (wsV RX1 61 RX4 yX4_put wsX4_put) := goodIn_app (goodIn_of _ (by decide +kernel)) ggX1_addWish_X4_put
theorem dX1_addWish_0 : decode cX1_addWish 0 = .ok (.iconst 0, 1) := by decide +kernel
theorem dX1_addWish_1 : decode cX1_addWish 1 = .ok (.istore 6, 2) := by decide +kernel
theorem dX1_addWish_3 : decode cX1_addWish 3 = .ok (.iconst 0, 1) := by decide +kernel
theorem dX1_addWish_4 : decode cX1_addWish 4 = .ok (.istore 7, 2) := by decide +kernel
theorem dX1_addWish_6 : decode cX1_addWish 6 = .ok (.iload 7, 2) := by decide +kernel
theorem dX1_addWish_8 : decode cX1_addWish 8 = .ok (.iload_n 3, 1) := by decide +kernel
theorem dX1_addWish_9 : decode cX1_addWish 9 = .ok (.if_icmp .ge 27, 3) := by decide +kernel
theorem dX1_addWish_12 : decode cX1_addWish 12 = .ok (.iload 6, 2) := by decide +kernel
theorem dX1_addWish_14 : decode cX1_addWish 14 = .ok (.iconst 1, 1) := by decide +kernel
theorem dX1_addWish_15 : decode cX1_addWish 15 = .ok (.iload_n 1, 1) := by decide +kernel
theorem dX1_addWish_16 : decode cX1_addWish 16 = .ok (.iload_n 2, 1) := by decide +kernel
theorem dX1_addWish_17 : decode cX1_addWish 17 = .ok (.iload 7, 2) := by decide +kernel
theorem dX1_addWish_19 : decode cX1_addWish 19 = .ok (.iadd, 1) := by decide +kernel
theorem dX1_addWish_20 : decode cX1_addWish 20 = .ok (.bipush 6, 2) := by decide +kernel
theorem dX1_addWish_22 : decode cX1_addWish 22 = .ok (.irem, 1) := by decide +kernel
theorem dX1_addWish_23 : decode cX1_addWish 23 = .ok (.invokestatic 57, 3) := by decide +kernel
theorem dX1_addWish_26 : decode cX1_addWish 26 = .ok (.ishl, 1) := by decide +kernel
theorem dX1_addWish_27 : decode cX1_addWish 27 = .ok (.ior, 1) := by decide +kernel
theorem dX1_addWish_28 : decode cX1_addWish 28 = .ok (.istore 6, 2) := by decide +kernel
theorem dX1_addWish_30 : decode cX1_addWish 30 = .ok (.iinc 7 1, 3) := by decide +kernel
theorem dX1_addWish_33 : decode cX1_addWish 33 = .ok (.goto (-27), 3) := by decide +kernel
theorem dX1_addWish_36 : decode cX1_addWish 36 = .ok (.aload_n 0, 1) := by decide +kernel
theorem dX1_addWish_37 : decode cX1_addWish 37 = .ok (.getfield 14, 3) := by decide +kernel
theorem dX1_addWish_40 : decode cX1_addWish 40 = .ok (.aload_n 0, 1) := by decide +kernel
theorem dX1_addWish_41 : decode cX1_addWish 41 = .ok (.getfield 48, 3) := by decide +kernel
theorem dX1_addWish_44 : decode cX1_addWish 44 = .ok (.iload_n 1, 1) := by decide +kernel
theorem dX1_addWish_45 : decode cX1_addWish 45 = .ok (.invokevirtual 61, 3) := by decide +kernel
theorem dX1_addWish_48 : decode cX1_addWish 48 = .ok (.aload_n 0, 1) := by decide +kernel
theorem dX1_addWish_49 : decode cX1_addWish 49 = .ok (.getfield 20, 3) := by decide +kernel
theorem dX1_addWish_52 : decode cX1_addWish 52 = .ok (.aload_n 0, 1) := by decide +kernel
theorem dX1_addWish_53 : decode cX1_addWish 53 = .ok (.getfield 48, 3) := by decide +kernel
theorem dX1_addWish_56 : decode cX1_addWish 56 = .ok (.iload_n 2, 1) := by decide +kernel
theorem dX1_addWish_57 : decode cX1_addWish 57 = .ok (.invokevirtual 61, 3) := by decide +kernel
theorem dX1_addWish_60 : decode cX1_addWish 60 = .ok (.aload_n 0, 1) := by decide +kernel
theorem dX1_addWish_61 : decode cX1_addWish 61 = .ok (.getfield 23, 3) := by decide +kernel
theorem dX1_addWish_64 : decode cX1_addWish 64 = .ok (.aload_n 0, 1) := by decide +kernel
theorem dX1_addWish_65 : decode cX1_addWish 65 = .ok (.getfield 48, 3) := by decide +kernel
theorem dX1_addWish_68 : decode cX1_addWish 68 = .ok (.iload_n 3, 1) := by decide +kernel
theorem dX1_addWish_69 : decode cX1_addWish 69 = .ok (.invokevirtual 61, 3) := by decide +kernel
theorem dX1_addWish_72 : decode cX1_addWish 72 = .ok (.aload_n 0, 1) := by decide +kernel
theorem dX1_addWish_73 : decode cX1_addWish 73 = .ok (.getfield 26, 3) := by decide +kernel
theorem dX1_addWish_76 : decode cX1_addWish 76 = .ok (.aload_n 0, 1) := by decide +kernel
theorem dX1_addWish_77 : decode cX1_addWish 77 = .ok (.getfield 48, 3) := by decide +kernel
theorem dX1_addWish_80 : decode cX1_addWish 80 = .ok (.iload 4, 2) := by decide +kernel
theorem dX1_addWish_82 : decode cX1_addWish 82 = .ok (.invokevirtual 61, 3) := by decide +kernel
theorem dX1_addWish_85 : decode cX1_addWish 85 = .ok (.aload_n 0, 1) := by decide +kernel
theorem dX1_addWish_86 : decode cX1_addWish 86 = .ok (.getfield 29, 3) := by decide +kernel
theorem dX1_addWish_89 : decode cX1_addWish 89 = .ok (.aload_n 0, 1) := by decide +kernel
theorem dX1_addWish_90 : decode cX1_addWish 90 = .ok (.getfield 48, 3) := by decide +kernel
theorem dX1_addWish_93 : decode cX1_addWish 93 = .ok (.iload 6, 2) := by decide +kernel
theorem dX1_addWish_95 : decode cX1_addWish 95 = .ok (.invokevirtual 61, 3) := by decide +kernel
theorem dX1_addWish_98 : decode cX1_addWish 98 = .ok (.aload_n 0, 1) := by decide +kernel
theorem dX1_addWish_99 : decode cX1_addWish 99 = .ok (.getfield 32, 3) := by decide +kernel
theorem dX1_addWish_102 : decode cX1_addWish 102 = .ok (.aload_n 0, 1) := by decide +kernel
theorem dX1_addWish_103 : decode cX1_addWish 103 = .ok (.getfield 48, 3) := by decide +kernel
theorem dX1_addWish_106 : decode cX1_addWish 106 = .ok (.iload 5, 2) := by decide +kernel
theorem dX1_addWish_108 : decode cX1_addWish 108 = .ok (.ifCond .eq 8, 3) := by decide +kernel
theorem dX1_addWish_111 : decode cX1_addWish 111 = .ok (.iload 6, 2) := by decide +kernel
theorem dX1_addWish_113 : decode cX1_addWish 113 = .ok (.goto 4, 3) := by decide +kernel
theorem dX1_addWish_116 : decode cX1_addWish 116 = .ok (.iconst 0, 1) := by decide +kernel
theorem dX1_addWish_117 : decode cX1_addWish 117 = .ok (.invokevirtual 61, 3) := by decide +kernel
theorem dX1_addWish_120 : decode cX1_addWish 120 = .ok (.aload_n 0, 1) := by decide +kernel
theorem dX1_addWish_121 : decode cX1_addWish 121 = .ok (.dup, 1) := by decide +kernel
theorem dX1_addWish_122 : decode cX1_addWish 122 = .ok (.getfield 48, 3) := by decide +kernel
theorem dX1_addWish_125 : decode cX1_addWish 125 = .ok (.iconst 1, 1) := by decide +kernel
theorem dX1_addWish_126 : decode cX1_addWish 126 = .ok (.iadd, 1) := by decide +kernel
theorem dX1_addWish_127 : decode cX1_addWish 127 = .ok (.putfield 48, 3) := by decide +kernel
theorem dX1_addWish_130 : decode cX1_addWish 130 = .ok (.return_, 1) := by decide +kernel
set_option maxRecDepth 20000 in
theorem ggX1_addOwed_X4_put : GoodIn wsX1_addOwed wsX4_put := goodIn_r _ [12, 13, 29] (by decide +kernel) (by decide +kernel)
set_option maxRecDepth 20000 in
theorem gX1_addOwed_X4_put : GoodIn wsX1_addOwed (wsV RX1 61 RX4 yX4_put wsX4_put) := goodIn_app (goodIn_of _ (by decide +kernel)) ggX1_addOwed_X4_put
set_option maxRecDepth 20000 in
theorem ggX1_addOwed_X4_at : GoodIn wsX1_addOwed wsX4_at := goodIn_r _ [17, 13, 29] (by decide +kernel) (by decide +kernel)
set_option maxRecDepth 20000 in
theorem gX1_addOwed_X4_at : GoodIn wsX1_addOwed (wsV RX1 65 RX4 yX4_at wsX4_at) := goodIn_app (goodIn_of _ (by decide +kernel)) ggX1_addOwed_X4_at
theorem dX1_addOwed_0 : decode cX1_addOwed 0 = .ok (.iload_n 1, 1) := by decide +kernel
theorem dX1_addOwed_1 : decode cX1_addOwed 1 = .ok (.bipush 6, 2) := by decide +kernel
theorem dX1_addOwed_3 : decode cX1_addOwed 3 = .ok (.idiv, 1) := by decide +kernel
theorem dX1_addOwed_4 : decode cX1_addOwed 4 = .ok (.istore_n 3, 1) := by decide +kernel
theorem dX1_addOwed_5 : decode cX1_addOwed 5 = .ok (.aload_n 0, 1) := by decide +kernel
theorem dX1_addOwed_6 : decode cX1_addOwed 6 = .ok (.dup, 1) := by decide +kernel
theorem dX1_addOwed_7 : decode cX1_addOwed 7 = .ok (.getfield 51, 3) := by decide +kernel
theorem dX1_addOwed_10 : decode cX1_addOwed 10 = .ok (.iconst 1, 1) := by decide +kernel
theorem dX1_addOwed_11 : decode cX1_addOwed 11 = .ok (.iload_n 1, 1) := by decide +kernel
theorem dX1_addOwed_12 : decode cX1_addOwed 12 = .ok (.ishl, 1) := by decide +kernel
theorem dX1_addOwed_13 : decode cX1_addOwed 13 = .ok (.ior, 1) := by decide +kernel
theorem dX1_addOwed_14 : decode cX1_addOwed 14 = .ok (.putfield 51, 3) := by decide +kernel
theorem dX1_addOwed_17 : decode cX1_addOwed 17 = .ok (.aload_n 0, 1) := by decide +kernel
theorem dX1_addOwed_18 : decode cX1_addOwed 18 = .ok (.getfield 35, 3) := by decide +kernel
theorem dX1_addOwed_21 : decode cX1_addOwed 21 = .ok (.iload_n 1, 1) := by decide +kernel
theorem dX1_addOwed_22 : decode cX1_addOwed 22 = .ok (.iload_n 2, 1) := by decide +kernel
theorem dX1_addOwed_23 : decode cX1_addOwed 23 = .ok (.invokevirtual 61, 3) := by decide +kernel
theorem dX1_addOwed_26 : decode cX1_addOwed 26 = .ok (.aload_n 0, 1) := by decide +kernel
theorem dX1_addOwed_27 : decode cX1_addOwed 27 = .ok (.getfield 38, 3) := by decide +kernel
theorem dX1_addOwed_30 : decode cX1_addOwed 30 = .ok (.iload_n 3, 1) := by decide +kernel
theorem dX1_addOwed_31 : decode cX1_addOwed 31 = .ok (.aload_n 0, 1) := by decide +kernel
theorem dX1_addOwed_32 : decode cX1_addOwed 32 = .ok (.getfield 38, 3) := by decide +kernel
theorem dX1_addOwed_35 : decode cX1_addOwed 35 = .ok (.iload_n 3, 1) := by decide +kernel
theorem dX1_addOwed_36 : decode cX1_addOwed 36 = .ok (.invokevirtual 65, 3) := by decide +kernel
theorem dX1_addOwed_39 : decode cX1_addOwed 39 = .ok (.bipush 6, 2) := by decide +kernel
theorem dX1_addOwed_41 : decode cX1_addOwed 41 = .ok (.iload_n 2, 1) := by decide +kernel
theorem dX1_addOwed_42 : decode cX1_addOwed 42 = .ok (.isub, 1) := by decide +kernel
theorem dX1_addOwed_43 : decode cX1_addOwed 43 = .ok (.invokestatic 69, 3) := by decide +kernel
theorem dX1_addOwed_46 : decode cX1_addOwed 46 = .ok (.invokevirtual 61, 3) := by decide +kernel
theorem dX1_addOwed_49 : decode cX1_addOwed 49 = .ok (.return_, 1) := by decide +kernel
theorem dX1_squares_0 : decode cX1_squares 0 = .ok (.aload_n 0, 1) := by decide +kernel
theorem dX1_squares_1 : decode cX1_squares 1 = .ok (.getfield 44, 3) := by decide +kernel
theorem dX1_squares_4 : decode cX1_squares 4 = .ok (.ireturn, 1) := by decide +kernel
theorem dX1_wishCount_0 : decode cX1_wishCount 0 = .ok (.aload_n 0, 1) := by decide +kernel
theorem dX1_wishCount_1 : decode cX1_wishCount 1 = .ok (.getfield 48, 3) := by decide +kernel
theorem dX1_wishCount_4 : decode cX1_wishCount 4 = .ok (.ireturn, 1) := by decide +kernel
theorem dX1_allWishes_0 : decode cX1_allWishes 0 = .ok (.iconst 1, 1) := by decide +kernel
theorem dX1_allWishes_1 : decode cX1_allWishes 1 = .ok (.aload_n 0, 1) := by decide +kernel
theorem dX1_allWishes_2 : decode cX1_allWishes 2 = .ok (.getfield 48, 3) := by decide +kernel
theorem dX1_allWishes_5 : decode cX1_allWishes 5 = .ok (.ishl, 1) := by decide +kernel
theorem dX1_allWishes_6 : decode cX1_allWishes 6 = .ok (.iconst 1, 1) := by decide +kernel
theorem dX1_allWishes_7 : decode cX1_allWishes 7 = .ok (.isub, 1) := by decide +kernel
theorem dX1_allWishes_8 : decode cX1_allWishes 8 = .ok (.ireturn, 1) := by decide +kernel
theorem dX1_owedPlaces_0 : decode cX1_owedPlaces 0 = .ok (.aload_n 0, 1) := by decide +kernel
theorem dX1_owedPlaces_1 : decode cX1_owedPlaces 1 = .ok (.getfield 51, 3) := by decide +kernel
theorem dX1_owedPlaces_4 : decode cX1_owedPlaces 4 = .ok (.ireturn, 1) := by decide +kernel
set_option maxRecDepth 20000 in
theorem ggX1_owedCount_J6_bitCount_0f7a4 : GoodIn wsX1_owedCount wsJ6_bitCount_0f7a4 := goodIn_r _ [5, 6, 7, 8] (by decide +kernel) (by decide +kernel)
set_option maxRecDepth 20000 in
theorem gX1_owedCount_J6_bitCount_0f7a4 : GoodIn wsX1_owedCount (va_wsS RX1 74 yJ6_bitCount_0f7a4 wsJ6_bitCount_0f7a4) := goodIn_app (goodIn_of _ (by decide +kernel)) ggX1_owedCount_J6_bitCount_0f7a4
theorem dX1_owedCount_0 : decode cX1_owedCount 0 = .ok (.aload_n 0, 1) := by decide +kernel
theorem dX1_owedCount_1 : decode cX1_owedCount 1 = .ok (.getfield 51, 3) := by decide +kernel
theorem dX1_owedCount_4 : decode cX1_owedCount 4 = .ok (.invokestatic 74, 3) := by decide +kernel
theorem dX1_owedCount_7 : decode cX1_owedCount 7 = .ok (.ireturn, 1) := by decide +kernel
set_option maxRecDepth 20000 in
theorem ggX1_owedTo_X4_at : GoodIn wsX1_owedTo wsX4_at := goodIn_r _ [6, 7, 19] (by decide +kernel) (by decide +kernel)
set_option maxRecDepth 20000 in
theorem gX1_owedTo_X4_at : GoodIn wsX1_owedTo (wsV RX1 65 RX4 yX4_at wsX4_at) := goodIn_app (goodIn_of _ (by decide +kernel)) ggX1_owedTo_X4_at
theorem dX1_owedTo_0 : decode cX1_owedTo 0 = .ok (.aload_n 0, 1) := by decide +kernel
theorem dX1_owedTo_1 : decode cX1_owedTo 1 = .ok (.getfield 35, 3) := by decide +kernel
theorem dX1_owedTo_4 : decode cX1_owedTo 4 = .ok (.iload_n 1, 1) := by decide +kernel
theorem dX1_owedTo_5 : decode cX1_owedTo 5 = .ok (.invokevirtual 65, 3) := by decide +kernel
theorem dX1_owedTo_8 : decode cX1_owedTo 8 = .ok (.ireturn, 1) := by decide +kernel
set_option maxRecDepth 20000 in
theorem ggX1_placeOf_X4_at : GoodIn wsX1_placeOf wsX4_at := goodIn_r _ [6, 7, 19] (by decide +kernel) (by decide +kernel)
set_option maxRecDepth 20000 in
theorem gX1_placeOf_X4_at : GoodIn wsX1_placeOf (wsV RX1 65 RX4 yX4_at wsX4_at) := goodIn_app (goodIn_of _ (by decide +kernel)) ggX1_placeOf_X4_at
theorem dX1_placeOf_0 : decode cX1_placeOf 0 = .ok (.aload_n 0, 1) := by decide +kernel
theorem dX1_placeOf_1 : decode cX1_placeOf 1 = .ok (.getfield 14, 3) := by decide +kernel
theorem dX1_placeOf_4 : decode cX1_placeOf 4 = .ok (.iload_n 1, 1) := by decide +kernel
theorem dX1_placeOf_5 : decode cX1_placeOf 5 = .ok (.invokevirtual 65, 3) := by decide +kernel
theorem dX1_placeOf_8 : decode cX1_placeOf 8 = .ok (.ireturn, 1) := by decide +kernel
set_option maxRecDepth 20000 in
theorem ggX1_firstHourOf_X4_at : GoodIn wsX1_firstHourOf wsX4_at := goodIn_r _ [6, 7, 19] (by decide +kernel) (by decide +kernel)
set_option maxRecDepth 20000 in
theorem gX1_firstHourOf_X4_at : GoodIn wsX1_firstHourOf (wsV RX1 65 RX4 yX4_at wsX4_at) := goodIn_app (goodIn_of _ (by decide +kernel)) ggX1_firstHourOf_X4_at
theorem dX1_firstHourOf_0 : decode cX1_firstHourOf 0 = .ok (.aload_n 0, 1) := by decide +kernel
theorem dX1_firstHourOf_1 : decode cX1_firstHourOf 1 = .ok (.getfield 20, 3) := by decide +kernel
theorem dX1_firstHourOf_4 : decode cX1_firstHourOf 4 = .ok (.iload_n 1, 1) := by decide +kernel
theorem dX1_firstHourOf_5 : decode cX1_firstHourOf 5 = .ok (.invokevirtual 65, 3) := by decide +kernel
theorem dX1_firstHourOf_8 : decode cX1_firstHourOf 8 = .ok (.ireturn, 1) := by decide +kernel
set_option maxRecDepth 20000 in
theorem ggX1_spanOf_X4_at : GoodIn wsX1_spanOf wsX4_at := goodIn_r _ [6, 7, 19] (by decide +kernel) (by decide +kernel)
set_option maxRecDepth 20000 in
theorem gX1_spanOf_X4_at : GoodIn wsX1_spanOf (wsV RX1 65 RX4 yX4_at wsX4_at) := goodIn_app (goodIn_of _ (by decide +kernel)) ggX1_spanOf_X4_at
theorem dX1_spanOf_0 : decode cX1_spanOf 0 = .ok (.aload_n 0, 1) := by decide +kernel
theorem dX1_spanOf_1 : decode cX1_spanOf 1 = .ok (.getfield 23, 3) := by decide +kernel
theorem dX1_spanOf_4 : decode cX1_spanOf 4 = .ok (.iload_n 1, 1) := by decide +kernel
theorem dX1_spanOf_5 : decode cX1_spanOf 5 = .ok (.invokevirtual 65, 3) := by decide +kernel
theorem dX1_spanOf_8 : decode cX1_spanOf 8 = .ok (.ireturn, 1) := by decide +kernel
set_option maxRecDepth 20000 in
theorem ggX1_valueOf_X4_at : GoodIn wsX1_valueOf wsX4_at := goodIn_r _ [6, 7, 19] (by decide +kernel) (by decide +kernel)
set_option maxRecDepth 20000 in
theorem gX1_valueOf_X4_at : GoodIn wsX1_valueOf (wsV RX1 65 RX4 yX4_at wsX4_at) := goodIn_app (goodIn_of _ (by decide +kernel)) ggX1_valueOf_X4_at
theorem dX1_valueOf_0 : decode cX1_valueOf 0 = .ok (.aload_n 0, 1) := by decide +kernel
theorem dX1_valueOf_1 : decode cX1_valueOf 1 = .ok (.getfield 26, 3) := by decide +kernel
theorem dX1_valueOf_4 : decode cX1_valueOf 4 = .ok (.iload_n 1, 1) := by decide +kernel
theorem dX1_valueOf_5 : decode cX1_valueOf 5 = .ok (.invokevirtual 65, 3) := by decide +kernel
theorem dX1_valueOf_8 : decode cX1_valueOf 8 = .ok (.ireturn, 1) := by decide +kernel
set_option maxRecDepth 20000 in
theorem ggX1_wantsDark_X4_at : GoodIn wsX1_wantsDark wsX4_at := goodIn_r _ [6, 7, 19] (by decide +kernel) (by decide +kernel)
set_option maxRecDepth 20000 in
theorem gX1_wantsDark_X4_at : GoodIn wsX1_wantsDark (wsV RX1 65 RX4 yX4_at wsX4_at) := goodIn_app (goodIn_of _ (by decide +kernel)) ggX1_wantsDark_X4_at
theorem dX1_wantsDark_0 : decode cX1_wantsDark 0 = .ok (.aload_n 0, 1) := by decide +kernel
theorem dX1_wantsDark_1 : decode cX1_wantsDark 1 = .ok (.getfield 32, 3) := by decide +kernel
theorem dX1_wantsDark_4 : decode cX1_wantsDark 4 = .ok (.iload_n 1, 1) := by decide +kernel
theorem dX1_wantsDark_5 : decode cX1_wantsDark 5 = .ok (.invokevirtual 65, 3) := by decide +kernel
theorem dX1_wantsDark_8 : decode cX1_wantsDark 8 = .ok (.ifCond .eq 7, 3) := by decide +kernel
theorem dX1_wantsDark_11 : decode cX1_wantsDark 11 = .ok (.iconst 1, 1) := by decide +kernel
theorem dX1_wantsDark_12 : decode cX1_wantsDark 12 = .ok (.goto 4, 3) := by decide +kernel
theorem dX1_wantsDark_15 : decode cX1_wantsDark 15 = .ok (.iconst 0, 1) := by decide +kernel
theorem dX1_wantsDark_16 : decode cX1_wantsDark 16 = .ok (.ireturn, 1) := by decide +kernel
set_option maxRecDepth 20000 in
theorem ggX1_hoursOf_X4_at : GoodIn wsX1_hoursOf wsX4_at := goodIn_r _ [7, 8, 20] (by decide +kernel) (by decide +kernel)
set_option maxRecDepth 20000 in
theorem gX1_hoursOf_X4_at : GoodIn wsX1_hoursOf (wsV RX1 65 RX4 yX4_at wsX4_at) := goodIn_app (goodIn_of _ (by decide +kernel)) ggX1_hoursOf_X4_at
theorem dX1_hoursOf_0 : decode cX1_hoursOf 0 = .ok (.iconst 0, 1) := by decide +kernel
theorem dX1_hoursOf_1 : decode cX1_hoursOf 1 = .ok (.istore_n 2, 1) := by decide +kernel
theorem dX1_hoursOf_2 : decode cX1_hoursOf 2 = .ok (.iconst 0, 1) := by decide +kernel
theorem dX1_hoursOf_3 : decode cX1_hoursOf 3 = .ok (.istore_n 3, 1) := by decide +kernel
theorem dX1_hoursOf_4 : decode cX1_hoursOf 4 = .ok (.iload_n 3, 1) := by decide +kernel
theorem dX1_hoursOf_5 : decode cX1_hoursOf 5 = .ok (.aload_n 0, 1) := by decide +kernel
theorem dX1_hoursOf_6 : decode cX1_hoursOf 6 = .ok (.getfield 23, 3) := by decide +kernel
theorem dX1_hoursOf_9 : decode cX1_hoursOf 9 = .ok (.iload_n 1, 1) := by decide +kernel
theorem dX1_hoursOf_10 : decode cX1_hoursOf 10 = .ok (.invokevirtual 65, 3) := by decide +kernel
theorem dX1_hoursOf_13 : decode cX1_hoursOf 13 = .ok (.if_icmp .ge 27, 3) := by decide +kernel
theorem dX1_hoursOf_16 : decode cX1_hoursOf 16 = .ok (.iload_n 2, 1) := by decide +kernel
theorem dX1_hoursOf_17 : decode cX1_hoursOf 17 = .ok (.iconst 1, 1) := by decide +kernel
theorem dX1_hoursOf_18 : decode cX1_hoursOf 18 = .ok (.aload_n 0, 1) := by decide +kernel
theorem dX1_hoursOf_19 : decode cX1_hoursOf 19 = .ok (.getfield 20, 3) := by decide +kernel
theorem dX1_hoursOf_22 : decode cX1_hoursOf 22 = .ok (.iload_n 1, 1) := by decide +kernel
theorem dX1_hoursOf_23 : decode cX1_hoursOf 23 = .ok (.invokevirtual 65, 3) := by decide +kernel
theorem dX1_hoursOf_26 : decode cX1_hoursOf 26 = .ok (.iload_n 3, 1) := by decide +kernel
theorem dX1_hoursOf_27 : decode cX1_hoursOf 27 = .ok (.iadd, 1) := by decide +kernel
theorem dX1_hoursOf_28 : decode cX1_hoursOf 28 = .ok (.bipush 6, 2) := by decide +kernel
theorem dX1_hoursOf_30 : decode cX1_hoursOf 30 = .ok (.irem, 1) := by decide +kernel
theorem dX1_hoursOf_31 : decode cX1_hoursOf 31 = .ok (.ishl, 1) := by decide +kernel
theorem dX1_hoursOf_32 : decode cX1_hoursOf 32 = .ok (.ior, 1) := by decide +kernel
theorem dX1_hoursOf_33 : decode cX1_hoursOf 33 = .ok (.istore_n 2, 1) := by decide +kernel
theorem dX1_hoursOf_34 : decode cX1_hoursOf 34 = .ok (.iinc 3 1, 3) := by decide +kernel
theorem dX1_hoursOf_37 : decode cX1_hoursOf 37 = .ok (.goto (-33), 3) := by decide +kernel
theorem dX1_hoursOf_40 : decode cX1_hoursOf 40 = .ok (.iload_n 2, 1) := by decide +kernel
theorem dX1_hoursOf_41 : decode cX1_hoursOf 41 = .ok (.ireturn, 1) := by decide +kernel
set_option maxRecDepth 20000 in
theorem ggX1_grantedBy_X4_at : GoodIn wsX1_grantedBy wsX4_at := goodIn_r _ [8, 9, 21] (by decide +kernel) (by decide +kernel)
set_option maxRecDepth 20000 in
theorem gX1_grantedBy_X4_at : GoodIn wsX1_grantedBy (wsV RX1 65 RX4 yX4_at wsX4_at) := goodIn_app (goodIn_of _ (by decide +kernel)) ggX1_grantedBy_X4_at
theorem dX1_grantedBy_0 : decode cX1_grantedBy 0 = .ok (.iconst 0, 1) := by decide +kernel
theorem dX1_grantedBy_1 : decode cX1_grantedBy 1 = .ok (.istore_n 2, 1) := by decide +kernel
theorem dX1_grantedBy_2 : decode cX1_grantedBy 2 = .ok (.iconst 0, 1) := by decide +kernel
theorem dX1_grantedBy_3 : decode cX1_grantedBy 3 = .ok (.istore_n 3, 1) := by decide +kernel
theorem dX1_grantedBy_4 : decode cX1_grantedBy 4 = .ok (.iload_n 3, 1) := by decide +kernel
theorem dX1_grantedBy_5 : decode cX1_grantedBy 5 = .ok (.aload_n 0, 1) := by decide +kernel
theorem dX1_grantedBy_6 : decode cX1_grantedBy 6 = .ok (.getfield 48, 3) := by decide +kernel
theorem dX1_grantedBy_9 : decode cX1_grantedBy 9 = .ok (.if_icmp .ge 36, 3) := by decide +kernel
theorem dX1_grantedBy_12 : decode cX1_grantedBy 12 = .ok (.iload_n 1, 1) := by decide +kernel
theorem dX1_grantedBy_13 : decode cX1_grantedBy 13 = .ok (.aload_n 0, 1) := by decide +kernel
theorem dX1_grantedBy_14 : decode cX1_grantedBy 14 = .ok (.getfield 29, 3) := by decide +kernel
theorem dX1_grantedBy_17 : decode cX1_grantedBy 17 = .ok (.iload_n 3, 1) := by decide +kernel
theorem dX1_grantedBy_18 : decode cX1_grantedBy 18 = .ok (.invokevirtual 65, 3) := by decide +kernel
theorem dX1_grantedBy_21 : decode cX1_grantedBy 21 = .ok (.iand, 1) := by decide +kernel
theorem dX1_grantedBy_22 : decode cX1_grantedBy 22 = .ok (.aload_n 0, 1) := by decide +kernel
theorem dX1_grantedBy_23 : decode cX1_grantedBy 23 = .ok (.getfield 32, 3) := by decide +kernel
theorem dX1_grantedBy_26 : decode cX1_grantedBy 26 = .ok (.iload_n 3, 1) := by decide +kernel
theorem dX1_grantedBy_27 : decode cX1_grantedBy 27 = .ok (.invokevirtual 65, 3) := by decide +kernel
theorem dX1_grantedBy_30 : decode cX1_grantedBy 30 = .ok (.if_icmp .ne 9, 3) := by decide +kernel
theorem dX1_grantedBy_33 : decode cX1_grantedBy 33 = .ok (.iload_n 2, 1) := by decide +kernel
theorem dX1_grantedBy_34 : decode cX1_grantedBy 34 = .ok (.iconst 1, 1) := by decide +kernel
theorem dX1_grantedBy_35 : decode cX1_grantedBy 35 = .ok (.iload_n 3, 1) := by decide +kernel
theorem dX1_grantedBy_36 : decode cX1_grantedBy 36 = .ok (.ishl, 1) := by decide +kernel
theorem dX1_grantedBy_37 : decode cX1_grantedBy 37 = .ok (.ior, 1) := by decide +kernel
theorem dX1_grantedBy_38 : decode cX1_grantedBy 38 = .ok (.istore_n 2, 1) := by decide +kernel
theorem dX1_grantedBy_39 : decode cX1_grantedBy 39 = .ok (.iinc 3 1, 3) := by decide +kernel
theorem dX1_grantedBy_42 : decode cX1_grantedBy 42 = .ok (.goto (-38), 3) := by decide +kernel
theorem dX1_grantedBy_45 : decode cX1_grantedBy 45 = .ok (.iload_n 2, 1) := by decide +kernel
theorem dX1_grantedBy_46 : decode cX1_grantedBy 46 = .ok (.ireturn, 1) := by decide +kernel
set_option maxRecDepth 20000 in
theorem ggX1_sumOf_X7_has : GoodIn wsX1_sumOf wsX7_has := goodIn_r _ [5] (by decide +kernel) (by decide +kernel)
set_option maxRecDepth 20000 in
theorem gX1_sumOf_X7_has_n79 : GoodIn wsX1_sumOf (wsX7_has) := ggX1_sumOf_X7_has
set_option maxRecDepth 20000 in
theorem ggX1_sumOf_X4_at : GoodIn wsX1_sumOf wsX4_at := goodIn_r _ [10, 11, 23] (by decide +kernel) (by decide +kernel)
set_option maxRecDepth 20000 in
theorem gX1_sumOf_X4_at : GoodIn wsX1_sumOf (wsV RX1 65 RX4 yX4_at wsX4_at) := goodIn_app (goodIn_of _ (by decide +kernel)) ggX1_sumOf_X4_at
theorem dX1_sumOf_0 : decode cX1_sumOf 0 = .ok (.iconst 0, 1) := by decide +kernel
theorem dX1_sumOf_1 : decode cX1_sumOf 1 = .ok (.istore_n 2, 1) := by decide +kernel
theorem dX1_sumOf_2 : decode cX1_sumOf 2 = .ok (.iconst 0, 1) := by decide +kernel
theorem dX1_sumOf_3 : decode cX1_sumOf 3 = .ok (.istore_n 3, 1) := by decide +kernel
theorem dX1_sumOf_4 : decode cX1_sumOf 4 = .ok (.iload_n 3, 1) := by decide +kernel
theorem dX1_sumOf_5 : decode cX1_sumOf 5 = .ok (.aload_n 0, 1) := by decide +kernel
theorem dX1_sumOf_6 : decode cX1_sumOf 6 = .ok (.getfield 48, 3) := by decide +kernel
theorem dX1_sumOf_9 : decode cX1_sumOf 9 = .ok (.if_icmp .ge 32, 3) := by decide +kernel
theorem dX1_sumOf_12 : decode cX1_sumOf 12 = .ok (.iload_n 2, 1) := by decide +kernel
theorem dX1_sumOf_13 : decode cX1_sumOf 13 = .ok (.iload_n 1, 1) := by decide +kernel
theorem dX1_sumOf_14 : decode cX1_sumOf 14 = .ok (.iload_n 3, 1) := by decide +kernel
theorem dX1_sumOf_15 : decode cX1_sumOf 15 = .ok (.invokestatic 79, 3) := by decide +kernel
theorem dX1_sumOf_18 : decode cX1_sumOf 18 = .ok (.ifCond .eq 14, 3) := by decide +kernel
theorem dX1_sumOf_21 : decode cX1_sumOf 21 = .ok (.aload_n 0, 1) := by decide +kernel
theorem dX1_sumOf_22 : decode cX1_sumOf 22 = .ok (.getfield 26, 3) := by decide +kernel
theorem dX1_sumOf_25 : decode cX1_sumOf 25 = .ok (.iload_n 3, 1) := by decide +kernel
theorem dX1_sumOf_26 : decode cX1_sumOf 26 = .ok (.invokevirtual 65, 3) := by decide +kernel
theorem dX1_sumOf_29 : decode cX1_sumOf 29 = .ok (.goto 4, 3) := by decide +kernel
theorem dX1_sumOf_32 : decode cX1_sumOf 32 = .ok (.iconst 0, 1) := by decide +kernel
theorem dX1_sumOf_33 : decode cX1_sumOf 33 = .ok (.iadd, 1) := by decide +kernel
theorem dX1_sumOf_34 : decode cX1_sumOf 34 = .ok (.istore_n 2, 1) := by decide +kernel
theorem dX1_sumOf_35 : decode cX1_sumOf 35 = .ok (.iinc 3 1, 3) := by decide +kernel
theorem dX1_sumOf_38 : decode cX1_sumOf 38 = .ok (.goto (-34), 3) := by decide +kernel
theorem dX1_sumOf_41 : decode cX1_sumOf 41 = .ok (.iload_n 2, 1) := by decide +kernel
theorem dX1_sumOf_42 : decode cX1_sumOf 42 = .ok (.ireturn, 1) := by decide +kernel
set_option maxRecDepth 20000 in
theorem ggX1_worthOf_X1_grantedBy : GoodIn wsX1_worthOf wsX1_grantedBy := goodIn_r _ [5, 6, 7, 8, 9, 10, 11, 12, 13, 14, 23, 24, 25, 26, 27, 28, 29, 30, 31, 32, 33, 34] (by decide +kernel) (by decide +kernel)
set_option maxRecDepth 20000 in
theorem gX1_worthOf_X1_grantedBy : GoodIn wsX1_worthOf (wsV RX1 83 RX1 yX1_grantedBy wsX1_grantedBy) := goodIn_app (goodIn_of _ (by decide +kernel)) ggX1_worthOf_X1_grantedBy
set_option maxRecDepth 20000 in
theorem ggX1_worthOf_X1_sumOf : GoodIn wsX1_worthOf wsX1_sumOf := goodIn_r _ [18, 6, 19, 20, 21, 22, 9, 10, 11, 12, 13, 14, 23, 24, 25, 26, 27, 28, 29, 30, 31, 32, 33, 34] (by decide +kernel) (by decide +kernel)
set_option maxRecDepth 20000 in
theorem gX1_worthOf_X1_sumOf : GoodIn wsX1_worthOf (wsV RX1 86 RX1 yX1_sumOf wsX1_sumOf) := goodIn_app (goodIn_of _ (by decide +kernel)) ggX1_worthOf_X1_sumOf
theorem dX1_worthOf_0 : decode cX1_worthOf 0 = .ok (.aload_n 0, 1) := by decide +kernel
theorem dX1_worthOf_1 : decode cX1_worthOf 1 = .ok (.aload_n 0, 1) := by decide +kernel
theorem dX1_worthOf_2 : decode cX1_worthOf 2 = .ok (.iload_n 1, 1) := by decide +kernel
theorem dX1_worthOf_3 : decode cX1_worthOf 3 = .ok (.invokevirtual 83, 3) := by decide +kernel
theorem dX1_worthOf_6 : decode cX1_worthOf 6 = .ok (.invokevirtual 86, 3) := by decide +kernel
theorem dX1_worthOf_9 : decode cX1_worthOf 9 = .ok (.ireturn, 1) := by decide +kernel
set_option maxRecDepth 20000 in
theorem ggX1_allows_J6_bitCount_0f7a4 : GoodIn wsX1_allows wsJ6_bitCount_0f7a4 := goodIn_r _ [5, 6, 7, 8] (by decide +kernel) (by decide +kernel)
set_option maxRecDepth 20000 in
theorem gX1_allows_J6_bitCount_0f7a4 : GoodIn wsX1_allows (va_wsS RX1 74 yJ6_bitCount_0f7a4 wsJ6_bitCount_0f7a4) := goodIn_app (goodIn_of _ (by decide +kernel)) ggX1_allows_J6_bitCount_0f7a4
set_option maxRecDepth 20000 in
theorem ggX1_allows_X4_at : GoodIn wsX1_allows wsX4_at := goodIn_r _ [13, 14, 26] (by decide +kernel) (by decide +kernel)
set_option maxRecDepth 20000 in
theorem gX1_allows_X4_at : GoodIn wsX1_allows (wsV RX1 65 RX4 yX4_at wsX4_at) := goodIn_app (goodIn_of _ (by decide +kernel)) ggX1_allows_X4_at
theorem dX1_allows_0 : decode cX1_allows 0 = .ok (.iload_n 1, 1) := by decide +kernel
theorem dX1_allows_1 : decode cX1_allows 1 = .ok (.bipush 63, 2) := by decide +kernel
theorem dX1_allows_3 : decode cX1_allows 3 = .ok (.iand, 1) := by decide +kernel
theorem dX1_allows_4 : decode cX1_allows 4 = .ok (.invokestatic 74, 3) := by decide +kernel
theorem dX1_allows_7 : decode cX1_allows 7 = .ok (.aload_n 0, 1) := by decide +kernel
theorem dX1_allows_8 : decode cX1_allows 8 = .ok (.getfield 38, 3) := by decide +kernel
theorem dX1_allows_11 : decode cX1_allows 11 = .ok (.iconst 0, 1) := by decide +kernel
theorem dX1_allows_12 : decode cX1_allows 12 = .ok (.invokevirtual 65, 3) := by decide +kernel
theorem dX1_allows_15 : decode cX1_allows 15 = .ok (.if_icmp .gt 25, 3) := by decide +kernel
theorem dX1_allows_18 : decode cX1_allows 18 = .ok (.iload_n 1, 1) := by decide +kernel
theorem dX1_allows_19 : decode cX1_allows 19 = .ok (.bipush 6, 2) := by decide +kernel
theorem dX1_allows_21 : decode cX1_allows 21 = .ok (.ishr, 1) := by decide +kernel
theorem dX1_allows_22 : decode cX1_allows 22 = .ok (.invokestatic 74, 3) := by decide +kernel
theorem dX1_allows_25 : decode cX1_allows 25 = .ok (.aload_n 0, 1) := by decide +kernel
theorem dX1_allows_26 : decode cX1_allows 26 = .ok (.getfield 38, 3) := by decide +kernel
theorem dX1_allows_29 : decode cX1_allows 29 = .ok (.iconst 1, 1) := by decide +kernel
theorem dX1_allows_30 : decode cX1_allows 30 = .ok (.invokevirtual 65, 3) := by decide +kernel
theorem dX1_allows_33 : decode cX1_allows 33 = .ok (.if_icmp .gt 7, 3) := by decide +kernel
theorem dX1_allows_36 : decode cX1_allows 36 = .ok (.iconst 1, 1) := by decide +kernel
theorem dX1_allows_37 : decode cX1_allows 37 = .ok (.goto 4, 3) := by decide +kernel
theorem dX1_allows_40 : decode cX1_allows 40 = .ok (.iconst 0, 1) := by decide +kernel
theorem dX1_allows_41 : decode cX1_allows 41 = .ok (.ireturn, 1) := by decide +kernel
set_option maxRecDepth 20000 in
theorem ggX2_init_X4_init : GoodIn wsX2_init wsX4_init := goodIn_r _ [12, 13, 2, 3, 14, 15, 16, 17, 18, 19, 20] (by decide +kernel) (by decide +kernel)
set_option maxRecDepth 20000 in
theorem gX2_init_X4_init : GoodIn wsX2_init (wsX4_init) := ggX2_init_X4_init
theorem dX2_init_0 : decode cX2_init 0 = .ok (.aload_n 0, 1) := by decide +kernel
theorem dX2_init_1 : decode cX2_init 1 = .ok (.invokespecial 3, 3) := by decide +kernel
theorem dX2_init_4 : decode cX2_init 4 = .ok (.aload_n 0, 1) := by decide +kernel
theorem dX2_init_5 : decode cX2_init 5 = .ok (.new 9, 3) := by decide +kernel
theorem dX2_init_8 : decode cX2_init 8 = .ok (.dup, 1) := by decide +kernel
theorem dX2_init_9 : decode cX2_init 9 = .ok (.iconst 5, 1) := by decide +kernel
theorem dX2_init_10 : decode cX2_init 10 = .ok (.invokespecial 11, 3) := by decide +kernel
theorem dX2_init_13 : decode cX2_init 13 = .ok (.putfield 14, 3) := by decide +kernel
theorem dX2_init_16 : decode cX2_init 16 = .ok (.aload_n 0, 1) := by decide +kernel
theorem dX2_init_17 : decode cX2_init 17 = .ok (.new 9, 3) := by decide +kernel
theorem dX2_init_20 : decode cX2_init 20 = .ok (.dup, 1) := by decide +kernel
theorem dX2_init_21 : decode cX2_init 21 = .ok (.iconst 5, 1) := by decide +kernel
theorem dX2_init_22 : decode cX2_init 22 = .ok (.invokespecial 11, 3) := by decide +kernel
theorem dX2_init_25 : decode cX2_init 25 = .ok (.putfield 20, 3) := by decide +kernel
theorem dX2_init_28 : decode cX2_init 28 = .ok (.aload_n 0, 1) := by decide +kernel
theorem dX2_init_29 : decode cX2_init 29 = .ok (.new 9, 3) := by decide +kernel
theorem dX2_init_32 : decode cX2_init 32 = .ok (.dup, 1) := by decide +kernel
theorem dX2_init_33 : decode cX2_init 33 = .ok (.bipush 32, 2) := by decide +kernel
theorem dX2_init_35 : decode cX2_init 35 = .ok (.invokespecial 11, 3) := by decide +kernel
theorem dX2_init_38 : decode cX2_init 38 = .ok (.putfield 23, 3) := by decide +kernel
theorem dX2_init_41 : decode cX2_init 41 = .ok (.return_, 1) := by decide +kernel
set_option maxRecDepth 20000 in
theorem ggX2_fewestMoves_X2_list : GoodIn wsX2_fewestMoves wsX2_list := goodIn_r _ [7, 8, 9, 10, 11, 12, 13, 14, 15, 16, 45] (by decide +kernel) (by decide +kernel)
set_option maxRecDepth 20000 in
theorem gX2_fewestMoves_X2_list : GoodIn wsX2_fewestMoves (va_wsS RX2 26 yX2_list wsX2_list) := goodIn_app (goodIn_of _ (by decide +kernel)) ggX2_fewestMoves_X2_list
set_option maxRecDepth 20000 in
theorem ggX2_fewestMoves_X4_put : GoodIn wsX2_fewestMoves wsX4_put := goodIn_r _ [15, 16, 45] (by decide +kernel) (by decide +kernel)
set_option maxRecDepth 20000 in
theorem gX2_fewestMoves_X4_put : GoodIn wsX2_fewestMoves (wsV RX2 30 RX4 yX4_put wsX4_put) := goodIn_app (goodIn_of _ (by decide +kernel)) ggX2_fewestMoves_X4_put
set_option maxRecDepth 20000 in
theorem ggX2_fewestMoves_J6_bitCount_0f7a4 : GoodIn wsX2_fewestMoves wsJ6_bitCount_0f7a4 := goodIn_r _ [20, 21, 22, 23] (by decide +kernel) (by decide +kernel)
set_option maxRecDepth 20000 in
theorem gX2_fewestMoves_J6_bitCount_0f7a4 : GoodIn wsX2_fewestMoves (va_wsS RX2 34 yJ6_bitCount_0f7a4 wsJ6_bitCount_0f7a4) := goodIn_app (goodIn_of _ (by decide +kernel)) ggX2_fewestMoves_J6_bitCount_0f7a4
set_option maxRecDepth 20000 in
theorem ggX2_fewestMoves_X4_at : GoodIn wsX2_fewestMoves wsX4_at := goodIn_r _ [27, 16, 45] (by decide +kernel) (by decide +kernel)
set_option maxRecDepth 20000 in
theorem gX2_fewestMoves_X4_at : GoodIn wsX2_fewestMoves (wsV RX2 40 RX4 yX4_at wsX4_at) := goodIn_app (goodIn_of _ (by decide +kernel)) ggX2_fewestMoves_X4_at
set_option maxRecDepth 20000 in
theorem ggX2_fewestMoves_X2_fewestWith : GoodIn wsX2_fewestMoves wsX2_fewestWith := goodIn_r _ [31, 3, 2, 32, 33, 34, 35, 8, 9, 10, 24, 25, 26, 14, 27, 16, 36, 37, 6, 38, 39, 40, 41, 42, 43, 44, 45] (by decide +kernel) (by decide +kernel)
set_option maxRecDepth 20000 in
theorem gX2_fewestMoves_X2_fewestWith : GoodIn wsX2_fewestMoves (wsV RX2 43 RX2 yX2_fewestWith wsX2_fewestWith) := goodIn_app (goodIn_of _ (by decide +kernel)) ggX2_fewestMoves_X2_fewestWith
theorem dX2_fewestMoves_0 : decode cX2_fewestMoves 0 = .ok (.iload_n 1, 1) := by decide +kernel
theorem dX2_fewestMoves_1 : decode cX2_fewestMoves 1 = .ok (.aload_n 0, 1) := by decide +kernel
theorem dX2_fewestMoves_2 : decode cX2_fewestMoves 2 = .ok (.getfield 14, 3) := by decide +kernel
theorem dX2_fewestMoves_5 : decode cX2_fewestMoves 5 = .ok (.invokestatic 26, 3) := by decide +kernel
theorem dX2_fewestMoves_8 : decode cX2_fewestMoves 8 = .ok (.istore_n 3, 1) := by decide +kernel
theorem dX2_fewestMoves_9 : decode cX2_fewestMoves 9 = .ok (.iload_n 2, 1) := by decide +kernel
theorem dX2_fewestMoves_10 : decode cX2_fewestMoves 10 = .ok (.aload_n 0, 1) := by decide +kernel
theorem dX2_fewestMoves_11 : decode cX2_fewestMoves 11 = .ok (.getfield 20, 3) := by decide +kernel
theorem dX2_fewestMoves_14 : decode cX2_fewestMoves 14 = .ok (.invokestatic 26, 3) := by decide +kernel
theorem dX2_fewestMoves_17 : decode cX2_fewestMoves 17 = .ok (.pop, 1) := by decide +kernel
theorem dX2_fewestMoves_18 : decode cX2_fewestMoves 18 = .ok (.iconst 1, 1) := by decide +kernel
theorem dX2_fewestMoves_19 : decode cX2_fewestMoves 19 = .ok (.iload_n 3, 1) := by decide +kernel
theorem dX2_fewestMoves_20 : decode cX2_fewestMoves 20 = .ok (.ishl, 1) := by decide +kernel
theorem dX2_fewestMoves_21 : decode cX2_fewestMoves 21 = .ok (.iconst 1, 1) := by decide +kernel
theorem dX2_fewestMoves_22 : decode cX2_fewestMoves 22 = .ok (.isub, 1) := by decide +kernel
theorem dX2_fewestMoves_23 : decode cX2_fewestMoves 23 = .ok (.istore 4, 2) := by decide +kernel
theorem dX2_fewestMoves_25 : decode cX2_fewestMoves 25 = .ok (.aload_n 0, 1) := by decide +kernel
theorem dX2_fewestMoves_26 : decode cX2_fewestMoves 26 = .ok (.getfield 23, 3) := by decide +kernel
theorem dX2_fewestMoves_29 : decode cX2_fewestMoves 29 = .ok (.iconst 0, 1) := by decide +kernel
theorem dX2_fewestMoves_30 : decode cX2_fewestMoves 30 = .ok (.iconst 0, 1) := by decide +kernel
theorem dX2_fewestMoves_31 : decode cX2_fewestMoves 31 = .ok (.invokevirtual 30, 3) := by decide +kernel
theorem dX2_fewestMoves_34 : decode cX2_fewestMoves 34 = .ok (.iconst 1, 1) := by decide +kernel
theorem dX2_fewestMoves_35 : decode cX2_fewestMoves 35 = .ok (.istore 5, 2) := by decide +kernel
theorem dX2_fewestMoves_37 : decode cX2_fewestMoves 37 = .ok (.iload 5, 2) := by decide +kernel
theorem dX2_fewestMoves_39 : decode cX2_fewestMoves 39 = .ok (.iload 4, 2) := by decide +kernel
theorem dX2_fewestMoves_41 : decode cX2_fewestMoves 41 = .ok (.if_icmp .gt 43, 3) := by decide +kernel
theorem dX2_fewestMoves_44 : decode cX2_fewestMoves 44 = .ok (.aload_n 0, 1) := by decide +kernel
theorem dX2_fewestMoves_45 : decode cX2_fewestMoves 45 = .ok (.getfield 14, 3) := by decide +kernel
theorem dX2_fewestMoves_48 : decode cX2_fewestMoves 48 = .ok (.iload 5, 2) := by decide +kernel
theorem dX2_fewestMoves_50 : decode cX2_fewestMoves 50 = .ok (.invokestatic 34, 3) := by decide +kernel
theorem dX2_fewestMoves_53 : decode cX2_fewestMoves 53 = .ok (.iconst 1, 1) := by decide +kernel
theorem dX2_fewestMoves_54 : decode cX2_fewestMoves 54 = .ok (.isub, 1) := by decide +kernel
theorem dX2_fewestMoves_55 : decode cX2_fewestMoves 55 = .ok (.invokevirtual 40, 3) := by decide +kernel
theorem dX2_fewestMoves_58 : decode cX2_fewestMoves 58 = .ok (.istore 6, 2) := by decide +kernel
theorem dX2_fewestMoves_60 : decode cX2_fewestMoves 60 = .ok (.aload_n 0, 1) := by decide +kernel
theorem dX2_fewestMoves_61 : decode cX2_fewestMoves 61 = .ok (.getfield 23, 3) := by decide +kernel
theorem dX2_fewestMoves_64 : decode cX2_fewestMoves 64 = .ok (.iload 5, 2) := by decide +kernel
theorem dX2_fewestMoves_66 : decode cX2_fewestMoves 66 = .ok (.aload_n 0, 1) := by decide +kernel
theorem dX2_fewestMoves_67 : decode cX2_fewestMoves 67 = .ok (.iload 6, 2) := by decide +kernel
theorem dX2_fewestMoves_69 : decode cX2_fewestMoves 69 = .ok (.iload 5, 2) := by decide +kernel
theorem dX2_fewestMoves_71 : decode cX2_fewestMoves 71 = .ok (.iload_n 3, 1) := by decide +kernel
theorem dX2_fewestMoves_72 : decode cX2_fewestMoves 72 = .ok (.invokevirtual 43, 3) := by decide +kernel
theorem dX2_fewestMoves_75 : decode cX2_fewestMoves 75 = .ok (.invokevirtual 30, 3) := by decide +kernel
theorem dX2_fewestMoves_78 : decode cX2_fewestMoves 78 = .ok (.iinc 5 1, 3) := by decide +kernel
theorem dX2_fewestMoves_81 : decode cX2_fewestMoves 81 = .ok (.goto (-44), 3) := by decide +kernel
theorem dX2_fewestMoves_84 : decode cX2_fewestMoves 84 = .ok (.aload_n 0, 1) := by decide +kernel
theorem dX2_fewestMoves_85 : decode cX2_fewestMoves 85 = .ok (.getfield 23, 3) := by decide +kernel
theorem dX2_fewestMoves_88 : decode cX2_fewestMoves 88 = .ok (.iload 4, 2) := by decide +kernel
theorem dX2_fewestMoves_90 : decode cX2_fewestMoves 90 = .ok (.invokevirtual 40, 3) := by decide +kernel
theorem dX2_fewestMoves_93 : decode cX2_fewestMoves 93 = .ok (.ireturn, 1) := by decide +kernel
set_option maxRecDepth 20000 in
theorem ggX2_fewestWith_X7_has : GoodIn wsX2_fewestWith wsX7_has := goodIn_r _ [9] (by decide +kernel) (by decide +kernel)
set_option maxRecDepth 20000 in
theorem gX2_fewestWith_X7_has_n47 : GoodIn wsX2_fewestWith (wsX7_has) := ggX2_fewestWith_X7_has
set_option maxRecDepth 20000 in
theorem ggX2_fewestWith_X4_at : GoodIn wsX2_fewestWith wsX4_at := goodIn_r _ [14, 15, 26] (by decide +kernel) (by decide +kernel)
set_option maxRecDepth 20000 in
theorem gX2_fewestWith_X4_at : GoodIn wsX2_fewestWith (wsV RX2 40 RX4 yX4_at wsX4_at) := goodIn_app (goodIn_of _ (by decide +kernel)) ggX2_fewestWith_X4_at
set_option maxRecDepth 20000 in
theorem ggX2_fewestWith_X2_distance : GoodIn wsX2_fewestWith wsX2_distance := goodIn_r _ [19, 20, 21, 5, 22, 3, 4, 6] (by decide +kernel) (by decide +kernel)
set_option maxRecDepth 20000 in
theorem gX2_fewestWith_X2_distance : GoodIn wsX2_fewestWith (va_wsS RX2 51 yX2_distance wsX2_distance) := goodIn_app (goodIn_of _ (by decide +kernel)) ggX2_fewestWith_X2_distance
theorem dX2_fewestWith_0 : decode cX2_fewestWith 0 = .ok (.sipush 1000, 3) := by decide +kernel
theorem dX2_fewestWith_3 : decode cX2_fewestWith 3 = .ok (.istore 4, 2) := by decide +kernel
theorem dX2_fewestWith_5 : decode cX2_fewestWith 5 = .ok (.iconst 0, 1) := by decide +kernel
theorem dX2_fewestWith_6 : decode cX2_fewestWith 6 = .ok (.istore 5, 2) := by decide +kernel
theorem dX2_fewestWith_8 : decode cX2_fewestWith 8 = .ok (.iload 5, 2) := by decide +kernel
theorem dX2_fewestWith_10 : decode cX2_fewestWith 10 = .ok (.iload_n 3, 1) := by decide +kernel
theorem dX2_fewestWith_11 : decode cX2_fewestWith 11 = .ok (.if_icmp .ge 58, 3) := by decide +kernel
theorem dX2_fewestWith_14 : decode cX2_fewestWith 14 = .ok (.iload_n 2, 1) := by decide +kernel
theorem dX2_fewestWith_15 : decode cX2_fewestWith 15 = .ok (.iload 5, 2) := by decide +kernel
theorem dX2_fewestWith_17 : decode cX2_fewestWith 17 = .ok (.invokestatic 47, 3) := by decide +kernel
theorem dX2_fewestWith_20 : decode cX2_fewestWith 20 = .ok (.ifCond .eq 43, 3) := by decide +kernel
theorem dX2_fewestWith_23 : decode cX2_fewestWith 23 = .ok (.aload_n 0, 1) := by decide +kernel
theorem dX2_fewestWith_24 : decode cX2_fewestWith 24 = .ok (.getfield 23, 3) := by decide +kernel
theorem dX2_fewestWith_27 : decode cX2_fewestWith 27 = .ok (.iload_n 2, 1) := by decide +kernel
theorem dX2_fewestWith_28 : decode cX2_fewestWith 28 = .ok (.iconst 1, 1) := by decide +kernel
theorem dX2_fewestWith_29 : decode cX2_fewestWith 29 = .ok (.iload 5, 2) := by decide +kernel
theorem dX2_fewestWith_31 : decode cX2_fewestWith 31 = .ok (.ishl, 1) := by decide +kernel
theorem dX2_fewestWith_32 : decode cX2_fewestWith 32 = .ok (.iconst (-1), 1) := by decide +kernel
theorem dX2_fewestWith_33 : decode cX2_fewestWith 33 = .ok (.ixor, 1) := by decide +kernel
theorem dX2_fewestWith_34 : decode cX2_fewestWith 34 = .ok (.iand, 1) := by decide +kernel
theorem dX2_fewestWith_35 : decode cX2_fewestWith 35 = .ok (.invokevirtual 40, 3) := by decide +kernel
theorem dX2_fewestWith_38 : decode cX2_fewestWith 38 = .ok (.istore 6, 2) := by decide +kernel
theorem dX2_fewestWith_40 : decode cX2_fewestWith 40 = .ok (.iload 4, 2) := by decide +kernel
theorem dX2_fewestWith_42 : decode cX2_fewestWith 42 = .ok (.iload 6, 2) := by decide +kernel
theorem dX2_fewestWith_44 : decode cX2_fewestWith 44 = .ok (.iload_n 1, 1) := by decide +kernel
theorem dX2_fewestWith_45 : decode cX2_fewestWith 45 = .ok (.aload_n 0, 1) := by decide +kernel
theorem dX2_fewestWith_46 : decode cX2_fewestWith 46 = .ok (.getfield 20, 3) := by decide +kernel
theorem dX2_fewestWith_49 : decode cX2_fewestWith 49 = .ok (.iload 5, 2) := by decide +kernel
theorem dX2_fewestWith_51 : decode cX2_fewestWith 51 = .ok (.invokevirtual 40, 3) := by decide +kernel
theorem dX2_fewestWith_54 : decode cX2_fewestWith 54 = .ok (.invokestatic 51, 3) := by decide +kernel
theorem dX2_fewestWith_57 : decode cX2_fewestWith 57 = .ok (.iadd, 1) := by decide +kernel
theorem dX2_fewestWith_58 : decode cX2_fewestWith 58 = .ok (.invokestatic 55, 3) := by decide +kernel
theorem dX2_fewestWith_61 : decode cX2_fewestWith 61 = .ok (.istore 4, 2) := by decide +kernel
theorem dX2_fewestWith_63 : decode cX2_fewestWith 63 = .ok (.iinc 5 1, 3) := by decide +kernel
theorem dX2_fewestWith_66 : decode cX2_fewestWith 66 = .ok (.goto (-58), 3) := by decide +kernel
theorem dX2_fewestWith_69 : decode cX2_fewestWith 69 = .ok (.iload 4, 2) := by decide +kernel
theorem dX2_fewestWith_71 : decode cX2_fewestWith 71 = .ok (.ireturn, 1) := by decide +kernel
set_option maxRecDepth 20000 in
theorem ggX2_list_X7_has : GoodIn wsX2_list wsX7_has := goodIn_r _ [3] (by decide +kernel) (by decide +kernel)
set_option maxRecDepth 20000 in
theorem gX2_list_X7_has_n47 : GoodIn wsX2_list (wsX7_has) := ggX2_list_X7_has
set_option maxRecDepth 20000 in
theorem ggX2_list_X4_put : GoodIn wsX2_list wsX4_put := goodIn_r _ [8, 9, 10] (by decide +kernel) (by decide +kernel)
set_option maxRecDepth 20000 in
theorem gX2_list_X4_put : GoodIn wsX2_list (wsV RX2 30 RX4 yX4_put wsX4_put) := goodIn_app (goodIn_of _ (by decide +kernel)) ggX2_list_X4_put
theorem dX2_list_0 : decode cX2_list 0 = .ok (.iconst 0, 1) := by decide +kernel
theorem dX2_list_1 : decode cX2_list 1 = .ok (.istore_n 2, 1) := by decide +kernel
theorem dX2_list_2 : decode cX2_list 2 = .ok (.iconst 0, 1) := by decide +kernel
theorem dX2_list_3 : decode cX2_list 3 = .ok (.istore_n 3, 1) := by decide +kernel
theorem dX2_list_4 : decode cX2_list 4 = .ok (.iload_n 3, 1) := by decide +kernel
theorem dX2_list_5 : decode cX2_list 5 = .ok (.bipush 12, 2) := by decide +kernel
theorem dX2_list_7 : decode cX2_list 7 = .ok (.if_icmp .ge 26, 3) := by decide +kernel
theorem dX2_list_10 : decode cX2_list 10 = .ok (.iload_n 0, 1) := by decide +kernel
theorem dX2_list_11 : decode cX2_list 11 = .ok (.iload_n 3, 1) := by decide +kernel
theorem dX2_list_12 : decode cX2_list 12 = .ok (.invokestatic 47, 3) := by decide +kernel
theorem dX2_list_15 : decode cX2_list 15 = .ok (.ifCond .eq 12, 3) := by decide +kernel
theorem dX2_list_18 : decode cX2_list 18 = .ok (.aload_n 1, 1) := by decide +kernel
theorem dX2_list_19 : decode cX2_list 19 = .ok (.iload_n 2, 1) := by decide +kernel
theorem dX2_list_20 : decode cX2_list 20 = .ok (.iload_n 3, 1) := by decide +kernel
theorem dX2_list_21 : decode cX2_list 21 = .ok (.invokevirtual 30, 3) := by decide +kernel
theorem dX2_list_24 : decode cX2_list 24 = .ok (.iinc 2 1, 3) := by decide +kernel
theorem dX2_list_27 : decode cX2_list 27 = .ok (.iinc 3 1, 3) := by decide +kernel
theorem dX2_list_30 : decode cX2_list 30 = .ok (.goto (-26), 3) := by decide +kernel
theorem dX2_list_33 : decode cX2_list 33 = .ok (.iload_n 2, 1) := by decide +kernel
theorem dX2_list_34 : decode cX2_list 34 = .ok (.ireturn, 1) := by decide +kernel
theorem dX2_distance_0 : decode cX2_distance 0 = .ok (.iload_n 0, 1) := by decide +kernel
theorem dX2_distance_1 : decode cX2_distance 1 = .ok (.bipush 6, 2) := by decide +kernel
theorem dX2_distance_3 : decode cX2_distance 3 = .ok (.irem, 1) := by decide +kernel
theorem dX2_distance_4 : decode cX2_distance 4 = .ok (.iload_n 1, 1) := by decide +kernel
theorem dX2_distance_5 : decode cX2_distance 5 = .ok (.bipush 6, 2) := by decide +kernel
theorem dX2_distance_7 : decode cX2_distance 7 = .ok (.irem, 1) := by decide +kernel
theorem dX2_distance_8 : decode cX2_distance 8 = .ok (.isub, 1) := by decide +kernel
theorem dX2_distance_9 : decode cX2_distance 9 = .ok (.invokestatic 60, 3) := by decide +kernel
theorem dX2_distance_12 : decode cX2_distance 12 = .ok (.istore_n 2, 1) := by decide +kernel
theorem dX2_distance_13 : decode cX2_distance 13 = .ok (.iload_n 0, 1) := by decide +kernel
theorem dX2_distance_14 : decode cX2_distance 14 = .ok (.bipush 6, 2) := by decide +kernel
theorem dX2_distance_16 : decode cX2_distance 16 = .ok (.idiv, 1) := by decide +kernel
theorem dX2_distance_17 : decode cX2_distance 17 = .ok (.iload_n 1, 1) := by decide +kernel
theorem dX2_distance_18 : decode cX2_distance 18 = .ok (.bipush 6, 2) := by decide +kernel
theorem dX2_distance_20 : decode cX2_distance 20 = .ok (.idiv, 1) := by decide +kernel
theorem dX2_distance_21 : decode cX2_distance 21 = .ok (.isub, 1) := by decide +kernel
theorem dX2_distance_22 : decode cX2_distance 22 = .ok (.invokestatic 60, 3) := by decide +kernel
theorem dX2_distance_25 : decode cX2_distance 25 = .ok (.istore_n 3, 1) := by decide +kernel
theorem dX2_distance_26 : decode cX2_distance 26 = .ok (.iload_n 2, 1) := by decide +kernel
theorem dX2_distance_27 : decode cX2_distance 27 = .ok (.bipush 6, 2) := by decide +kernel
theorem dX2_distance_29 : decode cX2_distance 29 = .ok (.iload_n 2, 1) := by decide +kernel
theorem dX2_distance_30 : decode cX2_distance 30 = .ok (.isub, 1) := by decide +kernel
theorem dX2_distance_31 : decode cX2_distance 31 = .ok (.invokestatic 55, 3) := by decide +kernel
theorem dX2_distance_34 : decode cX2_distance 34 = .ok (.iload_n 3, 1) := by decide +kernel
theorem dX2_distance_35 : decode cX2_distance 35 = .ok (.iadd, 1) := by decide +kernel
theorem dX2_distance_36 : decode cX2_distance 36 = .ok (.ireturn, 1) := by decide +kernel
theorem dX3_init_0 : decode cX3_init 0 = .ok (.aload_n 0, 1) := by decide +kernel
theorem dX3_init_1 : decode cX3_init 1 = .ok (.invokespecial 3, 3) := by decide +kernel
theorem dX3_init_4 : decode cX3_init 4 = .ok (.aload_n 0, 1) := by decide +kernel
theorem dX3_init_5 : decode cX3_init 5 = .ok (.aload_n 1, 1) := by decide +kernel
theorem dX3_init_6 : decode cX3_init 6 = .ok (.putfield 9, 3) := by decide +kernel
theorem dX3_init_9 : decode cX3_init 9 = .ok (.return_, 1) := by decide +kernel
set_option maxRecDepth 20000 in
theorem ggX3_readThrough_X1_clear : GoodIn wsX3_readThrough wsX1_clear := goodIn_r _ [7, 8, 9, 10, 11, 12, 13, 14, 15, 16, 17, 18, 131, 132, 133, 134, 135, 136, 137, 138, 139, 140, 141, 142] (by decide +kernel) (by decide +kernel)
set_option maxRecDepth 20000 in
theorem gX3_readThrough_X1_clear : GoodIn wsX3_readThrough (wsV RX3 15 RX1 yX1_clear wsX1_clear) := goodIn_app (goodIn_of _ (by decide +kernel)) ggX3_readThrough_X1_clear
set_option maxRecDepth 20000 in
theorem ggX3_readThrough_X6_length : GoodIn wsX3_readThrough wsX6_length := goodIn_r _ [23, 24, 143, 144] (by decide +kernel) (by decide +kernel)
set_option maxRecDepth 20000 in
theorem gX3_readThrough_X6_length : GoodIn wsX3_readThrough (wsV RX3 24 RX6 yX6_length wsX6_length) := goodIn_app (goodIn_of _ (by decide +kernel)) ggX3_readThrough_X6_length
set_option maxRecDepth 20000 in
theorem ggX3_readThrough_X6_letterAt : GoodIn wsX3_readThrough wsX6_letterAt := goodIn_r _ [28, 29, 30, 31, 32, 16, 33, 18, 143, 144, 142] (by decide +kernel) (by decide +kernel)
set_option maxRecDepth 20000 in
theorem gX3_readThrough_X6_letterAt : GoodIn wsX3_readThrough (wsV RX3 30 RX6 yX6_letterAt wsX6_letterAt) := goodIn_app (goodIn_of _ (by decide +kernel)) ggX3_readThrough_X6_letterAt
set_option maxRecDepth 20000 in
theorem ggX3_readThrough_X3_takes : GoodIn wsX3_readThrough wsX3_takes := goodIn_r _ [38, 2, 39, 40, 41, 42, 37, 43, 1, 44, 45, 46, 6, 47, 8, 48, 49, 50, 51, 52, 53, 54, 55, 56, 57, 58, 9, 59, 60, 61, 62, 10, 63, 64, 65, 66, 67, 68, 69, 70, 71, 72, 73, 74, 75, 76, 77, 78, 79, 80, 81, 82, 83, 84, 85, 86, 87, 88, 89, 90, 91, 92, 93, 94, 95, 96, 97, 98, 99, 100, 101, 102, 103, 104, 105, 16, 106, 18, 107, 108, 109, 110, 111, 112, 113, 114, 115, 116, 117, 118, 11, 12, 119, 120, 121, 122, 123, 31, 32, 33, 124, 125, 126, 127, 128, 129, 130, 131, 132, 133, 134, 135, 136, 137, 138, 139, 140, 141, 142] (by decide +kernel) (by decide +kernel)
set_option maxRecDepth 20000 in
theorem gX3_readThrough_X3_takes : GoodIn wsX3_readThrough (wsV RX3 34 RX3 yX3_takes wsX3_takes) := goodIn_app (goodIn_of _ (by decide +kernel)) ggX3_readThrough_X3_takes
theorem dX3_readThrough_0 : decode cX3_readThrough 0 = .ok (.aload_n 0, 1) := by decide +kernel
theorem dX3_readThrough_1 : decode cX3_readThrough 1 = .ok (.getfield 9, 3) := by decide +kernel
theorem dX3_readThrough_4 : decode cX3_readThrough 4 = .ok (.invokevirtual 15, 3) := by decide +kernel
theorem dX3_readThrough_7 : decode cX3_readThrough 7 = .ok (.aload_n 0, 1) := by decide +kernel
theorem dX3_readThrough_8 : decode cX3_readThrough 8 = .ok (.iconst 0, 1) := by decide +kernel
theorem dX3_readThrough_9 : decode cX3_readThrough 9 = .ok (.putfield 20, 3) := by decide +kernel
theorem dX3_readThrough_12 : decode cX3_readThrough 12 = .ok (.iconst 0, 1) := by decide +kernel
theorem dX3_readThrough_13 : decode cX3_readThrough 13 = .ok (.istore_n 2, 1) := by decide +kernel
theorem dX3_readThrough_14 : decode cX3_readThrough 14 = .ok (.iload_n 2, 1) := by decide +kernel
theorem dX3_readThrough_15 : decode cX3_readThrough 15 = .ok (.aload_n 1, 1) := by decide +kernel
theorem dX3_readThrough_16 : decode cX3_readThrough 16 = .ok (.invokevirtual 24, 3) := by decide +kernel
theorem dX3_readThrough_19 : decode cX3_readThrough 19 = .ok (.if_icmp .ge 23, 3) := by decide +kernel
theorem dX3_readThrough_22 : decode cX3_readThrough 22 = .ok (.aload_n 0, 1) := by decide +kernel
theorem dX3_readThrough_23 : decode cX3_readThrough 23 = .ok (.aload_n 1, 1) := by decide +kernel
theorem dX3_readThrough_24 : decode cX3_readThrough 24 = .ok (.iload_n 2, 1) := by decide +kernel
theorem dX3_readThrough_25 : decode cX3_readThrough 25 = .ok (.invokevirtual 30, 3) := by decide +kernel
theorem dX3_readThrough_28 : decode cX3_readThrough 28 = .ok (.invokevirtual 34, 3) := by decide +kernel
theorem dX3_readThrough_31 : decode cX3_readThrough 31 = .ok (.ifCond .ne 5, 3) := by decide +kernel
theorem dX3_readThrough_34 : decode cX3_readThrough 34 = .ok (.iload_n 2, 1) := by decide +kernel
theorem dX3_readThrough_35 : decode cX3_readThrough 35 = .ok (.ireturn, 1) := by decide +kernel
theorem dX3_readThrough_36 : decode cX3_readThrough 36 = .ok (.iinc 2 1, 3) := by decide +kernel
theorem dX3_readThrough_39 : decode cX3_readThrough 39 = .ok (.goto (-25), 3) := by decide +kernel
theorem dX3_readThrough_42 : decode cX3_readThrough 42 = .ok (.aload_n 0, 1) := by decide +kernel
theorem dX3_readThrough_43 : decode cX3_readThrough 43 = .ok (.getfield 20, 3) := by decide +kernel
theorem dX3_readThrough_46 : decode cX3_readThrough 46 = .ok (.iconst 1, 1) := by decide +kernel
theorem dX3_readThrough_47 : decode cX3_readThrough 47 = .ok (.if_icmp .ne 8, 3) := by decide +kernel
theorem dX3_readThrough_50 : decode cX3_readThrough 50 = .ok (.bipush (-9), 2) := by decide +kernel
theorem dX3_readThrough_52 : decode cX3_readThrough 52 = .ok (.goto 7, 3) := by decide +kernel
theorem dX3_readThrough_55 : decode cX3_readThrough 55 = .ok (.aload_n 1, 1) := by decide +kernel
theorem dX3_readThrough_56 : decode cX3_readThrough 56 = .ok (.invokevirtual 24, 3) := by decide +kernel
theorem dX3_readThrough_59 : decode cX3_readThrough 59 = .ok (.ireturn, 1) := by decide +kernel
set_option maxRecDepth 20000 in
theorem ggX3_takes_X3_takesFirst : GoodIn wsX3_takes wsX3_takesFirst := goodIn_r _ [7, 1, 8, 9, 10, 11, 12, 13, 14, 15, 16, 17, 18, 19, 20, 21, 22, 23, 24, 25, 26, 27, 28, 29, 30, 31, 32, 100, 101, 102, 103, 104, 105, 106, 107, 108, 109, 110, 111, 112, 113, 114, 115, 116, 117] (by decide +kernel) (by decide +kernel)
set_option maxRecDepth 20000 in
theorem gX3_takes_X3_takesFirst : GoodIn wsX3_takes (wsV RX3 41 RX3 yX3_takesFirst wsX3_takesFirst) := goodIn_app (goodIn_of _ (by decide +kernel)) ggX3_takes_X3_takesFirst
set_option maxRecDepth 20000 in
theorem ggX3_takes_X3_takesOfSquare : GoodIn wsX3_takes wsX3_takesOfSquare := goodIn_r _ [36, 8, 2, 37, 1, 9, 10, 11, 12, 13, 14, 38, 39, 40, 6, 41, 42, 43, 44, 45, 46, 47, 48, 100, 101, 102, 103, 104, 105, 106, 107, 108, 109, 110, 111, 112, 113, 114, 115, 116, 117] (by decide +kernel) (by decide +kernel)
set_option maxRecDepth 20000 in
theorem gX3_takes_X3_takesOfSquare : GoodIn wsX3_takes (wsV RX3 44 RX3 yX3_takesOfSquare wsX3_takesOfSquare) := goodIn_app (goodIn_of _ (by decide +kernel)) ggX3_takes_X3_takesOfSquare
set_option maxRecDepth 20000 in
theorem ggX3_takes_X3_takesOfWish : GoodIn wsX3_takes wsX3_takesOfWish := goodIn_r _ [52, 2, 53, 54, 55, 38, 39, 40, 6, 41, 37, 42, 43, 44, 56, 57, 58, 59, 8, 1, 60, 61, 62, 12, 63, 64, 26, 65, 66, 67, 68, 69, 70, 71, 72, 73, 74, 75, 76, 77, 100, 101, 102, 103, 104, 105, 106, 107, 108, 109, 110, 111, 112, 113, 114, 115, 116, 117, 118] (by decide +kernel) (by decide +kernel)
set_option maxRecDepth 20000 in
theorem gX3_takes_X3_takesOfWish : GoodIn wsX3_takes (wsV RX3 47 RX3 yX3_takesOfWish wsX3_takesOfWish) := goodIn_app (goodIn_of _ (by decide +kernel)) ggX3_takes_X3_takesOfWish
set_option maxRecDepth 20000 in
theorem ggX3_takes_X3_takesOfOwed : GoodIn wsX3_takes wsX3_takesOfOwed := goodIn_r _ [81, 2, 8, 37, 1, 82, 83, 84, 12, 85, 31, 38, 39, 40, 6, 41, 42, 43, 44, 86, 87, 88, 89, 90, 91, 92, 93, 94, 95, 72, 73, 74, 75, 76, 77, 96, 97, 98, 99, 100, 101, 102, 103, 104, 105, 106, 107, 108, 109, 110, 111, 112, 113, 114, 115, 116, 117, 118] (by decide +kernel) (by decide +kernel)
set_option maxRecDepth 20000 in
theorem gX3_takes_X3_takesOfOwed : GoodIn wsX3_takes (wsV RX3 50 RX3 yX3_takesOfOwed wsX3_takesOfOwed) := goodIn_app (goodIn_of _ (by decide +kernel)) ggX3_takes_X3_takesOfOwed
theorem dX3_takes_0 : decode cX3_takes 0 = .ok (.aload_n 0, 1) := by decide +kernel
theorem dX3_takes_1 : decode cX3_takes 1 = .ok (.getfield 20, 3) := by decide +kernel
theorem dX3_takes_4 : decode cX3_takes 4 = .ok (.tableswitch 92 0 3 #[32, 49, 60, 76], 32) := by decide +kernel
theorem dX3_takes_36 : decode cX3_takes 36 = .ok (.aload_n 0, 1) := by decide +kernel
theorem dX3_takes_37 : decode cX3_takes 37 = .ok (.iconst 1, 1) := by decide +kernel
theorem dX3_takes_38 : decode cX3_takes 38 = .ok (.putfield 20, 3) := by decide +kernel
theorem dX3_takes_41 : decode cX3_takes 41 = .ok (.iload_n 1, 1) := by decide +kernel
theorem dX3_takes_42 : decode cX3_takes 42 = .ok (.bipush 78, 2) := by decide +kernel
theorem dX3_takes_44 : decode cX3_takes 44 = .ok (.if_icmp .ne 7, 3) := by decide +kernel
theorem dX3_takes_47 : decode cX3_takes 47 = .ok (.iconst 1, 1) := by decide +kernel
theorem dX3_takes_48 : decode cX3_takes 48 = .ok (.goto 4, 3) := by decide +kernel
theorem dX3_takes_51 : decode cX3_takes 51 = .ok (.iconst 0, 1) := by decide +kernel
theorem dX3_takes_52 : decode cX3_takes 52 = .ok (.ireturn, 1) := by decide +kernel
theorem dX3_takes_53 : decode cX3_takes 53 = .ok (.aload_n 0, 1) := by decide +kernel
theorem dX3_takes_54 : decode cX3_takes 54 = .ok (.iconst 0, 1) := by decide +kernel
theorem dX3_takes_55 : decode cX3_takes 55 = .ok (.putfield 38, 3) := by decide +kernel
theorem dX3_takes_58 : decode cX3_takes 58 = .ok (.aload_n 0, 1) := by decide +kernel
theorem dX3_takes_59 : decode cX3_takes 59 = .ok (.iload_n 1, 1) := by decide +kernel
theorem dX3_takes_60 : decode cX3_takes 60 = .ok (.invokevirtual 41, 3) := by decide +kernel
theorem dX3_takes_63 : decode cX3_takes 63 = .ok (.ireturn, 1) := by decide +kernel
theorem dX3_takes_64 : decode cX3_takes 64 = .ok (.aload_n 0, 1) := by decide +kernel
theorem dX3_takes_65 : decode cX3_takes 65 = .ok (.dup, 1) := by decide +kernel
theorem dX3_takes_66 : decode cX3_takes 66 = .ok (.getfield 38, 3) := by decide +kernel
theorem dX3_takes_69 : decode cX3_takes 69 = .ok (.iconst 1, 1) := by decide +kernel
theorem dX3_takes_70 : decode cX3_takes 70 = .ok (.iadd, 1) := by decide +kernel
theorem dX3_takes_71 : decode cX3_takes 71 = .ok (.putfield 38, 3) := by decide +kernel
theorem dX3_takes_74 : decode cX3_takes 74 = .ok (.aload_n 0, 1) := by decide +kernel
theorem dX3_takes_75 : decode cX3_takes 75 = .ok (.iload_n 1, 1) := by decide +kernel
theorem dX3_takes_76 : decode cX3_takes 76 = .ok (.invokevirtual 44, 3) := by decide +kernel
theorem dX3_takes_79 : decode cX3_takes 79 = .ok (.ireturn, 1) := by decide +kernel
theorem dX3_takes_80 : decode cX3_takes 80 = .ok (.aload_n 0, 1) := by decide +kernel
theorem dX3_takes_81 : decode cX3_takes 81 = .ok (.dup, 1) := by decide +kernel
theorem dX3_takes_82 : decode cX3_takes 82 = .ok (.getfield 38, 3) := by decide +kernel
theorem dX3_takes_85 : decode cX3_takes 85 = .ok (.iconst 1, 1) := by decide +kernel
theorem dX3_takes_86 : decode cX3_takes 86 = .ok (.iadd, 1) := by decide +kernel
theorem dX3_takes_87 : decode cX3_takes 87 = .ok (.putfield 38, 3) := by decide +kernel
theorem dX3_takes_90 : decode cX3_takes 90 = .ok (.aload_n 0, 1) := by decide +kernel
theorem dX3_takes_91 : decode cX3_takes 91 = .ok (.iload_n 1, 1) := by decide +kernel
theorem dX3_takes_92 : decode cX3_takes 92 = .ok (.invokevirtual 47, 3) := by decide +kernel
theorem dX3_takes_95 : decode cX3_takes 95 = .ok (.ireturn, 1) := by decide +kernel
theorem dX3_takes_96 : decode cX3_takes 96 = .ok (.aload_n 0, 1) := by decide +kernel
theorem dX3_takes_97 : decode cX3_takes 97 = .ok (.dup, 1) := by decide +kernel
theorem dX3_takes_98 : decode cX3_takes 98 = .ok (.getfield 38, 3) := by decide +kernel
theorem dX3_takes_101 : decode cX3_takes 101 = .ok (.iconst 1, 1) := by decide +kernel
theorem dX3_takes_102 : decode cX3_takes 102 = .ok (.iadd, 1) := by decide +kernel
theorem dX3_takes_103 : decode cX3_takes 103 = .ok (.putfield 38, 3) := by decide +kernel
theorem dX3_takes_106 : decode cX3_takes 106 = .ok (.aload_n 0, 1) := by decide +kernel
theorem dX3_takes_107 : decode cX3_takes 107 = .ok (.iload_n 1, 1) := by decide +kernel
theorem dX3_takes_108 : decode cX3_takes 108 = .ok (.invokevirtual 50, 3) := by decide +kernel
theorem dX3_takes_111 : decode cX3_takes 111 = .ok (.ireturn, 1) := by decide +kernel
set_option maxRecDepth 20000 in
theorem ggX3_takesFirst_X1_squares : GoodIn wsX3_takesFirst wsX1_squares := goodIn_r _ [7, 8, 34, 35, 36, 37, 38, 39, 40, 41, 42, 43, 44] (by decide +kernel) (by decide +kernel)
set_option maxRecDepth 20000 in
theorem gX3_takesFirst_X1_squares : GoodIn wsX3_takesFirst (wsV RX3 53 RX1 yX1_squares wsX1_squares) := goodIn_app (goodIn_of _ (by decide +kernel)) ggX3_takesFirst_X1_squares
set_option maxRecDepth 20000 in
theorem ggX3_takesFirst_J6_bitCount_0f7a4 : GoodIn wsX3_takesFirst wsJ6_bitCount_0f7a4 := goodIn_r _ [12, 13, 14, 15] (by decide +kernel) (by decide +kernel)
set_option maxRecDepth 20000 in
theorem gX3_takesFirst_J6_bitCount_0f7a4 : GoodIn wsX3_takesFirst (va_wsS RX3 56 yJ6_bitCount_0f7a4 wsJ6_bitCount_0f7a4) := goodIn_app (goodIn_of _ (by decide +kernel)) ggX3_takesFirst_J6_bitCount_0f7a4
set_option maxRecDepth 20000 in
theorem ggX3_takesFirst_X1_wishCount : GoodIn wsX3_takesFirst wsX1_wishCount := goodIn_r _ [19, 20, 34, 35, 36, 37, 38, 39, 40, 41, 42, 43, 44] (by decide +kernel) (by decide +kernel)
set_option maxRecDepth 20000 in
theorem gX3_takesFirst_X1_wishCount : GoodIn wsX3_takesFirst (wsV RX3 61 RX1 yX1_wishCount wsX1_wishCount) := goodIn_app (goodIn_of _ (by decide +kernel)) ggX3_takesFirst_X1_wishCount
set_option maxRecDepth 20000 in
theorem ggX3_takesFirst_X1_owedCount : GoodIn wsX3_takesFirst wsX1_owedCount := goodIn_r _ [24, 25, 26, 10, 11, 12, 13, 14, 15, 34, 35, 36, 37, 38, 39, 40, 41, 42, 43, 44] (by decide +kernel) (by decide +kernel)
set_option maxRecDepth 20000 in
theorem gX3_takesFirst_X1_owedCount : GoodIn wsX3_takesFirst (wsV RX3 64 RX1 yX1_owedCount wsX1_owedCount) := goodIn_app (goodIn_of _ (by decide +kernel)) ggX3_takesFirst_X1_owedCount
theorem dX3_takesFirst_0 : decode cX3_takesFirst 0 = .ok (.iload_n 1, 1) := by decide +kernel
theorem dX3_takesFirst_1 : decode cX3_takesFirst 1 = .ok (.lookupswitch 104 #[(72, 35), (79, 82), (87, 60)], 35) := by decide +kernel
theorem dX3_takesFirst_36 : decode cX3_takesFirst 36 = .ok (.aload_n 0, 1) := by decide +kernel
theorem dX3_takesFirst_37 : decode cX3_takesFirst 37 = .ok (.iconst 2, 1) := by decide +kernel
theorem dX3_takesFirst_38 : decode cX3_takesFirst 38 = .ok (.putfield 20, 3) := by decide +kernel
theorem dX3_takesFirst_41 : decode cX3_takesFirst 41 = .ok (.aload_n 0, 1) := by decide +kernel
theorem dX3_takesFirst_42 : decode cX3_takesFirst 42 = .ok (.getfield 9, 3) := by decide +kernel
theorem dX3_takesFirst_45 : decode cX3_takesFirst 45 = .ok (.invokevirtual 53, 3) := by decide +kernel
theorem dX3_takesFirst_48 : decode cX3_takesFirst 48 = .ok (.invokestatic 56, 3) := by decide +kernel
theorem dX3_takesFirst_51 : decode cX3_takesFirst 51 = .ok (.iconst 5, 1) := by decide +kernel
theorem dX3_takesFirst_52 : decode cX3_takesFirst 52 = .ok (.if_icmp .ge 7, 3) := by decide +kernel
theorem dX3_takesFirst_55 : decode cX3_takesFirst 55 = .ok (.iconst 1, 1) := by decide +kernel
theorem dX3_takesFirst_56 : decode cX3_takesFirst 56 = .ok (.goto 4, 3) := by decide +kernel
theorem dX3_takesFirst_59 : decode cX3_takesFirst 59 = .ok (.iconst 0, 1) := by decide +kernel
theorem dX3_takesFirst_60 : decode cX3_takesFirst 60 = .ok (.ireturn, 1) := by decide +kernel
theorem dX3_takesFirst_61 : decode cX3_takesFirst 61 = .ok (.aload_n 0, 1) := by decide +kernel
theorem dX3_takesFirst_62 : decode cX3_takesFirst 62 = .ok (.iconst 3, 1) := by decide +kernel
theorem dX3_takesFirst_63 : decode cX3_takesFirst 63 = .ok (.putfield 20, 3) := by decide +kernel
theorem dX3_takesFirst_66 : decode cX3_takesFirst 66 = .ok (.aload_n 0, 1) := by decide +kernel
theorem dX3_takesFirst_67 : decode cX3_takesFirst 67 = .ok (.getfield 9, 3) := by decide +kernel
theorem dX3_takesFirst_70 : decode cX3_takesFirst 70 = .ok (.invokevirtual 61, 3) := by decide +kernel
theorem dX3_takesFirst_73 : decode cX3_takesFirst 73 = .ok (.iconst 5, 1) := by decide +kernel
theorem dX3_takesFirst_74 : decode cX3_takesFirst 74 = .ok (.if_icmp .ge 7, 3) := by decide +kernel
theorem dX3_takesFirst_77 : decode cX3_takesFirst 77 = .ok (.iconst 1, 1) := by decide +kernel
theorem dX3_takesFirst_78 : decode cX3_takesFirst 78 = .ok (.goto 4, 3) := by decide +kernel
theorem dX3_takesFirst_81 : decode cX3_takesFirst 81 = .ok (.iconst 0, 1) := by decide +kernel
theorem dX3_takesFirst_82 : decode cX3_takesFirst 82 = .ok (.ireturn, 1) := by decide +kernel
theorem dX3_takesFirst_83 : decode cX3_takesFirst 83 = .ok (.aload_n 0, 1) := by decide +kernel
theorem dX3_takesFirst_84 : decode cX3_takesFirst 84 = .ok (.iconst 4, 1) := by decide +kernel
theorem dX3_takesFirst_85 : decode cX3_takesFirst 85 = .ok (.putfield 20, 3) := by decide +kernel
theorem dX3_takesFirst_88 : decode cX3_takesFirst 88 = .ok (.aload_n 0, 1) := by decide +kernel
theorem dX3_takesFirst_89 : decode cX3_takesFirst 89 = .ok (.getfield 9, 3) := by decide +kernel
theorem dX3_takesFirst_92 : decode cX3_takesFirst 92 = .ok (.invokevirtual 64, 3) := by decide +kernel
theorem dX3_takesFirst_95 : decode cX3_takesFirst 95 = .ok (.iconst 4, 1) := by decide +kernel
theorem dX3_takesFirst_96 : decode cX3_takesFirst 96 = .ok (.if_icmp .ge 7, 3) := by decide +kernel
theorem dX3_takesFirst_99 : decode cX3_takesFirst 99 = .ok (.iconst 1, 1) := by decide +kernel
theorem dX3_takesFirst_100 : decode cX3_takesFirst 100 = .ok (.goto 4, 3) := by decide +kernel
theorem dX3_takesFirst_103 : decode cX3_takesFirst 103 = .ok (.iconst 0, 1) := by decide +kernel
theorem dX3_takesFirst_104 : decode cX3_takesFirst 104 = .ok (.ireturn, 1) := by decide +kernel
theorem dX3_takesFirst_105 : decode cX3_takesFirst 105 = .ok (.iconst 0, 1) := by decide +kernel
theorem dX3_takesFirst_106 : decode cX3_takesFirst 106 = .ok (.ireturn, 1) := by decide +kernel
set_option maxRecDepth 20000 in
theorem ggX3_takesOfSquare_X1_squares : GoodIn wsX3_takesOfSquare wsX1_squares := goodIn_r _ [9, 10, 30, 31, 32, 33, 34, 35, 36, 37, 38, 39, 40] (by decide +kernel) (by decide +kernel)
set_option maxRecDepth 20000 in
theorem gX3_takesOfSquare_X1_squares : GoodIn wsX3_takesOfSquare (wsV RX3 53 RX1 yX1_squares wsX1_squares) := goodIn_app (goodIn_of _ (by decide +kernel)) ggX3_takesOfSquare_X1_squares
set_option maxRecDepth 20000 in
theorem ggX3_takesOfSquare_X3_takesOfNumber : GoodIn wsX3_takesOfSquare wsX3_takesOfNumber := goodIn_r _ [15, 2, 3, 16, 17, 18, 23, 24, 25, 26, 27, 28, 29] (by decide +kernel) (by decide +kernel)
set_option maxRecDepth 20000 in
theorem gX3_takesOfSquare_X3_takesOfNumber : GoodIn wsX3_takesOfSquare (wsV RX3 67 RX3 yX3_takesOfNumber wsX3_takesOfNumber) := goodIn_app (goodIn_of _ (by decide +kernel)) ggX3_takesOfSquare_X3_takesOfNumber
set_option maxRecDepth 20000 in
theorem ggX3_takesOfSquare_X1_addSquare : GoodIn wsX3_takesOfSquare wsX1_addSquare := goodIn_r _ [22, 10, 30, 31, 32, 33, 34, 35, 36, 37, 38, 39, 40] (by decide +kernel) (by decide +kernel)
set_option maxRecDepth 20000 in
theorem gX3_takesOfSquare_X1_addSquare : GoodIn wsX3_takesOfSquare (wsV RX3 74 RX1 yX1_addSquare wsX1_addSquare) := goodIn_app (goodIn_of _ (by decide +kernel)) ggX3_takesOfSquare_X1_addSquare
theorem dX3_takesOfSquare_0 : decode cX3_takesOfSquare 0 = .ok (.aload_n 0, 1) := by decide +kernel
theorem dX3_takesOfSquare_1 : decode cX3_takesOfSquare 1 = .ok (.iload_n 1, 1) := by decide +kernel
theorem dX3_takesOfSquare_2 : decode cX3_takesOfSquare 2 = .ok (.aload_n 0, 1) := by decide +kernel
theorem dX3_takesOfSquare_3 : decode cX3_takesOfSquare 3 = .ok (.getfield 9, 3) := by decide +kernel
theorem dX3_takesOfSquare_6 : decode cX3_takesOfSquare 6 = .ok (.invokevirtual 53, 3) := by decide +kernel
theorem dX3_takesOfSquare_9 : decode cX3_takesOfSquare 9 = .ok (.invokevirtual 67, 3) := by decide +kernel
theorem dX3_takesOfSquare_12 : decode cX3_takesOfSquare 12 = .ok (.ifCond .ne 5, 3) := by decide +kernel
theorem dX3_takesOfSquare_15 : decode cX3_takesOfSquare 15 = .ok (.iconst 0, 1) := by decide +kernel
theorem dX3_takesOfSquare_16 : decode cX3_takesOfSquare 16 = .ok (.ireturn, 1) := by decide +kernel
theorem dX3_takesOfSquare_17 : decode cX3_takesOfSquare 17 = .ok (.aload_n 0, 1) := by decide +kernel
theorem dX3_takesOfSquare_18 : decode cX3_takesOfSquare 18 = .ok (.getfield 38, 3) := by decide +kernel
theorem dX3_takesOfSquare_21 : decode cX3_takesOfSquare 21 = .ok (.iconst 2, 1) := by decide +kernel
theorem dX3_takesOfSquare_22 : decode cX3_takesOfSquare 22 = .ok (.if_icmp .ne 19, 3) := by decide +kernel
theorem dX3_takesOfSquare_25 : decode cX3_takesOfSquare 25 = .ok (.aload_n 0, 1) := by decide +kernel
theorem dX3_takesOfSquare_26 : decode cX3_takesOfSquare 26 = .ok (.getfield 9, 3) := by decide +kernel
theorem dX3_takesOfSquare_29 : decode cX3_takesOfSquare 29 = .ok (.aload_n 0, 1) := by decide +kernel
theorem dX3_takesOfSquare_30 : decode cX3_takesOfSquare 30 = .ok (.getfield 71, 3) := by decide +kernel
theorem dX3_takesOfSquare_33 : decode cX3_takesOfSquare 33 = .ok (.invokevirtual 74, 3) := by decide +kernel
theorem dX3_takesOfSquare_36 : decode cX3_takesOfSquare 36 = .ok (.aload_n 0, 1) := by decide +kernel
theorem dX3_takesOfSquare_37 : decode cX3_takesOfSquare 37 = .ok (.iconst 1, 1) := by decide +kernel
theorem dX3_takesOfSquare_38 : decode cX3_takesOfSquare 38 = .ok (.putfield 20, 3) := by decide +kernel
theorem dX3_takesOfSquare_41 : decode cX3_takesOfSquare 41 = .ok (.iconst 1, 1) := by decide +kernel
theorem dX3_takesOfSquare_42 : decode cX3_takesOfSquare 42 = .ok (.ireturn, 1) := by decide +kernel
set_option maxRecDepth 20000 in
theorem ggX3_takesOfWish_X3_takesOfNumber : GoodIn wsX3_takesOfWish wsX3_takesOfNumber := goodIn_r _ [9, 1, 10, 11, 12, 13, 40, 41, 42, 43, 44, 45, 46] (by decide +kernel) (by decide +kernel)
set_option maxRecDepth 20000 in
theorem gX3_takesOfWish_X3_takesOfNumber : GoodIn wsX3_takesOfWish (wsV RX3 67 RX3 yX3_takesOfNumber wsX3_takesOfNumber) := goodIn_app (goodIn_of _ (by decide +kernel)) ggX3_takesOfWish_X3_takesOfNumber
set_option maxRecDepth 20000 in
theorem ggX3_takesOfWish_X3_takesLastOfWish : GoodIn wsX3_takesOfWish wsX3_takesLastOfWish := goodIn_r _ [17, 18, 10, 2, 3, 4, 19, 20, 21, 22, 23, 24, 25, 26, 27, 28, 29, 30, 31, 32, 12, 33, 34, 35, 36, 37, 38, 39, 40, 41, 42, 43, 44, 45, 46, 47, 48, 49, 50, 51, 52, 53, 54, 55, 56, 57, 58] (by decide +kernel) (by decide +kernel)
set_option maxRecDepth 20000 in
theorem gX3_takesOfWish_X3_takesLastOfWish : GoodIn wsX3_takesOfWish (wsV RX3 87 RX3 yX3_takesLastOfWish wsX3_takesLastOfWish) := goodIn_app (goodIn_of _ (by decide +kernel)) ggX3_takesOfWish_X3_takesLastOfWish
theorem dX3_takesOfWish_0 : decode cX3_takesOfWish 0 = .ok (.iload_n 1, 1) := by decide +kernel
theorem dX3_takesOfWish_1 : decode cX3_takesOfWish 1 = .ok (.bipush 48, 2) := by decide +kernel
theorem dX3_takesOfWish_3 : decode cX3_takesOfWish 3 = .ok (.isub, 1) := by decide +kernel
theorem dX3_takesOfWish_4 : decode cX3_takesOfWish 4 = .ok (.istore_n 2, 1) := by decide +kernel
theorem dX3_takesOfWish_5 : decode cX3_takesOfWish 5 = .ok (.aload_n 0, 1) := by decide +kernel
theorem dX3_takesOfWish_6 : decode cX3_takesOfWish 6 = .ok (.getfield 38, 3) := by decide +kernel
theorem dX3_takesOfWish_9 : decode cX3_takesOfWish 9 = .ok (.tableswitch 106 1 5 #[35, 35, 42, 62, 84], 35) := by decide +kernel
theorem dX3_takesOfWish_44 : decode cX3_takesOfWish 44 = .ok (.aload_n 0, 1) := by decide +kernel
theorem dX3_takesOfWish_45 : decode cX3_takesOfWish 45 = .ok (.iload_n 1, 1) := by decide +kernel
theorem dX3_takesOfWish_46 : decode cX3_takesOfWish 46 = .ok (.iconst 0, 1) := by decide +kernel
theorem dX3_takesOfWish_47 : decode cX3_takesOfWish 47 = .ok (.invokevirtual 67, 3) := by decide +kernel
theorem dX3_takesOfWish_50 : decode cX3_takesOfWish 50 = .ok (.ireturn, 1) := by decide +kernel
theorem dX3_takesOfWish_51 : decode cX3_takesOfWish 51 = .ok (.aload_n 0, 1) := by decide +kernel
theorem dX3_takesOfWish_52 : decode cX3_takesOfWish 52 = .ok (.iload_n 2, 1) := by decide +kernel
theorem dX3_takesOfWish_53 : decode cX3_takesOfWish 53 = .ok (.putfield 78, 3) := by decide +kernel
theorem dX3_takesOfWish_56 : decode cX3_takesOfWish 56 = .ok (.iload_n 2, 1) := by decide +kernel
theorem dX3_takesOfWish_57 : decode cX3_takesOfWish 57 = .ok (.ifCond .lt 12, 3) := by decide +kernel
theorem dX3_takesOfWish_60 : decode cX3_takesOfWish 60 = .ok (.iload_n 2, 1) := by decide +kernel
theorem dX3_takesOfWish_61 : decode cX3_takesOfWish 61 = .ok (.iconst 5, 1) := by decide +kernel
theorem dX3_takesOfWish_62 : decode cX3_takesOfWish 62 = .ok (.if_icmp .gt 7, 3) := by decide +kernel
theorem dX3_takesOfWish_65 : decode cX3_takesOfWish 65 = .ok (.iconst 1, 1) := by decide +kernel
theorem dX3_takesOfWish_66 : decode cX3_takesOfWish 66 = .ok (.goto 4, 3) := by decide +kernel
theorem dX3_takesOfWish_69 : decode cX3_takesOfWish 69 = .ok (.iconst 0, 1) := by decide +kernel
theorem dX3_takesOfWish_70 : decode cX3_takesOfWish 70 = .ok (.ireturn, 1) := by decide +kernel
theorem dX3_takesOfWish_71 : decode cX3_takesOfWish 71 = .ok (.aload_n 0, 1) := by decide +kernel
theorem dX3_takesOfWish_72 : decode cX3_takesOfWish 72 = .ok (.iload_n 2, 1) := by decide +kernel
theorem dX3_takesOfWish_73 : decode cX3_takesOfWish 73 = .ok (.putfield 81, 3) := by decide +kernel
theorem dX3_takesOfWish_76 : decode cX3_takesOfWish 76 = .ok (.iload_n 2, 1) := by decide +kernel
theorem dX3_takesOfWish_77 : decode cX3_takesOfWish 77 = .ok (.iconst 1, 1) := by decide +kernel
theorem dX3_takesOfWish_78 : decode cX3_takesOfWish 78 = .ok (.if_icmp .lt 13, 3) := by decide +kernel
theorem dX3_takesOfWish_81 : decode cX3_takesOfWish 81 = .ok (.iload_n 2, 1) := by decide +kernel
theorem dX3_takesOfWish_82 : decode cX3_takesOfWish 82 = .ok (.bipush 6, 2) := by decide +kernel
theorem dX3_takesOfWish_84 : decode cX3_takesOfWish 84 = .ok (.if_icmp .gt 7, 3) := by decide +kernel
theorem dX3_takesOfWish_87 : decode cX3_takesOfWish 87 = .ok (.iconst 1, 1) := by decide +kernel
theorem dX3_takesOfWish_88 : decode cX3_takesOfWish 88 = .ok (.goto 4, 3) := by decide +kernel
theorem dX3_takesOfWish_91 : decode cX3_takesOfWish 91 = .ok (.iconst 0, 1) := by decide +kernel
theorem dX3_takesOfWish_92 : decode cX3_takesOfWish 92 = .ok (.ireturn, 1) := by decide +kernel
theorem dX3_takesOfWish_93 : decode cX3_takesOfWish 93 = .ok (.aload_n 0, 1) := by decide +kernel
theorem dX3_takesOfWish_94 : decode cX3_takesOfWish 94 = .ok (.iload_n 2, 1) := by decide +kernel
theorem dX3_takesOfWish_95 : decode cX3_takesOfWish 95 = .ok (.putfield 84, 3) := by decide +kernel
theorem dX3_takesOfWish_98 : decode cX3_takesOfWish 98 = .ok (.iload_n 2, 1) := by decide +kernel
theorem dX3_takesOfWish_99 : decode cX3_takesOfWish 99 = .ok (.iconst 1, 1) := by decide +kernel
theorem dX3_takesOfWish_100 : decode cX3_takesOfWish 100 = .ok (.if_icmp .lt 13, 3) := by decide +kernel
theorem dX3_takesOfWish_103 : decode cX3_takesOfWish 103 = .ok (.iload_n 2, 1) := by decide +kernel
theorem dX3_takesOfWish_104 : decode cX3_takesOfWish 104 = .ok (.bipush 9, 2) := by decide +kernel
theorem dX3_takesOfWish_106 : decode cX3_takesOfWish 106 = .ok (.if_icmp .gt 7, 3) := by decide +kernel
theorem dX3_takesOfWish_109 : decode cX3_takesOfWish 109 = .ok (.iconst 1, 1) := by decide +kernel
theorem dX3_takesOfWish_110 : decode cX3_takesOfWish 110 = .ok (.goto 4, 3) := by decide +kernel
theorem dX3_takesOfWish_113 : decode cX3_takesOfWish 113 = .ok (.iconst 0, 1) := by decide +kernel
theorem dX3_takesOfWish_114 : decode cX3_takesOfWish 114 = .ok (.ireturn, 1) := by decide +kernel
theorem dX3_takesOfWish_115 : decode cX3_takesOfWish 115 = .ok (.aload_n 0, 1) := by decide +kernel
theorem dX3_takesOfWish_116 : decode cX3_takesOfWish 116 = .ok (.iload_n 1, 1) := by decide +kernel
theorem dX3_takesOfWish_117 : decode cX3_takesOfWish 117 = .ok (.invokevirtual 87, 3) := by decide +kernel
theorem dX3_takesOfWish_120 : decode cX3_takesOfWish 120 = .ok (.ireturn, 1) := by decide +kernel
set_option maxRecDepth 20000 in
theorem ggX3_takesLastOfWish_X1_addWish : GoodIn wsX3_takesLastOfWish wsX1_addWish := goodIn_r _ [11, 12, 13, 14, 15, 16, 17, 18, 19, 20, 21, 22, 23, 24, 25, 26, 27, 35, 36, 37, 38, 39, 40, 41, 42, 43, 44, 45, 46] (by decide +kernel) (by decide +kernel)
set_option maxRecDepth 20000 in
theorem gX3_takesLastOfWish_X1_addWish : GoodIn wsX3_takesLastOfWish (wsV RX3 90 RX1 yX1_addWish wsX1_addWish) := goodIn_app (goodIn_of _ (by decide +kernel)) ggX3_takesLastOfWish_X1_addWish
theorem dX3_takesLastOfWish_0 : decode cX3_takesLastOfWish 0 = .ok (.iload_n 1, 1) := by decide +kernel
theorem dX3_takesLastOfWish_1 : decode cX3_takesLastOfWish 1 = .ok (.bipush 100, 2) := by decide +kernel
theorem dX3_takesLastOfWish_3 : decode cX3_takesLastOfWish 3 = .ok (.if_icmp .eq 11, 3) := by decide +kernel
theorem dX3_takesLastOfWish_6 : decode cX3_takesLastOfWish 6 = .ok (.iload_n 1, 1) := by decide +kernel
theorem dX3_takesLastOfWish_7 : decode cX3_takesLastOfWish 7 = .ok (.bipush 108, 2) := by decide +kernel
theorem dX3_takesLastOfWish_9 : decode cX3_takesLastOfWish 9 = .ok (.if_icmp .eq 5, 3) := by decide +kernel
theorem dX3_takesLastOfWish_12 : decode cX3_takesLastOfWish 12 = .ok (.iconst 0, 1) := by decide +kernel
theorem dX3_takesLastOfWish_13 : decode cX3_takesLastOfWish 13 = .ok (.ireturn, 1) := by decide +kernel
theorem dX3_takesLastOfWish_14 : decode cX3_takesLastOfWish 14 = .ok (.aload_n 0, 1) := by decide +kernel
theorem dX3_takesLastOfWish_15 : decode cX3_takesLastOfWish 15 = .ok (.getfield 9, 3) := by decide +kernel
theorem dX3_takesLastOfWish_18 : decode cX3_takesLastOfWish 18 = .ok (.aload_n 0, 1) := by decide +kernel
theorem dX3_takesLastOfWish_19 : decode cX3_takesLastOfWish 19 = .ok (.getfield 71, 3) := by decide +kernel
theorem dX3_takesLastOfWish_22 : decode cX3_takesLastOfWish 22 = .ok (.aload_n 0, 1) := by decide +kernel
theorem dX3_takesLastOfWish_23 : decode cX3_takesLastOfWish 23 = .ok (.getfield 78, 3) := by decide +kernel
theorem dX3_takesLastOfWish_26 : decode cX3_takesLastOfWish 26 = .ok (.aload_n 0, 1) := by decide +kernel
theorem dX3_takesLastOfWish_27 : decode cX3_takesLastOfWish 27 = .ok (.getfield 81, 3) := by decide +kernel
theorem dX3_takesLastOfWish_30 : decode cX3_takesLastOfWish 30 = .ok (.aload_n 0, 1) := by decide +kernel
theorem dX3_takesLastOfWish_31 : decode cX3_takesLastOfWish 31 = .ok (.getfield 84, 3) := by decide +kernel
theorem dX3_takesLastOfWish_34 : decode cX3_takesLastOfWish 34 = .ok (.iload_n 1, 1) := by decide +kernel
theorem dX3_takesLastOfWish_35 : decode cX3_takesLastOfWish 35 = .ok (.bipush 100, 2) := by decide +kernel
theorem dX3_takesLastOfWish_37 : decode cX3_takesLastOfWish 37 = .ok (.if_icmp .ne 7, 3) := by decide +kernel
theorem dX3_takesLastOfWish_40 : decode cX3_takesLastOfWish 40 = .ok (.iconst 1, 1) := by decide +kernel
theorem dX3_takesLastOfWish_41 : decode cX3_takesLastOfWish 41 = .ok (.goto 4, 3) := by decide +kernel
theorem dX3_takesLastOfWish_44 : decode cX3_takesLastOfWish 44 = .ok (.iconst 0, 1) := by decide +kernel
theorem dX3_takesLastOfWish_45 : decode cX3_takesLastOfWish 45 = .ok (.invokevirtual 90, 3) := by decide +kernel
theorem dX3_takesLastOfWish_48 : decode cX3_takesLastOfWish 48 = .ok (.aload_n 0, 1) := by decide +kernel
theorem dX3_takesLastOfWish_49 : decode cX3_takesLastOfWish 49 = .ok (.iconst 1, 1) := by decide +kernel
theorem dX3_takesLastOfWish_50 : decode cX3_takesLastOfWish 50 = .ok (.putfield 20, 3) := by decide +kernel
theorem dX3_takesLastOfWish_53 : decode cX3_takesLastOfWish 53 = .ok (.iconst 1, 1) := by decide +kernel
theorem dX3_takesLastOfWish_54 : decode cX3_takesLastOfWish 54 = .ok (.ireturn, 1) := by decide +kernel
set_option maxRecDepth 20000 in
theorem ggX3_takesOfOwed_X1_owedPlaces : GoodIn wsX3_takesOfOwed wsX1_owedPlaces := goodIn_r _ [9, 10, 46, 47, 48, 49, 50, 51, 52, 53, 54, 55, 56] (by decide +kernel) (by decide +kernel)
set_option maxRecDepth 20000 in
theorem gX3_takesOfOwed_X1_owedPlaces : GoodIn wsX3_takesOfOwed (wsV RX3 94 RX1 yX1_owedPlaces wsX1_owedPlaces) := goodIn_app (goodIn_of _ (by decide +kernel)) ggX3_takesOfOwed_X1_owedPlaces
set_option maxRecDepth 20000 in
theorem ggX3_takesOfOwed_X3_takesOfNumber : GoodIn wsX3_takesOfOwed wsX3_takesOfNumber := goodIn_r _ [15, 1, 3, 16, 17, 18, 39, 40, 41, 42, 43, 44, 45] (by decide +kernel) (by decide +kernel)
set_option maxRecDepth 20000 in
theorem gX3_takesOfOwed_X3_takesOfNumber : GoodIn wsX3_takesOfOwed (wsV RX3 67 RX3 yX3_takesOfNumber wsX3_takesOfNumber) := goodIn_app (goodIn_of _ (by decide +kernel)) ggX3_takesOfOwed_X3_takesOfNumber
set_option maxRecDepth 20000 in
theorem ggX3_takesOfOwed_X1_addOwed : GoodIn wsX3_takesOfOwed wsX1_addOwed := goodIn_r _ [22, 10, 23, 24, 25, 26, 27, 28, 29, 30, 31, 32, 33, 34, 35, 36, 37, 38, 46, 47, 48, 49, 50, 51, 52, 53, 54, 55, 56, 57] (by decide +kernel) (by decide +kernel)
set_option maxRecDepth 20000 in
theorem gX3_takesOfOwed_X1_addOwed : GoodIn wsX3_takesOfOwed (wsV RX3 97 RX1 yX1_addOwed wsX1_addOwed) := goodIn_app (goodIn_of _ (by decide +kernel)) ggX3_takesOfOwed_X1_addOwed
theorem dX3_takesOfOwed_0 : decode cX3_takesOfOwed 0 = .ok (.aload_n 0, 1) := by decide +kernel
theorem dX3_takesOfOwed_1 : decode cX3_takesOfOwed 1 = .ok (.getfield 38, 3) := by decide +kernel
theorem dX3_takesOfOwed_4 : decode cX3_takesOfOwed 4 = .ok (.iconst 3, 1) := by decide +kernel
theorem dX3_takesOfOwed_5 : decode cX3_takesOfOwed 5 = .ok (.if_icmp .ge 16, 3) := by decide +kernel
theorem dX3_takesOfOwed_8 : decode cX3_takesOfOwed 8 = .ok (.aload_n 0, 1) := by decide +kernel
theorem dX3_takesOfOwed_9 : decode cX3_takesOfOwed 9 = .ok (.iload_n 1, 1) := by decide +kernel
theorem dX3_takesOfOwed_10 : decode cX3_takesOfOwed 10 = .ok (.aload_n 0, 1) := by decide +kernel
theorem dX3_takesOfOwed_11 : decode cX3_takesOfOwed 11 = .ok (.getfield 9, 3) := by decide +kernel
theorem dX3_takesOfOwed_14 : decode cX3_takesOfOwed 14 = .ok (.invokevirtual 94, 3) := by decide +kernel
theorem dX3_takesOfOwed_17 : decode cX3_takesOfOwed 17 = .ok (.invokevirtual 67, 3) := by decide +kernel
theorem dX3_takesOfOwed_20 : decode cX3_takesOfOwed 20 = .ok (.ireturn, 1) := by decide +kernel
theorem dX3_takesOfOwed_21 : decode cX3_takesOfOwed 21 = .ok (.iload_n 1, 1) := by decide +kernel
theorem dX3_takesOfOwed_22 : decode cX3_takesOfOwed 22 = .ok (.bipush 48, 2) := by decide +kernel
theorem dX3_takesOfOwed_24 : decode cX3_takesOfOwed 24 = .ok (.isub, 1) := by decide +kernel
theorem dX3_takesOfOwed_25 : decode cX3_takesOfOwed 25 = .ok (.istore_n 2, 1) := by decide +kernel
theorem dX3_takesOfOwed_26 : decode cX3_takesOfOwed 26 = .ok (.iload_n 2, 1) := by decide +kernel
theorem dX3_takesOfOwed_27 : decode cX3_takesOfOwed 27 = .ok (.iconst 1, 1) := by decide +kernel
theorem dX3_takesOfOwed_28 : decode cX3_takesOfOwed 28 = .ok (.if_icmp .lt 9, 3) := by decide +kernel
theorem dX3_takesOfOwed_31 : decode cX3_takesOfOwed 31 = .ok (.iload_n 2, 1) := by decide +kernel
theorem dX3_takesOfOwed_32 : decode cX3_takesOfOwed 32 = .ok (.bipush 6, 2) := by decide +kernel
theorem dX3_takesOfOwed_34 : decode cX3_takesOfOwed 34 = .ok (.if_icmp .le 5, 3) := by decide +kernel
theorem dX3_takesOfOwed_37 : decode cX3_takesOfOwed 37 = .ok (.iconst 0, 1) := by decide +kernel
theorem dX3_takesOfOwed_38 : decode cX3_takesOfOwed 38 = .ok (.ireturn, 1) := by decide +kernel
theorem dX3_takesOfOwed_39 : decode cX3_takesOfOwed 39 = .ok (.aload_n 0, 1) := by decide +kernel
theorem dX3_takesOfOwed_40 : decode cX3_takesOfOwed 40 = .ok (.getfield 9, 3) := by decide +kernel
theorem dX3_takesOfOwed_43 : decode cX3_takesOfOwed 43 = .ok (.aload_n 0, 1) := by decide +kernel
theorem dX3_takesOfOwed_44 : decode cX3_takesOfOwed 44 = .ok (.getfield 71, 3) := by decide +kernel
theorem dX3_takesOfOwed_47 : decode cX3_takesOfOwed 47 = .ok (.iload_n 2, 1) := by decide +kernel
theorem dX3_takesOfOwed_48 : decode cX3_takesOfOwed 48 = .ok (.invokevirtual 97, 3) := by decide +kernel
theorem dX3_takesOfOwed_51 : decode cX3_takesOfOwed 51 = .ok (.aload_n 0, 1) := by decide +kernel
theorem dX3_takesOfOwed_52 : decode cX3_takesOfOwed 52 = .ok (.iconst 1, 1) := by decide +kernel
theorem dX3_takesOfOwed_53 : decode cX3_takesOfOwed 53 = .ok (.putfield 20, 3) := by decide +kernel
theorem dX3_takesOfOwed_56 : decode cX3_takesOfOwed 56 = .ok (.iconst 1, 1) := by decide +kernel
theorem dX3_takesOfOwed_57 : decode cX3_takesOfOwed 57 = .ok (.ireturn, 1) := by decide +kernel
set_option maxRecDepth 20000 in
theorem ggX3_takesOfNumber_X7_has : GoodIn wsX3_takesOfNumber wsX7_has := goodIn_r _ [5] (by decide +kernel) (by decide +kernel)
set_option maxRecDepth 20000 in
theorem gX3_takesOfNumber_X7_has_n101 : GoodIn wsX3_takesOfNumber (wsX7_has) := ggX3_takesOfNumber_X7_has
theorem dX3_takesOfNumber_0 : decode cX3_takesOfNumber 0 = .ok (.iload_n 1, 1) := by decide +kernel
theorem dX3_takesOfNumber_1 : decode cX3_takesOfNumber 1 = .ok (.bipush 48, 2) := by decide +kernel
theorem dX3_takesOfNumber_3 : decode cX3_takesOfNumber 3 = .ok (.isub, 1) := by decide +kernel
theorem dX3_takesOfNumber_4 : decode cX3_takesOfNumber 4 = .ok (.istore_n 3, 1) := by decide +kernel
theorem dX3_takesOfNumber_5 : decode cX3_takesOfNumber 5 = .ok (.aload_n 0, 1) := by decide +kernel
theorem dX3_takesOfNumber_6 : decode cX3_takesOfNumber 6 = .ok (.getfield 38, 3) := by decide +kernel
theorem dX3_takesOfNumber_9 : decode cX3_takesOfNumber 9 = .ok (.iconst 1, 1) := by decide +kernel
theorem dX3_takesOfNumber_10 : decode cX3_takesOfNumber 10 = .ok (.if_icmp .ne 50, 3) := by decide +kernel
theorem dX3_takesOfNumber_13 : decode cX3_takesOfNumber 13 = .ok (.iload_n 3, 1) := by decide +kernel
theorem dX3_takesOfNumber_14 : decode cX3_takesOfNumber 14 = .ok (.ifCond .ne 9, 3) := by decide +kernel
theorem dX3_takesOfNumber_17 : decode cX3_takesOfNumber 17 = .ok (.sipush 1023, 3) := by decide +kernel
theorem dX3_takesOfNumber_20 : decode cX3_takesOfNumber 20 = .ok (.goto 15, 3) := by decide +kernel
theorem dX3_takesOfNumber_23 : decode cX3_takesOfNumber 23 = .ok (.iload_n 3, 1) := by decide +kernel
theorem dX3_takesOfNumber_24 : decode cX3_takesOfNumber 24 = .ok (.iconst 1, 1) := by decide +kernel
theorem dX3_takesOfNumber_25 : decode cX3_takesOfNumber 25 = .ok (.if_icmp .ne 9, 3) := by decide +kernel
theorem dX3_takesOfNumber_28 : decode cX3_takesOfNumber 28 = .ok (.sipush 3072, 3) := by decide +kernel
theorem dX3_takesOfNumber_31 : decode cX3_takesOfNumber 31 = .ok (.goto 4, 3) := by decide +kernel
theorem dX3_takesOfNumber_34 : decode cX3_takesOfNumber 34 = .ok (.iconst 0, 1) := by decide +kernel
theorem dX3_takesOfNumber_35 : decode cX3_takesOfNumber 35 = .ok (.istore 4, 2) := by decide +kernel
theorem dX3_takesOfNumber_37 : decode cX3_takesOfNumber 37 = .ok (.aload_n 0, 1) := by decide +kernel
theorem dX3_takesOfNumber_38 : decode cX3_takesOfNumber 38 = .ok (.bipush 10, 2) := by decide +kernel
theorem dX3_takesOfNumber_40 : decode cX3_takesOfNumber 40 = .ok (.iload_n 3, 1) := by decide +kernel
theorem dX3_takesOfNumber_41 : decode cX3_takesOfNumber 41 = .ok (.imul, 1) := by decide +kernel
theorem dX3_takesOfNumber_42 : decode cX3_takesOfNumber 42 = .ok (.putfield 71, 3) := by decide +kernel
theorem dX3_takesOfNumber_45 : decode cX3_takesOfNumber 45 = .ok (.iload 4, 2) := by decide +kernel
theorem dX3_takesOfNumber_47 : decode cX3_takesOfNumber 47 = .ok (.iload_n 2, 1) := by decide +kernel
theorem dX3_takesOfNumber_48 : decode cX3_takesOfNumber 48 = .ok (.iconst (-1), 1) := by decide +kernel
theorem dX3_takesOfNumber_49 : decode cX3_takesOfNumber 49 = .ok (.ixor, 1) := by decide +kernel
theorem dX3_takesOfNumber_50 : decode cX3_takesOfNumber 50 = .ok (.iand, 1) := by decide +kernel
theorem dX3_takesOfNumber_51 : decode cX3_takesOfNumber 51 = .ok (.ifCond .eq 7, 3) := by decide +kernel
theorem dX3_takesOfNumber_54 : decode cX3_takesOfNumber 54 = .ok (.iconst 1, 1) := by decide +kernel
theorem dX3_takesOfNumber_55 : decode cX3_takesOfNumber 55 = .ok (.goto 4, 3) := by decide +kernel
theorem dX3_takesOfNumber_58 : decode cX3_takesOfNumber 58 = .ok (.iconst 0, 1) := by decide +kernel
theorem dX3_takesOfNumber_59 : decode cX3_takesOfNumber 59 = .ok (.ireturn, 1) := by decide +kernel
theorem dX3_takesOfNumber_60 : decode cX3_takesOfNumber 60 = .ok (.aload_n 0, 1) := by decide +kernel
theorem dX3_takesOfNumber_61 : decode cX3_takesOfNumber 61 = .ok (.dup, 1) := by decide +kernel
theorem dX3_takesOfNumber_62 : decode cX3_takesOfNumber 62 = .ok (.getfield 71, 3) := by decide +kernel
theorem dX3_takesOfNumber_65 : decode cX3_takesOfNumber 65 = .ok (.iload_n 3, 1) := by decide +kernel
theorem dX3_takesOfNumber_66 : decode cX3_takesOfNumber 66 = .ok (.iadd, 1) := by decide +kernel
theorem dX3_takesOfNumber_67 : decode cX3_takesOfNumber 67 = .ok (.putfield 71, 3) := by decide +kernel
theorem dX3_takesOfNumber_70 : decode cX3_takesOfNumber 70 = .ok (.iload_n 3, 1) := by decide +kernel
theorem dX3_takesOfNumber_71 : decode cX3_takesOfNumber 71 = .ok (.ifCond .lt 33, 3) := by decide +kernel
theorem dX3_takesOfNumber_74 : decode cX3_takesOfNumber 74 = .ok (.iload_n 3, 1) := by decide +kernel
theorem dX3_takesOfNumber_75 : decode cX3_takesOfNumber 75 = .ok (.bipush 9, 2) := by decide +kernel
theorem dX3_takesOfNumber_77 : decode cX3_takesOfNumber 77 = .ok (.if_icmp .gt 27, 3) := by decide +kernel
theorem dX3_takesOfNumber_80 : decode cX3_takesOfNumber 80 = .ok (.aload_n 0, 1) := by decide +kernel
theorem dX3_takesOfNumber_81 : decode cX3_takesOfNumber 81 = .ok (.getfield 71, 3) := by decide +kernel
theorem dX3_takesOfNumber_84 : decode cX3_takesOfNumber 84 = .ok (.bipush 12, 2) := by decide +kernel
theorem dX3_takesOfNumber_86 : decode cX3_takesOfNumber 86 = .ok (.if_icmp .ge 18, 3) := by decide +kernel
theorem dX3_takesOfNumber_89 : decode cX3_takesOfNumber 89 = .ok (.iload_n 2, 1) := by decide +kernel
theorem dX3_takesOfNumber_90 : decode cX3_takesOfNumber 90 = .ok (.aload_n 0, 1) := by decide +kernel
theorem dX3_takesOfNumber_91 : decode cX3_takesOfNumber 91 = .ok (.getfield 71, 3) := by decide +kernel
theorem dX3_takesOfNumber_94 : decode cX3_takesOfNumber 94 = .ok (.invokestatic 101, 3) := by decide +kernel
theorem dX3_takesOfNumber_97 : decode cX3_takesOfNumber 97 = .ok (.ifCond .ne 7, 3) := by decide +kernel
theorem dX3_takesOfNumber_100 : decode cX3_takesOfNumber 100 = .ok (.iconst 1, 1) := by decide +kernel
theorem dX3_takesOfNumber_101 : decode cX3_takesOfNumber 101 = .ok (.goto 4, 3) := by decide +kernel
theorem dX3_takesOfNumber_104 : decode cX3_takesOfNumber 104 = .ok (.iconst 0, 1) := by decide +kernel
theorem dX3_takesOfNumber_105 : decode cX3_takesOfNumber 105 = .ok (.ireturn, 1) := by decide +kernel
theorem dX4_init_0 : decode cX4_init 0 = .ok (.aload_n 0, 1) := by decide +kernel
theorem dX4_init_1 : decode cX4_init 1 = .ok (.invokespecial 1, 3) := by decide +kernel
theorem dX4_init_4 : decode cX4_init 4 = .ok (.aload_n 0, 1) := by decide +kernel
theorem dX4_init_5 : decode cX4_init 5 = .ok (.iload_n 1, 1) := by decide +kernel
theorem dX4_init_6 : decode cX4_init 6 = .ok (.iconst 0, 1) := by decide +kernel
theorem dX4_init_7 : decode cX4_init 7 = .ok (.invokestatic 7, 3) := by decide +kernel
theorem dX4_init_10 : decode cX4_init 10 = .ok (.newarray .int, 2) := by decide +kernel
theorem dX4_init_12 : decode cX4_init 12 = .ok (.putfield 13, 3) := by decide +kernel
theorem dX4_init_15 : decode cX4_init 15 = .ok (.return_, 1) := by decide +kernel
theorem dX4_at_0 : decode cX4_at 0 = .ok (.iload_n 1, 1) := by decide +kernel
theorem dX4_at_1 : decode cX4_at 1 = .ok (.ifCond .lt 21, 3) := by decide +kernel
theorem dX4_at_4 : decode cX4_at 4 = .ok (.iload_n 1, 1) := by decide +kernel
theorem dX4_at_5 : decode cX4_at 5 = .ok (.aload_n 0, 1) := by decide +kernel
theorem dX4_at_6 : decode cX4_at 6 = .ok (.getfield 13, 3) := by decide +kernel
theorem dX4_at_9 : decode cX4_at 9 = .ok (.arraylength, 1) := by decide +kernel
theorem dX4_at_10 : decode cX4_at 10 = .ok (.if_icmp .ge 12, 3) := by decide +kernel
theorem dX4_at_13 : decode cX4_at 13 = .ok (.aload_n 0, 1) := by decide +kernel
theorem dX4_at_14 : decode cX4_at 14 = .ok (.getfield 13, 3) := by decide +kernel
theorem dX4_at_17 : decode cX4_at 17 = .ok (.iload_n 1, 1) := by decide +kernel
theorem dX4_at_18 : decode cX4_at 18 = .ok (.iaload, 1) := by decide +kernel
theorem dX4_at_19 : decode cX4_at 19 = .ok (.goto 4, 3) := by decide +kernel
theorem dX4_at_22 : decode cX4_at 22 = .ok (.iconst 0, 1) := by decide +kernel
theorem dX4_at_23 : decode cX4_at 23 = .ok (.ireturn, 1) := by decide +kernel
theorem dX4_put_0 : decode cX4_put 0 = .ok (.iload_n 1, 1) := by decide +kernel
theorem dX4_put_1 : decode cX4_put 1 = .ok (.ifCond .lt 19, 3) := by decide +kernel
theorem dX4_put_4 : decode cX4_put 4 = .ok (.iload_n 1, 1) := by decide +kernel
theorem dX4_put_5 : decode cX4_put 5 = .ok (.aload_n 0, 1) := by decide +kernel
theorem dX4_put_6 : decode cX4_put 6 = .ok (.getfield 13, 3) := by decide +kernel
theorem dX4_put_9 : decode cX4_put 9 = .ok (.arraylength, 1) := by decide +kernel
theorem dX4_put_10 : decode cX4_put 10 = .ok (.if_icmp .ge 10, 3) := by decide +kernel
theorem dX4_put_13 : decode cX4_put 13 = .ok (.aload_n 0, 1) := by decide +kernel
theorem dX4_put_14 : decode cX4_put 14 = .ok (.getfield 13, 3) := by decide +kernel
theorem dX4_put_17 : decode cX4_put 17 = .ok (.iload_n 1, 1) := by decide +kernel
theorem dX4_put_18 : decode cX4_put 18 = .ok (.iload_n 2, 1) := by decide +kernel
theorem dX4_put_19 : decode cX4_put 19 = .ok (.iastore, 1) := by decide +kernel
theorem dX4_put_20 : decode cX4_put 20 = .ok (.return_, 1) := by decide +kernel
theorem dX4_fill_0 : decode cX4_fill 0 = .ok (.iconst 0, 1) := by decide +kernel
theorem dX4_fill_1 : decode cX4_fill 1 = .ok (.istore_n 2, 1) := by decide +kernel
theorem dX4_fill_2 : decode cX4_fill 2 = .ok (.iload_n 2, 1) := by decide +kernel
theorem dX4_fill_3 : decode cX4_fill 3 = .ok (.aload_n 0, 1) := by decide +kernel
theorem dX4_fill_4 : decode cX4_fill 4 = .ok (.getfield 13, 3) := by decide +kernel
theorem dX4_fill_7 : decode cX4_fill 7 = .ok (.arraylength, 1) := by decide +kernel
theorem dX4_fill_8 : decode cX4_fill 8 = .ok (.if_icmp .ge 16, 3) := by decide +kernel
theorem dX4_fill_11 : decode cX4_fill 11 = .ok (.aload_n 0, 1) := by decide +kernel
theorem dX4_fill_12 : decode cX4_fill 12 = .ok (.getfield 13, 3) := by decide +kernel
theorem dX4_fill_15 : decode cX4_fill 15 = .ok (.iload_n 2, 1) := by decide +kernel
theorem dX4_fill_16 : decode cX4_fill 16 = .ok (.iload_n 1, 1) := by decide +kernel
theorem dX4_fill_17 : decode cX4_fill 17 = .ok (.iastore, 1) := by decide +kernel
theorem dX4_fill_18 : decode cX4_fill 18 = .ok (.iinc 2 1, 3) := by decide +kernel
theorem dX4_fill_21 : decode cX4_fill 21 = .ok (.goto (-19), 3) := by decide +kernel
theorem dX4_fill_24 : decode cX4_fill 24 = .ok (.return_, 1) := by decide +kernel
set_option maxRecDepth 20000 in
theorem ggX5_init_X4_init : GoodIn wsX5_init wsX4_init := goodIn_r _ [14, 15, 2, 3, 16, 17, 18, 19, 20, 21, 22] (by decide +kernel) (by decide +kernel)
set_option maxRecDepth 20000 in
theorem gX5_init_X4_init : GoodIn wsX5_init (wsX4_init) := ggX5_init_X4_init
theorem dX5_init_0 : decode cX5_init 0 = .ok (.aload_n 0, 1) := by decide +kernel
theorem dX5_init_1 : decode cX5_init 1 = .ok (.invokespecial 3, 3) := by decide +kernel
theorem dX5_init_4 : decode cX5_init 4 = .ok (.aload_n 0, 1) := by decide +kernel
theorem dX5_init_5 : decode cX5_init 5 = .ok (.new 9, 3) := by decide +kernel
theorem dX5_init_8 : decode cX5_init 8 = .ok (.dup, 1) := by decide +kernel
theorem dX5_init_9 : decode cX5_init 9 = .ok (.bipush 6, 2) := by decide +kernel
theorem dX5_init_11 : decode cX5_init 11 = .ok (.invokespecial 13, 3) := by decide +kernel
theorem dX5_init_14 : decode cX5_init 14 = .ok (.putfield 16, 3) := by decide +kernel
theorem dX5_init_17 : decode cX5_init 17 = .ok (.aload_n 0, 1) := by decide +kernel
theorem dX5_init_18 : decode cX5_init 18 = .ok (.new 9, 3) := by decide +kernel
theorem dX5_init_21 : decode cX5_init 21 = .ok (.dup, 1) := by decide +kernel
theorem dX5_init_22 : decode cX5_init 22 = .ok (.bipush 6, 2) := by decide +kernel
theorem dX5_init_24 : decode cX5_init 24 = .ok (.invokespecial 13, 3) := by decide +kernel
theorem dX5_init_27 : decode cX5_init 27 = .ok (.putfield 20, 3) := by decide +kernel
theorem dX5_init_30 : decode cX5_init 30 = .ok (.aload_n 0, 1) := by decide +kernel
theorem dX5_init_31 : decode cX5_init 31 = .ok (.new 9, 3) := by decide +kernel
theorem dX5_init_34 : decode cX5_init 34 = .ok (.dup, 1) := by decide +kernel
theorem dX5_init_35 : decode cX5_init 35 = .ok (.bipush 6, 2) := by decide +kernel
theorem dX5_init_37 : decode cX5_init 37 = .ok (.invokespecial 13, 3) := by decide +kernel
theorem dX5_init_40 : decode cX5_init 40 = .ok (.putfield 23, 3) := by decide +kernel
theorem dX5_init_43 : decode cX5_init 43 = .ok (.aload_n 0, 1) := by decide +kernel
theorem dX5_init_44 : decode cX5_init 44 = .ok (.new 9, 3) := by decide +kernel
theorem dX5_init_47 : decode cX5_init 47 = .ok (.dup, 1) := by decide +kernel
theorem dX5_init_48 : decode cX5_init 48 = .ok (.bipush 6, 2) := by decide +kernel
theorem dX5_init_50 : decode cX5_init 50 = .ok (.invokespecial 13, 3) := by decide +kernel
theorem dX5_init_53 : decode cX5_init 53 = .ok (.putfield 26, 3) := by decide +kernel
theorem dX5_init_56 : decode cX5_init 56 = .ok (.aload_n 0, 1) := by decide +kernel
theorem dX5_init_57 : decode cX5_init 57 = .ok (.aload_n 1, 1) := by decide +kernel
theorem dX5_init_58 : decode cX5_init 58 = .ok (.putfield 29, 3) := by decide +kernel
theorem dX5_init_61 : decode cX5_init 61 = .ok (.return_, 1) := by decide +kernel
theorem dX5_forget_0 : decode cX5_forget 0 = .ok (.aload_n 0, 1) := by decide +kernel
theorem dX5_forget_1 : decode cX5_forget 1 = .ok (.iconst 0, 1) := by decide +kernel
theorem dX5_forget_2 : decode cX5_forget 2 = .ok (.putfield 33, 3) := by decide +kernel
theorem dX5_forget_5 : decode cX5_forget 5 = .ok (.return_, 1) := by decide +kernel
set_option maxRecDepth 20000 in
theorem ggX5_lawfulOf_X5_make : GoodIn wsX5_lawfulOf wsX5_make := goodIn_r _ [6, 7, 1, 8, 9, 10, 11, 12, 13, 14, 15, 16, 17, 18, 19, 20, 21, 22, 23, 24, 25, 26, 27, 28, 29, 30, 31, 32, 33, 34, 35, 36, 37, 38, 39, 40, 41, 5, 42, 43, 44, 45, 46, 47, 48, 49, 50, 51, 52, 53, 54, 55, 56, 57, 58, 59, 60, 61, 62, 63, 64, 65, 66, 67, 68, 69, 70, 71, 72, 73, 74, 75, 76, 77, 78, 79, 80, 81, 82, 83, 84] (by decide +kernel) (by decide +kernel)
set_option maxRecDepth 20000 in
theorem gX5_lawfulOf_X5_make : GoodIn wsX5_lawfulOf (wsV RX5 37 RX5 yX5_make wsX5_make) := goodIn_app (goodIn_of _ (by decide +kernel)) ggX5_lawfulOf_X5_make
set_option maxRecDepth 20000 in
theorem ggX5_lawfulOf_X4_at : GoodIn wsX5_lawfulOf wsX4_at := goodIn_r _ [38, 17, 73] (by decide +kernel) (by decide +kernel)
set_option maxRecDepth 20000 in
theorem gX5_lawfulOf_X4_at : GoodIn wsX5_lawfulOf (wsV RX5 40 RX4 yX4_at wsX4_at) := goodIn_app (goodIn_of _ (by decide +kernel)) ggX5_lawfulOf_X4_at
theorem dX5_lawfulOf_0 : decode cX5_lawfulOf 0 = .ok (.aload_n 0, 1) := by decide +kernel
theorem dX5_lawfulOf_1 : decode cX5_lawfulOf 1 = .ok (.invokevirtual 37, 3) := by decide +kernel
theorem dX5_lawfulOf_4 : decode cX5_lawfulOf 4 = .ok (.aload_n 0, 1) := by decide +kernel
theorem dX5_lawfulOf_5 : decode cX5_lawfulOf 5 = .ok (.getfield 16, 3) := by decide +kernel
theorem dX5_lawfulOf_8 : decode cX5_lawfulOf 8 = .ok (.iload_n 1, 1) := by decide +kernel
theorem dX5_lawfulOf_9 : decode cX5_lawfulOf 9 = .ok (.invokevirtual 40, 3) := by decide +kernel
theorem dX5_lawfulOf_12 : decode cX5_lawfulOf 12 = .ok (.ireturn, 1) := by decide +kernel
set_option maxRecDepth 20000 in
theorem ggX5_bestOf_X5_make : GoodIn wsX5_bestOf wsX5_make := goodIn_r _ [6, 7, 8, 9, 1, 10, 11, 12, 13, 14, 15, 16, 17, 18, 19, 20, 21, 22, 23, 24, 25, 26, 27, 28, 29, 30, 31, 32, 33, 34, 35, 36, 37, 38, 39, 40, 41, 5, 42, 43, 44, 45, 46, 47, 48, 49, 50, 51, 52, 53, 54, 55, 56, 57, 58, 59, 60, 61, 62, 63, 64, 65, 66, 67, 68, 69, 70, 71, 72, 73, 74, 75, 76, 77, 78, 79, 80, 81, 82, 83, 84] (by decide +kernel) (by decide +kernel)
set_option maxRecDepth 20000 in
theorem gX5_bestOf_X5_make : GoodIn wsX5_bestOf (wsV RX5 37 RX5 yX5_make wsX5_make) := goodIn_app (goodIn_of _ (by decide +kernel)) ggX5_bestOf_X5_make
set_option maxRecDepth 20000 in
theorem ggX5_bestOf_X4_at : GoodIn wsX5_bestOf wsX4_at := goodIn_r _ [38, 17, 73] (by decide +kernel) (by decide +kernel)
set_option maxRecDepth 20000 in
theorem gX5_bestOf_X4_at : GoodIn wsX5_bestOf (wsV RX5 40 RX4 yX4_at wsX4_at) := goodIn_app (goodIn_of _ (by decide +kernel)) ggX5_bestOf_X4_at
theorem dX5_bestOf_0 : decode cX5_bestOf 0 = .ok (.aload_n 0, 1) := by decide +kernel
theorem dX5_bestOf_1 : decode cX5_bestOf 1 = .ok (.invokevirtual 37, 3) := by decide +kernel
theorem dX5_bestOf_4 : decode cX5_bestOf 4 = .ok (.aload_n 0, 1) := by decide +kernel
theorem dX5_bestOf_5 : decode cX5_bestOf 5 = .ok (.getfield 23, 3) := by decide +kernel
theorem dX5_bestOf_8 : decode cX5_bestOf 8 = .ok (.iload_n 1, 1) := by decide +kernel
theorem dX5_bestOf_9 : decode cX5_bestOf 9 = .ok (.invokevirtual 40, 3) := by decide +kernel
theorem dX5_bestOf_12 : decode cX5_bestOf 12 = .ok (.ireturn, 1) := by decide +kernel
set_option maxRecDepth 20000 in
theorem ggX5_canGrant_X5_make : GoodIn wsX5_canGrant wsX5_make := goodIn_r _ [6, 7, 8, 1, 9, 10, 11, 12, 13, 14, 15, 16, 17, 18, 19, 20, 21, 22, 23, 24, 25, 26, 27, 28, 29, 30, 31, 32, 33, 34, 35, 36, 37, 38, 39, 40, 41, 5, 42, 43, 44, 45, 46, 47, 48, 49, 50, 51, 52, 53, 54, 55, 56, 57, 58, 59, 60, 61, 62, 63, 64, 65, 66, 67, 68, 69, 70, 71, 72, 73, 74, 75, 76, 77, 78, 79, 80, 81, 82, 83, 84] (by decide +kernel) (by decide +kernel)
set_option maxRecDepth 20000 in
theorem gX5_canGrant_X5_make : GoodIn wsX5_canGrant (wsV RX5 37 RX5 yX5_make wsX5_make) := goodIn_app (goodIn_of _ (by decide +kernel)) ggX5_canGrant_X5_make
set_option maxRecDepth 20000 in
theorem ggX5_canGrant_X4_at : GoodIn wsX5_canGrant wsX4_at := goodIn_r _ [38, 17, 73] (by decide +kernel) (by decide +kernel)
set_option maxRecDepth 20000 in
theorem gX5_canGrant_X4_at : GoodIn wsX5_canGrant (wsV RX5 40 RX4 yX4_at wsX4_at) := goodIn_app (goodIn_of _ (by decide +kernel)) ggX5_canGrant_X4_at
set_option maxRecDepth 20000 in
theorem ggX5_canGrant_X7_has : GoodIn wsX5_canGrant wsX7_has := goodIn_r _ [57] (by decide +kernel) (by decide +kernel)
set_option maxRecDepth 20000 in
theorem gX5_canGrant_X7_has_n44 : GoodIn wsX5_canGrant (wsX7_has) := ggX5_canGrant_X7_has
theorem dX5_canGrant_0 : decode cX5_canGrant 0 = .ok (.aload_n 0, 1) := by decide +kernel
theorem dX5_canGrant_1 : decode cX5_canGrant 1 = .ok (.invokevirtual 37, 3) := by decide +kernel
theorem dX5_canGrant_4 : decode cX5_canGrant 4 = .ok (.iconst 0, 1) := by decide +kernel
theorem dX5_canGrant_5 : decode cX5_canGrant 5 = .ok (.istore_n 3, 1) := by decide +kernel
theorem dX5_canGrant_6 : decode cX5_canGrant 6 = .ok (.iload_n 3, 1) := by decide +kernel
theorem dX5_canGrant_7 : decode cX5_canGrant 7 = .ok (.bipush 32, 2) := by decide +kernel
theorem dX5_canGrant_9 : decode cX5_canGrant 9 = .ok (.if_icmp .ge 34, 3) := by decide +kernel
theorem dX5_canGrant_12 : decode cX5_canGrant 12 = .ok (.aload_n 0, 1) := by decide +kernel
theorem dX5_canGrant_13 : decode cX5_canGrant 13 = .ok (.getfield 20, 3) := by decide +kernel
theorem dX5_canGrant_16 : decode cX5_canGrant 16 = .ok (.iload_n 1, 1) := by decide +kernel
theorem dX5_canGrant_17 : decode cX5_canGrant 17 = .ok (.invokevirtual 40, 3) := by decide +kernel
theorem dX5_canGrant_20 : decode cX5_canGrant 20 = .ok (.iload_n 3, 1) := by decide +kernel
theorem dX5_canGrant_21 : decode cX5_canGrant 21 = .ok (.invokestatic 44, 3) := by decide +kernel
theorem dX5_canGrant_24 : decode cX5_canGrant 24 = .ok (.ifCond .eq 13, 3) := by decide +kernel
theorem dX5_canGrant_27 : decode cX5_canGrant 27 = .ok (.iload_n 2, 1) := by decide +kernel
theorem dX5_canGrant_28 : decode cX5_canGrant 28 = .ok (.iload_n 3, 1) := by decide +kernel
theorem dX5_canGrant_29 : decode cX5_canGrant 29 = .ok (.iconst (-1), 1) := by decide +kernel
theorem dX5_canGrant_30 : decode cX5_canGrant 30 = .ok (.ixor, 1) := by decide +kernel
theorem dX5_canGrant_31 : decode cX5_canGrant 31 = .ok (.iand, 1) := by decide +kernel
theorem dX5_canGrant_32 : decode cX5_canGrant 32 = .ok (.ifCond .ne 5, 3) := by decide +kernel
theorem dX5_canGrant_35 : decode cX5_canGrant 35 = .ok (.iconst 1, 1) := by decide +kernel
theorem dX5_canGrant_36 : decode cX5_canGrant 36 = .ok (.ireturn, 1) := by decide +kernel
theorem dX5_canGrant_37 : decode cX5_canGrant 37 = .ok (.iinc 3 1, 3) := by decide +kernel
theorem dX5_canGrant_40 : decode cX5_canGrant 40 = .ok (.goto (-34), 3) := by decide +kernel
theorem dX5_canGrant_43 : decode cX5_canGrant 43 = .ok (.iconst 0, 1) := by decide +kernel
theorem dX5_canGrant_44 : decode cX5_canGrant 44 = .ok (.ireturn, 1) := by decide +kernel
set_option maxRecDepth 20000 in
theorem ggX5_mostWorth_X5_make : GoodIn wsX5_mostWorth wsX5_make := goodIn_r _ [11, 12, 13, 1, 14, 15, 2, 16, 17, 18, 19, 20, 21, 22, 23, 24, 25, 26, 27, 28, 29, 30, 31, 32, 33, 34, 35, 36, 37, 38, 39, 40, 41, 42, 43, 44, 45, 10, 46, 47, 48, 49, 50, 51, 52, 53, 54, 55, 56, 57, 58, 59, 60, 61, 62, 63, 64, 65, 66, 67, 68, 69, 70, 71, 72, 73, 74, 75, 76, 77, 78, 79, 80, 81, 82, 83, 84, 85, 86, 87, 88] (by decide +kernel) (by decide +kernel)
set_option maxRecDepth 20000 in
theorem gX5_mostWorth_X5_make : GoodIn wsX5_mostWorth (wsV RX5 37 RX5 yX5_make wsX5_make) := goodIn_app (goodIn_of _ (by decide +kernel)) ggX5_mostWorth_X5_make
set_option maxRecDepth 20000 in
theorem ggX5_mostWorth_X4_at : GoodIn wsX5_mostWorth wsX4_at := goodIn_r _ [42, 21, 77] (by decide +kernel) (by decide +kernel)
set_option maxRecDepth 20000 in
theorem gX5_mostWorth_X4_at : GoodIn wsX5_mostWorth (wsV RX5 40 RX4 yX4_at wsX4_at) := goodIn_app (goodIn_of _ (by decide +kernel)) ggX5_mostWorth_X4_at
set_option maxRecDepth 20000 in
theorem ggX5_mostWorth_X7_has : GoodIn wsX5_mostWorth wsX7_has := goodIn_r _ [61] (by decide +kernel) (by decide +kernel)
set_option maxRecDepth 20000 in
theorem gX5_mostWorth_X7_has_n44 : GoodIn wsX5_mostWorth (wsX7_has) := ggX5_mostWorth_X7_has
set_option maxRecDepth 20000 in
theorem ggX5_mostWorth_X1_sumOf : GoodIn wsX5_mostWorth wsX1_sumOf := goodIn_r _ [58, 52, 59, 60, 23, 61, 39, 40, 41, 19, 42, 21, 78, 79, 80, 81, 82, 83, 84, 85, 86, 87, 88, 77] (by decide +kernel) (by decide +kernel)
set_option maxRecDepth 20000 in
theorem gX5_mostWorth_X1_sumOf : GoodIn wsX5_mostWorth (wsV RX5 48 RX1 yX1_sumOf wsX1_sumOf) := goodIn_app (goodIn_of _ (by decide +kernel)) ggX5_mostWorth_X1_sumOf
theorem dX5_mostWorth_0 : decode cX5_mostWorth 0 = .ok (.aload_n 0, 1) := by decide +kernel
theorem dX5_mostWorth_1 : decode cX5_mostWorth 1 = .ok (.invokevirtual 37, 3) := by decide +kernel
theorem dX5_mostWorth_4 : decode cX5_mostWorth 4 = .ok (.iconst 0, 1) := by decide +kernel
theorem dX5_mostWorth_5 : decode cX5_mostWorth 5 = .ok (.istore_n 3, 1) := by decide +kernel
theorem dX5_mostWorth_6 : decode cX5_mostWorth 6 = .ok (.iconst 0, 1) := by decide +kernel
theorem dX5_mostWorth_7 : decode cX5_mostWorth 7 = .ok (.istore 4, 2) := by decide +kernel
theorem dX5_mostWorth_9 : decode cX5_mostWorth 9 = .ok (.iload 4, 2) := by decide +kernel
theorem dX5_mostWorth_11 : decode cX5_mostWorth 11 = .ok (.bipush 32, 2) := by decide +kernel
theorem dX5_mostWorth_13 : decode cX5_mostWorth 13 = .ok (.if_icmp .ge 41, 3) := by decide +kernel
theorem dX5_mostWorth_16 : decode cX5_mostWorth 16 = .ok (.aload_n 0, 1) := by decide +kernel
theorem dX5_mostWorth_17 : decode cX5_mostWorth 17 = .ok (.getfield 20, 3) := by decide +kernel
theorem dX5_mostWorth_20 : decode cX5_mostWorth 20 = .ok (.iload_n 1, 1) := by decide +kernel
theorem dX5_mostWorth_21 : decode cX5_mostWorth 21 = .ok (.invokevirtual 40, 3) := by decide +kernel
theorem dX5_mostWorth_24 : decode cX5_mostWorth 24 = .ok (.iload 4, 2) := by decide +kernel
theorem dX5_mostWorth_26 : decode cX5_mostWorth 26 = .ok (.invokestatic 44, 3) := by decide +kernel
theorem dX5_mostWorth_29 : decode cX5_mostWorth 29 = .ok (.ifCond .eq 19, 3) := by decide +kernel
theorem dX5_mostWorth_32 : decode cX5_mostWorth 32 = .ok (.iload_n 3, 1) := by decide +kernel
theorem dX5_mostWorth_33 : decode cX5_mostWorth 33 = .ok (.aload_n 0, 1) := by decide +kernel
theorem dX5_mostWorth_34 : decode cX5_mostWorth 34 = .ok (.getfield 29, 3) := by decide +kernel
theorem dX5_mostWorth_37 : decode cX5_mostWorth 37 = .ok (.iload 4, 2) := by decide +kernel
theorem dX5_mostWorth_39 : decode cX5_mostWorth 39 = .ok (.iload_n 2, 1) := by decide +kernel
theorem dX5_mostWorth_40 : decode cX5_mostWorth 40 = .ok (.iand, 1) := by decide +kernel
theorem dX5_mostWorth_41 : decode cX5_mostWorth 41 = .ok (.invokevirtual 48, 3) := by decide +kernel
theorem dX5_mostWorth_44 : decode cX5_mostWorth 44 = .ok (.invokestatic 53, 3) := by decide +kernel
theorem dX5_mostWorth_47 : decode cX5_mostWorth 47 = .ok (.istore_n 3, 1) := by decide +kernel
theorem dX5_mostWorth_48 : decode cX5_mostWorth 48 = .ok (.iinc 4 1, 3) := by decide +kernel
theorem dX5_mostWorth_51 : decode cX5_mostWorth 51 = .ok (.goto (-42), 3) := by decide +kernel
theorem dX5_mostWorth_54 : decode cX5_mostWorth 54 = .ok (.iload_n 3, 1) := by decide +kernel
theorem dX5_mostWorth_55 : decode cX5_mostWorth 55 = .ok (.ireturn, 1) := by decide +kernel
set_option maxRecDepth 20000 in
theorem ggX5_make_X4_fill : GoodIn wsX5_make wsX4_fill := goodIn_r _ [11, 12, 69] (by decide +kernel) (by decide +kernel)
set_option maxRecDepth 20000 in
theorem gX5_make_X4_fill : GoodIn wsX5_make (wsV RX5 59 RX4 yX4_fill wsX4_fill) := goodIn_app (goodIn_of _ (by decide +kernel)) ggX5_make_X4_fill
set_option maxRecDepth 20000 in
theorem ggX5_make_X7_isHanging : GoodIn wsX5_make wsX7_isHanging := goodIn_r _ [15, 16, 17, 18, 19, 20, 21, 22] (by decide +kernel) (by decide +kernel)
set_option maxRecDepth 20000 in
theorem gX5_make_X7_isHanging_n62 : GoodIn wsX5_make (wsX7_isHanging) := ggX5_make_X7_isHanging
set_option maxRecDepth 20000 in
theorem ggX5_make_X1_allows : GoodIn wsX5_make wsX1_allows := goodIn_r _ [27, 28, 29, 17, 18, 19, 20, 21, 22, 30, 31, 32, 10, 33, 12, 70, 71, 72, 73, 74, 75, 76, 77, 78, 79, 80, 69] (by decide +kernel) (by decide +kernel)
set_option maxRecDepth 20000 in
theorem gX5_make_X1_allows : GoodIn wsX5_make (wsV RX5 66 RX1 yX1_allows wsX1_allows) := goodIn_app (goodIn_of _ (by decide +kernel)) ggX5_make_X1_allows
set_option maxRecDepth 20000 in
theorem ggX5_make_X5_enter : GoodIn wsX5_make wsX5_enter := goodIn_r _ [38, 6, 2, 3, 5, 4, 39, 17, 18, 19, 20, 21, 22, 40, 41, 42, 26, 43, 44, 45, 46, 30, 31, 32, 10, 33, 12, 47, 48, 49, 50, 51, 52, 14, 53, 54, 55, 56, 57, 58, 63, 64, 65, 66, 67, 68, 70, 71, 72, 73, 74, 75, 76, 77, 78, 79, 80, 69] (by decide +kernel) (by decide +kernel)
set_option maxRecDepth 20000 in
theorem gX5_make_X5_enter : GoodIn wsX5_make (wsV RX5 69 RX5 yX5_enter wsX5_enter) := goodIn_app (goodIn_of _ (by decide +kernel)) ggX5_make_X5_enter
set_option maxRecDepth 20000 in
theorem ggX5_make_X5_addThoseOfFewer : GoodIn wsX5_make wsX5_addThoseOfFewer := goodIn_r _ [62, 3, 5, 4, 54, 31, 32, 10, 33, 12, 55, 56, 57, 58, 63, 64, 65, 66, 67, 68, 69] (by decide +kernel) (by decide +kernel)
set_option maxRecDepth 20000 in
theorem gX5_make_X5_addThoseOfFewer : GoodIn wsX5_make (wsV RX5 72 RX5 yX5_addThoseOfFewer wsX5_addThoseOfFewer) := goodIn_app (goodIn_of _ (by decide +kernel)) ggX5_make_X5_addThoseOfFewer
theorem dX5_make_0 : decode cX5_make 0 = .ok (.aload_n 0, 1) := by decide +kernel
theorem dX5_make_1 : decode cX5_make 1 = .ok (.getfield 33, 3) := by decide +kernel
theorem dX5_make_4 : decode cX5_make 4 = .ok (.ifCond .eq 4, 3) := by decide +kernel
theorem dX5_make_7 : decode cX5_make 7 = .ok (.return_, 1) := by decide +kernel
theorem dX5_make_8 : decode cX5_make 8 = .ok (.aload_n 0, 1) := by decide +kernel
theorem dX5_make_9 : decode cX5_make 9 = .ok (.iconst 1, 1) := by decide +kernel
theorem dX5_make_10 : decode cX5_make 10 = .ok (.putfield 33, 3) := by decide +kernel
theorem dX5_make_13 : decode cX5_make 13 = .ok (.aload_n 0, 1) := by decide +kernel
theorem dX5_make_14 : decode cX5_make 14 = .ok (.getfield 16, 3) := by decide +kernel
theorem dX5_make_17 : decode cX5_make 17 = .ok (.iconst 0, 1) := by decide +kernel
theorem dX5_make_18 : decode cX5_make 18 = .ok (.invokevirtual 59, 3) := by decide +kernel
theorem dX5_make_21 : decode cX5_make 21 = .ok (.aload_n 0, 1) := by decide +kernel
theorem dX5_make_22 : decode cX5_make 22 = .ok (.getfield 20, 3) := by decide +kernel
theorem dX5_make_25 : decode cX5_make 25 = .ok (.iconst 0, 1) := by decide +kernel
theorem dX5_make_26 : decode cX5_make 26 = .ok (.invokevirtual 59, 3) := by decide +kernel
theorem dX5_make_29 : decode cX5_make 29 = .ok (.aload_n 0, 1) := by decide +kernel
theorem dX5_make_30 : decode cX5_make 30 = .ok (.getfield 23, 3) := by decide +kernel
theorem dX5_make_33 : decode cX5_make 33 = .ok (.bipush (-9), 2) := by decide +kernel
theorem dX5_make_35 : decode cX5_make 35 = .ok (.invokevirtual 59, 3) := by decide +kernel
theorem dX5_make_38 : decode cX5_make 38 = .ok (.aload_n 0, 1) := by decide +kernel
theorem dX5_make_39 : decode cX5_make 39 = .ok (.getfield 26, 3) := by decide +kernel
theorem dX5_make_42 : decode cX5_make 42 = .ok (.iconst (-1), 1) := by decide +kernel
theorem dX5_make_43 : decode cX5_make 43 = .ok (.invokevirtual 59, 3) := by decide +kernel
theorem dX5_make_46 : decode cX5_make 46 = .ok (.iconst 0, 1) := by decide +kernel
theorem dX5_make_47 : decode cX5_make 47 = .ok (.istore_n 1, 1) := by decide +kernel
theorem dX5_make_48 : decode cX5_make 48 = .ok (.iload_n 1, 1) := by decide +kernel
theorem dX5_make_49 : decode cX5_make 49 = .ok (.sipush 4096, 3) := by decide +kernel
theorem dX5_make_52 : decode cX5_make 52 = .ok (.if_icmp .ge 32, 3) := by decide +kernel
theorem dX5_make_55 : decode cX5_make 55 = .ok (.iload_n 1, 1) := by decide +kernel
theorem dX5_make_56 : decode cX5_make 56 = .ok (.invokestatic 62, 3) := by decide +kernel
theorem dX5_make_59 : decode cX5_make 59 = .ok (.ifCond .eq 19, 3) := by decide +kernel
theorem dX5_make_62 : decode cX5_make 62 = .ok (.aload_n 0, 1) := by decide +kernel
theorem dX5_make_63 : decode cX5_make 63 = .ok (.getfield 29, 3) := by decide +kernel
theorem dX5_make_66 : decode cX5_make 66 = .ok (.iload_n 1, 1) := by decide +kernel
theorem dX5_make_67 : decode cX5_make 67 = .ok (.invokevirtual 66, 3) := by decide +kernel
theorem dX5_make_70 : decode cX5_make 70 = .ok (.ifCond .eq 8, 3) := by decide +kernel
theorem dX5_make_73 : decode cX5_make 73 = .ok (.aload_n 0, 1) := by decide +kernel
theorem dX5_make_74 : decode cX5_make 74 = .ok (.iload_n 1, 1) := by decide +kernel
theorem dX5_make_75 : decode cX5_make 75 = .ok (.invokevirtual 69, 3) := by decide +kernel
theorem dX5_make_78 : decode cX5_make 78 = .ok (.iinc 1 1, 3) := by decide +kernel
theorem dX5_make_81 : decode cX5_make 81 = .ok (.goto (-33), 3) := by decide +kernel
theorem dX5_make_84 : decode cX5_make 84 = .ok (.iconst 1, 1) := by decide +kernel
theorem dX5_make_85 : decode cX5_make 85 = .ok (.istore_n 1, 1) := by decide +kernel
theorem dX5_make_86 : decode cX5_make 86 = .ok (.iload_n 1, 1) := by decide +kernel
theorem dX5_make_87 : decode cX5_make 87 = .ok (.bipush 6, 2) := by decide +kernel
theorem dX5_make_89 : decode cX5_make 89 = .ok (.if_icmp .ge 14, 3) := by decide +kernel
theorem dX5_make_92 : decode cX5_make 92 = .ok (.aload_n 0, 1) := by decide +kernel
theorem dX5_make_93 : decode cX5_make 93 = .ok (.iload_n 1, 1) := by decide +kernel
theorem dX5_make_94 : decode cX5_make 94 = .ok (.invokevirtual 72, 3) := by decide +kernel
theorem dX5_make_97 : decode cX5_make 97 = .ok (.iinc 1 1, 3) := by decide +kernel
theorem dX5_make_100 : decode cX5_make 100 = .ok (.goto (-14), 3) := by decide +kernel
theorem dX5_make_103 : decode cX5_make 103 = .ok (.return_, 1) := by decide +kernel
set_option maxRecDepth 20000 in
theorem ggX5_enter_J6_bitCount_0f7a4 : GoodIn wsX5_enter wsJ6_bitCount_0f7a4 := goodIn_r _ [9, 10, 11, 12] (by decide +kernel) (by decide +kernel)
set_option maxRecDepth 20000 in
theorem gX5_enter_J6_bitCount_0f7a4 : GoodIn wsX5_enter (va_wsS RX5 75 yJ6_bitCount_0f7a4 wsJ6_bitCount_0f7a4) := goodIn_app (goodIn_of _ (by decide +kernel)) ggX5_enter_J6_bitCount_0f7a4
set_option maxRecDepth 20000 in
theorem ggX5_enter_X1_grantedBy : GoodIn wsX5_enter wsX1_grantedBy := goodIn_r _ [17, 18, 19, 20, 21, 22, 23, 24, 25, 26, 46, 47, 48, 49, 50, 51, 52, 53, 54, 55, 56, 57] (by decide +kernel) (by decide +kernel)
set_option maxRecDepth 20000 in
theorem gX5_enter_X1_grantedBy : GoodIn wsX5_enter (wsV RX5 80 RX1 yX1_grantedBy wsX1_grantedBy) := goodIn_app (goodIn_of _ (by decide +kernel)) ggX5_enter_X1_grantedBy
set_option maxRecDepth 20000 in
theorem ggX5_enter_X1_sumOf : GoodIn wsX5_enter wsX1_sumOf := goodIn_r _ [30, 18, 31, 32, 33, 34, 21, 22, 23, 24, 25, 26, 46, 47, 48, 49, 50, 51, 52, 53, 54, 55, 56, 57] (by decide +kernel) (by decide +kernel)
set_option maxRecDepth 20000 in
theorem gX5_enter_X1_sumOf : GoodIn wsX5_enter (wsV RX5 48 RX1 yX1_sumOf wsX1_sumOf) := goodIn_app (goodIn_of _ (by decide +kernel)) ggX5_enter_X1_sumOf
set_option maxRecDepth 20000 in
theorem ggX5_enter_X4_at : GoodIn wsX5_enter wsX4_at := goodIn_r _ [25, 26, 57] (by decide +kernel) (by decide +kernel)
set_option maxRecDepth 20000 in
theorem gX5_enter_X4_at : GoodIn wsX5_enter (wsV RX5 40 RX4 yX4_at wsX4_at) := goodIn_app (goodIn_of _ (by decide +kernel)) ggX5_enter_X4_at
set_option maxRecDepth 20000 in
theorem ggX5_enter_X4_put : GoodIn wsX5_enter wsX4_put := goodIn_r _ [39, 26, 57] (by decide +kernel) (by decide +kernel)
set_option maxRecDepth 20000 in
theorem gX5_enter_X4_put : GoodIn wsX5_enter (wsV RX5 83 RX4 yX4_put wsX4_put) := goodIn_app (goodIn_of _ (by decide +kernel)) ggX5_enter_X4_put
theorem dX5_enter_0 : decode cX5_enter 0 = .ok (.iload_n 1, 1) := by decide +kernel
theorem dX5_enter_1 : decode cX5_enter 1 = .ok (.invokestatic 75, 3) := by decide +kernel
theorem dX5_enter_4 : decode cX5_enter 4 = .ok (.istore_n 2, 1) := by decide +kernel
theorem dX5_enter_5 : decode cX5_enter 5 = .ok (.aload_n 0, 1) := by decide +kernel
theorem dX5_enter_6 : decode cX5_enter 6 = .ok (.getfield 29, 3) := by decide +kernel
theorem dX5_enter_9 : decode cX5_enter 9 = .ok (.iload_n 1, 1) := by decide +kernel
theorem dX5_enter_10 : decode cX5_enter 10 = .ok (.invokevirtual 80, 3) := by decide +kernel
theorem dX5_enter_13 : decode cX5_enter 13 = .ok (.istore_n 3, 1) := by decide +kernel
theorem dX5_enter_14 : decode cX5_enter 14 = .ok (.aload_n 0, 1) := by decide +kernel
theorem dX5_enter_15 : decode cX5_enter 15 = .ok (.getfield 29, 3) := by decide +kernel
theorem dX5_enter_18 : decode cX5_enter 18 = .ok (.iload_n 3, 1) := by decide +kernel
theorem dX5_enter_19 : decode cX5_enter 19 = .ok (.invokevirtual 48, 3) := by decide +kernel
theorem dX5_enter_22 : decode cX5_enter 22 = .ok (.istore 4, 2) := by decide +kernel
theorem dX5_enter_24 : decode cX5_enter 24 = .ok (.aload_n 0, 1) := by decide +kernel
theorem dX5_enter_25 : decode cX5_enter 25 = .ok (.getfield 16, 3) := by decide +kernel
theorem dX5_enter_28 : decode cX5_enter 28 = .ok (.iload_n 2, 1) := by decide +kernel
theorem dX5_enter_29 : decode cX5_enter 29 = .ok (.aload_n 0, 1) := by decide +kernel
theorem dX5_enter_30 : decode cX5_enter 30 = .ok (.getfield 16, 3) := by decide +kernel
theorem dX5_enter_33 : decode cX5_enter 33 = .ok (.iload_n 2, 1) := by decide +kernel
theorem dX5_enter_34 : decode cX5_enter 34 = .ok (.invokevirtual 40, 3) := by decide +kernel
theorem dX5_enter_37 : decode cX5_enter 37 = .ok (.iconst 1, 1) := by decide +kernel
theorem dX5_enter_38 : decode cX5_enter 38 = .ok (.iadd, 1) := by decide +kernel
theorem dX5_enter_39 : decode cX5_enter 39 = .ok (.invokevirtual 83, 3) := by decide +kernel
theorem dX5_enter_42 : decode cX5_enter 42 = .ok (.aload_n 0, 1) := by decide +kernel
theorem dX5_enter_43 : decode cX5_enter 43 = .ok (.getfield 20, 3) := by decide +kernel
theorem dX5_enter_46 : decode cX5_enter 46 = .ok (.iload_n 2, 1) := by decide +kernel
theorem dX5_enter_47 : decode cX5_enter 47 = .ok (.aload_n 0, 1) := by decide +kernel
theorem dX5_enter_48 : decode cX5_enter 48 = .ok (.getfield 20, 3) := by decide +kernel
theorem dX5_enter_51 : decode cX5_enter 51 = .ok (.iload_n 2, 1) := by decide +kernel
theorem dX5_enter_52 : decode cX5_enter 52 = .ok (.invokevirtual 40, 3) := by decide +kernel
theorem dX5_enter_55 : decode cX5_enter 55 = .ok (.iconst 1, 1) := by decide +kernel
theorem dX5_enter_56 : decode cX5_enter 56 = .ok (.iload_n 3, 1) := by decide +kernel
theorem dX5_enter_57 : decode cX5_enter 57 = .ok (.ishl, 1) := by decide +kernel
theorem dX5_enter_58 : decode cX5_enter 58 = .ok (.ior, 1) := by decide +kernel
theorem dX5_enter_59 : decode cX5_enter 59 = .ok (.invokevirtual 83, 3) := by decide +kernel
theorem dX5_enter_62 : decode cX5_enter 62 = .ok (.iload 4, 2) := by decide +kernel
theorem dX5_enter_64 : decode cX5_enter 64 = .ok (.aload_n 0, 1) := by decide +kernel
theorem dX5_enter_65 : decode cX5_enter 65 = .ok (.getfield 26, 3) := by decide +kernel
theorem dX5_enter_68 : decode cX5_enter 68 = .ok (.iload_n 2, 1) := by decide +kernel
theorem dX5_enter_69 : decode cX5_enter 69 = .ok (.invokevirtual 40, 3) := by decide +kernel
theorem dX5_enter_72 : decode cX5_enter 72 = .ok (.if_icmp .le 22, 3) := by decide +kernel
theorem dX5_enter_75 : decode cX5_enter 75 = .ok (.aload_n 0, 1) := by decide +kernel
theorem dX5_enter_76 : decode cX5_enter 76 = .ok (.getfield 26, 3) := by decide +kernel
theorem dX5_enter_79 : decode cX5_enter 79 = .ok (.iload_n 2, 1) := by decide +kernel
theorem dX5_enter_80 : decode cX5_enter 80 = .ok (.iload 4, 2) := by decide +kernel
theorem dX5_enter_82 : decode cX5_enter 82 = .ok (.invokevirtual 83, 3) := by decide +kernel
theorem dX5_enter_85 : decode cX5_enter 85 = .ok (.aload_n 0, 1) := by decide +kernel
theorem dX5_enter_86 : decode cX5_enter 86 = .ok (.getfield 23, 3) := by decide +kernel
theorem dX5_enter_89 : decode cX5_enter 89 = .ok (.iload_n 2, 1) := by decide +kernel
theorem dX5_enter_90 : decode cX5_enter 90 = .ok (.iload_n 1, 1) := by decide +kernel
theorem dX5_enter_91 : decode cX5_enter 91 = .ok (.invokevirtual 83, 3) := by decide +kernel
theorem dX5_enter_94 : decode cX5_enter 94 = .ok (.return_, 1) := by decide +kernel
set_option maxRecDepth 20000 in
theorem ggX5_addThoseOfFewer_X4_at : GoodIn wsX5_addThoseOfFewer wsX4_at := goodIn_r _ [8, 9, 20] (by decide +kernel) (by decide +kernel)
set_option maxRecDepth 20000 in
theorem gX5_addThoseOfFewer_X4_at : GoodIn wsX5_addThoseOfFewer (wsV RX5 40 RX4 yX4_at wsX4_at) := goodIn_app (goodIn_of _ (by decide +kernel)) ggX5_addThoseOfFewer_X4_at
set_option maxRecDepth 20000 in
theorem ggX5_addThoseOfFewer_X4_put : GoodIn wsX5_addThoseOfFewer wsX4_put := goodIn_r _ [13, 9, 20] (by decide +kernel) (by decide +kernel)
set_option maxRecDepth 20000 in
theorem gX5_addThoseOfFewer_X4_put : GoodIn wsX5_addThoseOfFewer (wsV RX5 83 RX4 yX4_put wsX4_put) := goodIn_app (goodIn_of _ (by decide +kernel)) ggX5_addThoseOfFewer_X4_put
theorem dX5_addThoseOfFewer_0 : decode cX5_addThoseOfFewer 0 = .ok (.aload_n 0, 1) := by decide +kernel
theorem dX5_addThoseOfFewer_1 : decode cX5_addThoseOfFewer 1 = .ok (.getfield 20, 3) := by decide +kernel
theorem dX5_addThoseOfFewer_4 : decode cX5_addThoseOfFewer 4 = .ok (.iload_n 1, 1) := by decide +kernel
theorem dX5_addThoseOfFewer_5 : decode cX5_addThoseOfFewer 5 = .ok (.aload_n 0, 1) := by decide +kernel
theorem dX5_addThoseOfFewer_6 : decode cX5_addThoseOfFewer 6 = .ok (.getfield 20, 3) := by decide +kernel
theorem dX5_addThoseOfFewer_9 : decode cX5_addThoseOfFewer 9 = .ok (.iload_n 1, 1) := by decide +kernel
theorem dX5_addThoseOfFewer_10 : decode cX5_addThoseOfFewer 10 = .ok (.invokevirtual 40, 3) := by decide +kernel
theorem dX5_addThoseOfFewer_13 : decode cX5_addThoseOfFewer 13 = .ok (.aload_n 0, 1) := by decide +kernel
theorem dX5_addThoseOfFewer_14 : decode cX5_addThoseOfFewer 14 = .ok (.getfield 20, 3) := by decide +kernel
theorem dX5_addThoseOfFewer_17 : decode cX5_addThoseOfFewer 17 = .ok (.iload_n 1, 1) := by decide +kernel
theorem dX5_addThoseOfFewer_18 : decode cX5_addThoseOfFewer 18 = .ok (.iconst 1, 1) := by decide +kernel
theorem dX5_addThoseOfFewer_19 : decode cX5_addThoseOfFewer 19 = .ok (.isub, 1) := by decide +kernel
theorem dX5_addThoseOfFewer_20 : decode cX5_addThoseOfFewer 20 = .ok (.invokevirtual 40, 3) := by decide +kernel
theorem dX5_addThoseOfFewer_23 : decode cX5_addThoseOfFewer 23 = .ok (.ior, 1) := by decide +kernel
theorem dX5_addThoseOfFewer_24 : decode cX5_addThoseOfFewer 24 = .ok (.invokevirtual 83, 3) := by decide +kernel
theorem dX5_addThoseOfFewer_27 : decode cX5_addThoseOfFewer 27 = .ok (.aload_n 0, 1) := by decide +kernel
theorem dX5_addThoseOfFewer_28 : decode cX5_addThoseOfFewer 28 = .ok (.getfield 26, 3) := by decide +kernel
theorem dX5_addThoseOfFewer_31 : decode cX5_addThoseOfFewer 31 = .ok (.iload_n 1, 1) := by decide +kernel
theorem dX5_addThoseOfFewer_32 : decode cX5_addThoseOfFewer 32 = .ok (.iconst 1, 1) := by decide +kernel
theorem dX5_addThoseOfFewer_33 : decode cX5_addThoseOfFewer 33 = .ok (.isub, 1) := by decide +kernel
theorem dX5_addThoseOfFewer_34 : decode cX5_addThoseOfFewer 34 = .ok (.invokevirtual 40, 3) := by decide +kernel
theorem dX5_addThoseOfFewer_37 : decode cX5_addThoseOfFewer 37 = .ok (.aload_n 0, 1) := by decide +kernel
theorem dX5_addThoseOfFewer_38 : decode cX5_addThoseOfFewer 38 = .ok (.getfield 26, 3) := by decide +kernel
theorem dX5_addThoseOfFewer_41 : decode cX5_addThoseOfFewer 41 = .ok (.iload_n 1, 1) := by decide +kernel
theorem dX5_addThoseOfFewer_42 : decode cX5_addThoseOfFewer 42 = .ok (.invokevirtual 40, 3) := by decide +kernel
theorem dX5_addThoseOfFewer_45 : decode cX5_addThoseOfFewer 45 = .ok (.if_icmp .lt 39, 3) := by decide +kernel
theorem dX5_addThoseOfFewer_48 : decode cX5_addThoseOfFewer 48 = .ok (.aload_n 0, 1) := by decide +kernel
theorem dX5_addThoseOfFewer_49 : decode cX5_addThoseOfFewer 49 = .ok (.getfield 26, 3) := by decide +kernel
theorem dX5_addThoseOfFewer_52 : decode cX5_addThoseOfFewer 52 = .ok (.iload_n 1, 1) := by decide +kernel
theorem dX5_addThoseOfFewer_53 : decode cX5_addThoseOfFewer 53 = .ok (.aload_n 0, 1) := by decide +kernel
theorem dX5_addThoseOfFewer_54 : decode cX5_addThoseOfFewer 54 = .ok (.getfield 26, 3) := by decide +kernel
theorem dX5_addThoseOfFewer_57 : decode cX5_addThoseOfFewer 57 = .ok (.iload_n 1, 1) := by decide +kernel
theorem dX5_addThoseOfFewer_58 : decode cX5_addThoseOfFewer 58 = .ok (.iconst 1, 1) := by decide +kernel
theorem dX5_addThoseOfFewer_59 : decode cX5_addThoseOfFewer 59 = .ok (.isub, 1) := by decide +kernel
theorem dX5_addThoseOfFewer_60 : decode cX5_addThoseOfFewer 60 = .ok (.invokevirtual 40, 3) := by decide +kernel
theorem dX5_addThoseOfFewer_63 : decode cX5_addThoseOfFewer 63 = .ok (.invokevirtual 83, 3) := by decide +kernel
theorem dX5_addThoseOfFewer_66 : decode cX5_addThoseOfFewer 66 = .ok (.aload_n 0, 1) := by decide +kernel
theorem dX5_addThoseOfFewer_67 : decode cX5_addThoseOfFewer 67 = .ok (.getfield 23, 3) := by decide +kernel
theorem dX5_addThoseOfFewer_70 : decode cX5_addThoseOfFewer 70 = .ok (.iload_n 1, 1) := by decide +kernel
theorem dX5_addThoseOfFewer_71 : decode cX5_addThoseOfFewer 71 = .ok (.aload_n 0, 1) := by decide +kernel
theorem dX5_addThoseOfFewer_72 : decode cX5_addThoseOfFewer 72 = .ok (.getfield 23, 3) := by decide +kernel
theorem dX5_addThoseOfFewer_75 : decode cX5_addThoseOfFewer 75 = .ok (.iload_n 1, 1) := by decide +kernel
theorem dX5_addThoseOfFewer_76 : decode cX5_addThoseOfFewer 76 = .ok (.iconst 1, 1) := by decide +kernel
theorem dX5_addThoseOfFewer_77 : decode cX5_addThoseOfFewer 77 = .ok (.isub, 1) := by decide +kernel
theorem dX5_addThoseOfFewer_78 : decode cX5_addThoseOfFewer 78 = .ok (.invokevirtual 40, 3) := by decide +kernel
theorem dX5_addThoseOfFewer_81 : decode cX5_addThoseOfFewer 81 = .ok (.invokevirtual 83, 3) := by decide +kernel
theorem dX5_addThoseOfFewer_84 : decode cX5_addThoseOfFewer 84 = .ok (.return_, 1) := by decide +kernel
set_option maxRecDepth 20000 in
theorem ggX6_init_X4_init : GoodIn wsX6_init wsX4_init := goodIn_r _ [10, 11, 2, 3, 12, 13, 14, 15, 16, 17, 18] (by decide +kernel) (by decide +kernel)
set_option maxRecDepth 20000 in
theorem gX6_init_X4_init : GoodIn wsX6_init (wsX4_init) := ggX6_init_X4_init
theorem dX6_init_0 : decode cX6_init 0 = .ok (.aload_n 0, 1) := by decide +kernel
theorem dX6_init_1 : decode cX6_init 1 = .ok (.invokespecial 3, 3) := by decide +kernel
theorem dX6_init_4 : decode cX6_init 4 = .ok (.aload_n 0, 1) := by decide +kernel
theorem dX6_init_5 : decode cX6_init 5 = .ok (.new 9, 3) := by decide +kernel
theorem dX6_init_8 : decode cX6_init 8 = .ok (.dup, 1) := by decide +kernel
theorem dX6_init_9 : decode cX6_init 9 = .ok (.bipush 72, 2) := by decide +kernel
theorem dX6_init_11 : decode cX6_init 11 = .ok (.invokespecial 11, 3) := by decide +kernel
theorem dX6_init_14 : decode cX6_init 14 = .ok (.putfield 14, 3) := by decide +kernel
theorem dX6_init_17 : decode cX6_init 17 = .ok (.return_, 1) := by decide +kernel
theorem dX6_length_0 : decode cX6_length 0 = .ok (.aload_n 0, 1) := by decide +kernel
theorem dX6_length_1 : decode cX6_length 1 = .ok (.getfield 20, 3) := by decide +kernel
theorem dX6_length_4 : decode cX6_length 4 = .ok (.ireturn, 1) := by decide +kernel
set_option maxRecDepth 20000 in
theorem ggX6_letterAt_X4_at : GoodIn wsX6_letterAt wsX4_at := goodIn_r _ [6, 7, 10] (by decide +kernel) (by decide +kernel)
set_option maxRecDepth 20000 in
theorem gX6_letterAt_X4_at : GoodIn wsX6_letterAt (wsV RX6 24 RX4 yX4_at wsX4_at) := goodIn_app (goodIn_of _ (by decide +kernel)) ggX6_letterAt_X4_at
theorem dX6_letterAt_0 : decode cX6_letterAt 0 = .ok (.aload_n 0, 1) := by decide +kernel
theorem dX6_letterAt_1 : decode cX6_letterAt 1 = .ok (.getfield 14, 3) := by decide +kernel
theorem dX6_letterAt_4 : decode cX6_letterAt 4 = .ok (.iload_n 1, 1) := by decide +kernel
theorem dX6_letterAt_5 : decode cX6_letterAt 5 = .ok (.invokevirtual 24, 3) := by decide +kernel
theorem dX6_letterAt_8 : decode cX6_letterAt 8 = .ok (.ireturn, 1) := by decide +kernel
set_option maxRecDepth 20000 in
theorem ggX6_add_X4_put : GoodIn wsX6_add wsX4_put := goodIn_r _ [7, 8, 11] (by decide +kernel) (by decide +kernel)
set_option maxRecDepth 20000 in
theorem gX6_add_X4_put : GoodIn wsX6_add (wsV RX6 28 RX4 yX4_put wsX4_put) := goodIn_app (goodIn_of _ (by decide +kernel)) ggX6_add_X4_put
theorem dX6_add_0 : decode cX6_add 0 = .ok (.aload_n 0, 1) := by decide +kernel
theorem dX6_add_1 : decode cX6_add 1 = .ok (.getfield 14, 3) := by decide +kernel
theorem dX6_add_4 : decode cX6_add 4 = .ok (.aload_n 0, 1) := by decide +kernel
theorem dX6_add_5 : decode cX6_add 5 = .ok (.getfield 20, 3) := by decide +kernel
theorem dX6_add_8 : decode cX6_add 8 = .ok (.iload_n 1, 1) := by decide +kernel
theorem dX6_add_9 : decode cX6_add 9 = .ok (.invokevirtual 28, 3) := by decide +kernel
theorem dX6_add_12 : decode cX6_add 12 = .ok (.aload_n 0, 1) := by decide +kernel
theorem dX6_add_13 : decode cX6_add 13 = .ok (.dup, 1) := by decide +kernel
theorem dX6_add_14 : decode cX6_add 14 = .ok (.getfield 20, 3) := by decide +kernel
theorem dX6_add_17 : decode cX6_add 17 = .ok (.iconst 1, 1) := by decide +kernel
theorem dX6_add_18 : decode cX6_add 18 = .ok (.iadd, 1) := by decide +kernel
theorem dX6_add_19 : decode cX6_add 19 = .ok (.putfield 20, 3) := by decide +kernel
theorem dX6_add_22 : decode cX6_add 22 = .ok (.return_, 1) := by decide +kernel
theorem dX6_clear_0 : decode cX6_clear 0 = .ok (.aload_n 0, 1) := by decide +kernel
theorem dX6_clear_1 : decode cX6_clear 1 = .ok (.iconst 0, 1) := by decide +kernel
theorem dX6_clear_2 : decode cX6_clear 2 = .ok (.putfield 20, 3) := by decide +kernel
theorem dX6_clear_5 : decode cX6_clear 5 = .ok (.return_, 1) := by decide +kernel
theorem dJ6_bitCount_0f7a4_0 : decode cJ6_bitCount_0f7a4 0 = .ok (.iload_n 0, 1) := by decide +kernel
theorem dJ6_bitCount_0f7a4_1 : decode cJ6_bitCount_0f7a4 1 = .ok (.iload_n 0, 1) := by decide +kernel
theorem dJ6_bitCount_0f7a4_2 : decode cJ6_bitCount_0f7a4 2 = .ok (.iconst 1, 1) := by decide +kernel
theorem dJ6_bitCount_0f7a4_3 : decode cJ6_bitCount_0f7a4 3 = .ok (.iushr, 1) := by decide +kernel
theorem dJ6_bitCount_0f7a4_4 : decode cJ6_bitCount_0f7a4 4 = .ok (.ldc_w 265, 3) := by decide +kernel
theorem dJ6_bitCount_0f7a4_7 : decode cJ6_bitCount_0f7a4 7 = .ok (.iand, 1) := by decide +kernel
theorem dJ6_bitCount_0f7a4_8 : decode cJ6_bitCount_0f7a4 8 = .ok (.isub, 1) := by decide +kernel
theorem dJ6_bitCount_0f7a4_9 : decode cJ6_bitCount_0f7a4 9 = .ok (.istore_n 0, 1) := by decide +kernel
theorem dJ6_bitCount_0f7a4_10 : decode cJ6_bitCount_0f7a4 10 = .ok (.iload_n 0, 1) := by decide +kernel
theorem dJ6_bitCount_0f7a4_11 : decode cJ6_bitCount_0f7a4 11 = .ok (.ldc_w 266, 3) := by decide +kernel
theorem dJ6_bitCount_0f7a4_14 : decode cJ6_bitCount_0f7a4 14 = .ok (.iand, 1) := by decide +kernel
theorem dJ6_bitCount_0f7a4_15 : decode cJ6_bitCount_0f7a4 15 = .ok (.iload_n 0, 1) := by decide +kernel
theorem dJ6_bitCount_0f7a4_16 : decode cJ6_bitCount_0f7a4 16 = .ok (.iconst 2, 1) := by decide +kernel
theorem dJ6_bitCount_0f7a4_17 : decode cJ6_bitCount_0f7a4 17 = .ok (.iushr, 1) := by decide +kernel
theorem dJ6_bitCount_0f7a4_18 : decode cJ6_bitCount_0f7a4 18 = .ok (.ldc_w 266, 3) := by decide +kernel
theorem dJ6_bitCount_0f7a4_21 : decode cJ6_bitCount_0f7a4 21 = .ok (.iand, 1) := by decide +kernel
theorem dJ6_bitCount_0f7a4_22 : decode cJ6_bitCount_0f7a4 22 = .ok (.iadd, 1) := by decide +kernel
theorem dJ6_bitCount_0f7a4_23 : decode cJ6_bitCount_0f7a4 23 = .ok (.istore_n 0, 1) := by decide +kernel
theorem dJ6_bitCount_0f7a4_24 : decode cJ6_bitCount_0f7a4 24 = .ok (.iload_n 0, 1) := by decide +kernel
theorem dJ6_bitCount_0f7a4_25 : decode cJ6_bitCount_0f7a4 25 = .ok (.iload_n 0, 1) := by decide +kernel
theorem dJ6_bitCount_0f7a4_26 : decode cJ6_bitCount_0f7a4 26 = .ok (.iconst 4, 1) := by decide +kernel
theorem dJ6_bitCount_0f7a4_27 : decode cJ6_bitCount_0f7a4 27 = .ok (.iushr, 1) := by decide +kernel
theorem dJ6_bitCount_0f7a4_28 : decode cJ6_bitCount_0f7a4 28 = .ok (.iadd, 1) := by decide +kernel
theorem dJ6_bitCount_0f7a4_29 : decode cJ6_bitCount_0f7a4 29 = .ok (.ldc_w 267, 3) := by decide +kernel
theorem dJ6_bitCount_0f7a4_32 : decode cJ6_bitCount_0f7a4 32 = .ok (.iand, 1) := by decide +kernel
theorem dJ6_bitCount_0f7a4_33 : decode cJ6_bitCount_0f7a4 33 = .ok (.istore_n 0, 1) := by decide +kernel
theorem dJ6_bitCount_0f7a4_34 : decode cJ6_bitCount_0f7a4 34 = .ok (.iload_n 0, 1) := by decide +kernel
theorem dJ6_bitCount_0f7a4_35 : decode cJ6_bitCount_0f7a4 35 = .ok (.iload_n 0, 1) := by decide +kernel
theorem dJ6_bitCount_0f7a4_36 : decode cJ6_bitCount_0f7a4 36 = .ok (.bipush 8, 2) := by decide +kernel
theorem dJ6_bitCount_0f7a4_38 : decode cJ6_bitCount_0f7a4 38 = .ok (.iushr, 1) := by decide +kernel
theorem dJ6_bitCount_0f7a4_39 : decode cJ6_bitCount_0f7a4 39 = .ok (.iadd, 1) := by decide +kernel
theorem dJ6_bitCount_0f7a4_40 : decode cJ6_bitCount_0f7a4 40 = .ok (.istore_n 0, 1) := by decide +kernel
theorem dJ6_bitCount_0f7a4_41 : decode cJ6_bitCount_0f7a4 41 = .ok (.iload_n 0, 1) := by decide +kernel
theorem dJ6_bitCount_0f7a4_42 : decode cJ6_bitCount_0f7a4 42 = .ok (.iload_n 0, 1) := by decide +kernel
theorem dJ6_bitCount_0f7a4_43 : decode cJ6_bitCount_0f7a4 43 = .ok (.bipush 16, 2) := by decide +kernel
theorem dJ6_bitCount_0f7a4_45 : decode cJ6_bitCount_0f7a4 45 = .ok (.iushr, 1) := by decide +kernel
theorem dJ6_bitCount_0f7a4_46 : decode cJ6_bitCount_0f7a4 46 = .ok (.iadd, 1) := by decide +kernel
theorem dJ6_bitCount_0f7a4_47 : decode cJ6_bitCount_0f7a4 47 = .ok (.istore_n 0, 1) := by decide +kernel
theorem dJ6_bitCount_0f7a4_48 : decode cJ6_bitCount_0f7a4 48 = .ok (.iload_n 0, 1) := by decide +kernel
theorem dJ6_bitCount_0f7a4_49 : decode cJ6_bitCount_0f7a4 49 = .ok (.bipush 63, 2) := by decide +kernel
theorem dJ6_bitCount_0f7a4_51 : decode cJ6_bitCount_0f7a4 51 = .ok (.iand, 1) := by decide +kernel
theorem dJ6_bitCount_0f7a4_52 : decode cJ6_bitCount_0f7a4 52 = .ok (.ireturn, 1) := by decide +kernel
theorem dJ9_abs_0f7a4_0 : decode cJ9_abs_0f7a4 0 = .ok (.iload_n 0, 1) := by decide +kernel
theorem dJ9_abs_0f7a4_1 : decode cJ9_abs_0f7a4 1 = .ok (.ifCond .ge 8, 3) := by decide +kernel
theorem dJ9_abs_0f7a4_4 : decode cJ9_abs_0f7a4 4 = .ok (.iload_n 0, 1) := by decide +kernel
theorem dJ9_abs_0f7a4_5 : decode cJ9_abs_0f7a4 5 = .ok (.ineg, 1) := by decide +kernel
theorem dJ9_abs_0f7a4_6 : decode cJ9_abs_0f7a4 6 = .ok (.goto 4, 3) := by decide +kernel
theorem dJ9_abs_0f7a4_9 : decode cJ9_abs_0f7a4 9 = .ok (.iload_n 0, 1) := by decide +kernel
theorem dJ9_abs_0f7a4_10 : decode cJ9_abs_0f7a4 10 = .ok (.ireturn, 1) := by decide +kernel
theorem dJ9_max_7cf53_0 : decode cJ9_max_7cf53 0 = .ok (.iload_n 0, 1) := by decide +kernel
theorem dJ9_max_7cf53_1 : decode cJ9_max_7cf53 1 = .ok (.iload_n 1, 1) := by decide +kernel
theorem dJ9_max_7cf53_2 : decode cJ9_max_7cf53 2 = .ok (.if_icmp .lt 7, 3) := by decide +kernel
theorem dJ9_max_7cf53_5 : decode cJ9_max_7cf53 5 = .ok (.iload_n 0, 1) := by decide +kernel
theorem dJ9_max_7cf53_6 : decode cJ9_max_7cf53 6 = .ok (.goto 4, 3) := by decide +kernel
theorem dJ9_max_7cf53_9 : decode cJ9_max_7cf53 9 = .ok (.iload_n 1, 1) := by decide +kernel
theorem dJ9_max_7cf53_10 : decode cJ9_max_7cf53 10 = .ok (.ireturn, 1) := by decide +kernel
theorem dJ9_min_7cf53_0 : decode cJ9_min_7cf53 0 = .ok (.iload_n 0, 1) := by decide +kernel
theorem dJ9_min_7cf53_1 : decode cJ9_min_7cf53 1 = .ok (.iload_n 1, 1) := by decide +kernel
theorem dJ9_min_7cf53_2 : decode cJ9_min_7cf53 2 = .ok (.if_icmp .gt 7, 3) := by decide +kernel
theorem dJ9_min_7cf53_5 : decode cJ9_min_7cf53 5 = .ok (.iload_n 0, 1) := by decide +kernel
theorem dJ9_min_7cf53_6 : decode cJ9_min_7cf53 6 = .ok (.goto 4, 3) := by decide +kernel
theorem dJ9_min_7cf53_9 : decode cJ9_min_7cf53 9 = .ok (.iload_n 1, 1) := by decide +kernel
theorem dJ9_min_7cf53_10 : decode cJ9_min_7cf53 10 = .ok (.ireturn, 1) := by decide +kernel
