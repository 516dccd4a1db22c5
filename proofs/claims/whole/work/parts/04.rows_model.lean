theorem dX8_init_0 : decode cX8_init 0 = .ok (.aload_n 0, 1) := by decide +kernel
theorem dX8_init_1 : decode cX8_init 1 = .ok (.invokespecial 1, 3) := by decide +kernel
theorem dX8_init_4 : decode cX8_init 4 = .ok (.aload_n 0, 1) := by decide +kernel
theorem dX8_init_5 : decode cX8_init 5 = .ok (.bipush 25, 2) := by decide +kernel
theorem dX8_init_7 : decode cX8_init 7 = .ok (.newarray .int, 2) := by decide +kernel
theorem dX8_init_9 : decode cX8_init 9 = .ok (.putfield 7, 3) := by decide +kernel
theorem dX8_init_12 : decode cX8_init 12 = .ok (.aload_n 0, 1) := by decide +kernel
theorem dX8_init_13 : decode cX8_init 13 = .ok (.bipush 12, 2) := by decide +kernel
theorem dX8_init_15 : decode cX8_init 15 = .ok (.newarray .int, 2) := by decide +kernel
theorem dX8_init_17 : decode cX8_init 17 = .ok (.putfield 13, 3) := by decide +kernel
theorem dX8_init_20 : decode cX8_init 20 = .ok (.aload_n 0, 1) := by decide +kernel
theorem dX8_init_21 : decode cX8_init 21 = .ok (.bipush 25, 2) := by decide +kernel
theorem dX8_init_23 : decode cX8_init 23 = .ok (.newarray .int, 2) := by decide +kernel
theorem dX8_init_25 : decode cX8_init 25 = .ok (.putfield 16, 3) := by decide +kernel
theorem dX8_init_28 : decode cX8_init 28 = .ok (.aload_n 0, 1) := by decide +kernel
theorem dX8_init_29 : decode cX8_init 29 = .ok (.bipush 12, 2) := by decide +kernel
theorem dX8_init_31 : decode cX8_init 31 = .ok (.newarray .int, 2) := by decide +kernel
theorem dX8_init_33 : decode cX8_init 33 = .ok (.putfield 19, 3) := by decide +kernel
theorem dX8_init_36 : decode cX8_init 36 = .ok (.aload_n 0, 1) := by decide +kernel
theorem dX8_init_37 : decode cX8_init 37 = .ok (.bipush 72, 2) := by decide +kernel
theorem dX8_init_39 : decode cX8_init 39 = .ok (.newarray .int, 2) := by decide +kernel
theorem dX8_init_41 : decode cX8_init 41 = .ok (.putfield 22, 3) := by decide +kernel
theorem dX8_init_44 : decode cX8_init 44 = .ok (.aload_n 0, 1) := by decide +kernel
theorem dX8_init_45 : decode cX8_init 45 = .ok (.bipush 16, 2) := by decide +kernel
theorem dX8_init_47 : decode cX8_init 47 = .ok (.newarray .int, 2) := by decide +kernel
theorem dX8_init_49 : decode cX8_init 49 = .ok (.putfield 25, 3) := by decide +kernel
theorem dX8_init_52 : decode cX8_init 52 = .ok (.aload_n 0, 1) := by decide +kernel
theorem dX8_init_53 : decode cX8_init 53 = .ok (.bipush 32, 2) := by decide +kernel
theorem dX8_init_55 : decode cX8_init 55 = .ok (.newarray .int, 2) := by decide +kernel
theorem dX8_init_57 : decode cX8_init 57 = .ok (.putfield 28, 3) := by decide +kernel
theorem dX8_init_60 : decode cX8_init 60 = .ok (.aload_n 0, 1) := by decide +kernel
theorem dX8_init_61 : decode cX8_init 61 = .ok (.bipush 32, 2) := by decide +kernel
theorem dX8_init_63 : decode cX8_init 63 = .ok (.newarray .int, 2) := by decide +kernel
theorem dX8_init_65 : decode cX8_init 65 = .ok (.putfield 31, 3) := by decide +kernel
theorem dX8_init_68 : decode cX8_init 68 = .ok (.aload_n 0, 1) := by decide +kernel
theorem dX8_init_69 : decode cX8_init 69 = .ok (.bipush 6, 2) := by decide +kernel
theorem dX8_init_71 : decode cX8_init 71 = .ok (.newarray .int, 2) := by decide +kernel
theorem dX8_init_73 : decode cX8_init 73 = .ok (.putfield 34, 3) := by decide +kernel
theorem dX8_init_76 : decode cX8_init 76 = .ok (.aload_n 0, 1) := by decide +kernel
theorem dX8_init_77 : decode cX8_init 77 = .ok (.bipush 6, 2) := by decide +kernel
theorem dX8_init_79 : decode cX8_init 79 = .ok (.newarray .int, 2) := by decide +kernel
theorem dX8_init_81 : decode cX8_init 81 = .ok (.putfield 37, 3) := by decide +kernel
theorem dX8_init_84 : decode cX8_init 84 = .ok (.aload_n 0, 1) := by decide +kernel
theorem dX8_init_85 : decode cX8_init 85 = .ok (.bipush 6, 2) := by decide +kernel
theorem dX8_init_87 : decode cX8_init 87 = .ok (.newarray .boolean, 2) := by decide +kernel
theorem dX8_init_89 : decode cX8_init 89 = .ok (.putfield 40, 3) := by decide +kernel
theorem dX8_init_92 : decode cX8_init 92 = .ok (.aload_n 0, 1) := by decide +kernel
theorem dX8_init_93 : decode cX8_init 93 = .ok (.iconst 2, 1) := by decide +kernel
theorem dX8_init_94 : decode cX8_init 94 = .ok (.newarray .boolean, 2) := by decide +kernel
theorem dX8_init_96 : decode cX8_init 96 = .ok (.putfield 44, 3) := by decide +kernel
theorem dX8_init_99 : decode cX8_init 99 = .ok (.aload_n 0, 1) := by decide +kernel
theorem dX8_init_100 : decode cX8_init 100 = .ok (.iconst 2, 1) := by decide +kernel
theorem dX8_init_101 : decode cX8_init 101 = .ok (.newarray .int, 2) := by decide +kernel
theorem dX8_init_103 : decode cX8_init 103 = .ok (.putfield 47, 3) := by decide +kernel
theorem dX8_init_106 : decode cX8_init 106 = .ok (.aload_n 0, 1) := by decide +kernel
theorem dX8_init_107 : decode cX8_init 107 = .ok (.iconst 0, 1) := by decide +kernel
theorem dX8_init_108 : decode cX8_init 108 = .ok (.putfield 50, 3) := by decide +kernel
theorem dX8_init_111 : decode cX8_init 111 = .ok (.return_, 1) := by decide +kernel
theorem dX8_in_0 : decode cX8_in 0 = .ok (.lload_n 0, 1) := by decide +kernel
theorem dX8_in_1 : decode cX8_in 1 = .ok (.lload_n 2, 1) := by decide +kernel
theorem dX8_in_2 : decode cX8_in 2 = .ok (.lcmp, 1) := by decide +kernel
theorem dX8_in_3 : decode cX8_in 3 = .ok (.ifCond .lt 14, 3) := by decide +kernel
theorem dX8_in_6 : decode cX8_in 6 = .ok (.lload_n 0, 1) := by decide +kernel
theorem dX8_in_7 : decode cX8_in 7 = .ok (.lload 4, 2) := by decide +kernel
theorem dX8_in_9 : decode cX8_in 9 = .ok (.lcmp, 1) := by decide +kernel
theorem dX8_in_10 : decode cX8_in 10 = .ok (.ifCond .gt 7, 3) := by decide +kernel
theorem dX8_in_13 : decode cX8_in 13 = .ok (.iconst 1, 1) := by decide +kernel
theorem dX8_in_14 : decode cX8_in 14 = .ok (.goto 4, 3) := by decide +kernel
theorem dX8_in_17 : decode cX8_in 17 = .ok (.iconst 0, 1) := by decide +kernel
theorem dX8_in_18 : decode cX8_in 18 = .ok (.ireturn, 1) := by decide +kernel
theorem dX8_ones_0 : decode cX8_ones 0 = .ok (.iconst 0, 1) := by decide +kernel
theorem dX8_ones_1 : decode cX8_ones 1 = .ok (.istore_n 1, 1) := by decide +kernel
theorem dX8_ones_2 : decode cX8_ones 2 = .ok (.iconst 0, 1) := by decide +kernel
theorem dX8_ones_3 : decode cX8_ones 3 = .ok (.istore_n 2, 1) := by decide +kernel
theorem dX8_ones_4 : decode cX8_ones 4 = .ok (.iload_n 2, 1) := by decide +kernel
theorem dX8_ones_5 : decode cX8_ones 5 = .ok (.bipush 12, 2) := by decide +kernel
theorem dX8_ones_7 : decode cX8_ones 7 = .ok (.if_icmp .ge 17, 3) := by decide +kernel
theorem dX8_ones_10 : decode cX8_ones 10 = .ok (.iload_n 1, 1) := by decide +kernel
theorem dX8_ones_11 : decode cX8_ones 11 = .ok (.iload_n 0, 1) := by decide +kernel
theorem dX8_ones_12 : decode cX8_ones 12 = .ok (.iload_n 2, 1) := by decide +kernel
theorem dX8_ones_13 : decode cX8_ones 13 = .ok (.ishr, 1) := by decide +kernel
theorem dX8_ones_14 : decode cX8_ones 14 = .ok (.iconst 1, 1) := by decide +kernel
theorem dX8_ones_15 : decode cX8_ones 15 = .ok (.iand, 1) := by decide +kernel
theorem dX8_ones_16 : decode cX8_ones 16 = .ok (.iadd, 1) := by decide +kernel
theorem dX8_ones_17 : decode cX8_ones 17 = .ok (.istore_n 1, 1) := by decide +kernel
theorem dX8_ones_18 : decode cX8_ones 18 = .ok (.iinc 2 1, 3) := by decide +kernel
theorem dX8_ones_21 : decode cX8_ones 21 = .ok (.goto (-17), 3) := by decide +kernel
theorem dX8_ones_24 : decode cX8_ones 24 = .ok (.iload_n 1, 1) := by decide +kernel
theorem dX8_ones_25 : decode cX8_ones 25 = .ok (.ireturn, 1) := by decide +kernel
set_option maxRecDepth 20000 in
theorem ggX8_write_X8_in : GoodIn wsX8_write wsX8_in := goodIn_r _ [7] (by decide +kernel) (by decide +kernel)
set_option maxRecDepth 20000 in
theorem gX8_write_X8_in : GoodIn wsX8_write (va_wsS RX8 56 yX8_in wsX8_in) := goodIn_app (goodIn_of _ (by decide +kernel)) ggX8_write_X8_in
theorem dX8_write_0 : decode cX8_write 0 = .ok (.iload_n 1, 1) := by decide +kernel
theorem dX8_write_1 : decode cX8_write 1 = .ok (.i2l, 1) := by decide +kernel
theorem dX8_write_2 : decode cX8_write 2 = .ok (.lconst 0, 1) := by decide +kernel
theorem dX8_write_3 : decode cX8_write 3 = .ok (.ldc2_w 54, 3) := by decide +kernel
theorem dX8_write_6 : decode cX8_write 6 = .ok (.invokestatic 56, 3) := by decide +kernel
theorem dX8_write_9 : decode cX8_write 9 = .ok (.ifCond .ne 6, 3) := by decide +kernel
theorem dX8_write_12 : decode cX8_write 12 = .ok (.bipush (-2), 2) := by decide +kernel
theorem dX8_write_14 : decode cX8_write 14 = .ok (.ireturn, 1) := by decide +kernel
theorem dX8_write_15 : decode cX8_write 15 = .ok (.aload_n 0, 1) := by decide +kernel
theorem dX8_write_16 : decode cX8_write 16 = .ok (.getfield 60, 3) := by decide +kernel
theorem dX8_write_19 : decode cX8_write 19 = .ok (.bipush 72, 2) := by decide +kernel
theorem dX8_write_21 : decode cX8_write 21 = .ok (.if_icmp .ne 6, 3) := by decide +kernel
theorem dX8_write_24 : decode cX8_write 24 = .ok (.bipush (-4), 2) := by decide +kernel
theorem dX8_write_26 : decode cX8_write 26 = .ok (.ireturn, 1) := by decide +kernel
theorem dX8_write_27 : decode cX8_write 27 = .ok (.aload_n 0, 1) := by decide +kernel
theorem dX8_write_28 : decode cX8_write 28 = .ok (.getfield 22, 3) := by decide +kernel
theorem dX8_write_31 : decode cX8_write 31 = .ok (.aload_n 0, 1) := by decide +kernel
theorem dX8_write_32 : decode cX8_write 32 = .ok (.getfield 60, 3) := by decide +kernel
theorem dX8_write_35 : decode cX8_write 35 = .ok (.iload_n 1, 1) := by decide +kernel
theorem dX8_write_36 : decode cX8_write 36 = .ok (.iastore, 1) := by decide +kernel
theorem dX8_write_37 : decode cX8_write 37 = .ok (.aload_n 0, 1) := by decide +kernel
theorem dX8_write_38 : decode cX8_write 38 = .ok (.dup, 1) := by decide +kernel
theorem dX8_write_39 : decode cX8_write 39 = .ok (.getfield 60, 3) := by decide +kernel
theorem dX8_write_42 : decode cX8_write 42 = .ok (.iconst 1, 1) := by decide +kernel
theorem dX8_write_43 : decode cX8_write 43 = .ok (.iadd, 1) := by decide +kernel
theorem dX8_write_44 : decode cX8_write 44 = .ok (.putfield 60, 3) := by decide +kernel
theorem dX8_write_47 : decode cX8_write 47 = .ok (.aload_n 0, 1) := by decide +kernel
theorem dX8_write_48 : decode cX8_write 48 = .ok (.getfield 60, 3) := by decide +kernel
theorem dX8_write_51 : decode cX8_write 51 = .ok (.ireturn, 1) := by decide +kernel
theorem dX8_wipe_0 : decode cX8_wipe 0 = .ok (.aload_n 0, 1) := by decide +kernel
theorem dX8_wipe_1 : decode cX8_wipe 1 = .ok (.getfield 60, 3) := by decide +kernel
theorem dX8_wipe_4 : decode cX8_wipe 4 = .ok (.istore_n 1, 1) := by decide +kernel
theorem dX8_wipe_5 : decode cX8_wipe 5 = .ok (.aload_n 0, 1) := by decide +kernel
theorem dX8_wipe_6 : decode cX8_wipe 6 = .ok (.iconst 0, 1) := by decide +kernel
theorem dX8_wipe_7 : decode cX8_wipe 7 = .ok (.putfield 60, 3) := by decide +kernel
theorem dX8_wipe_10 : decode cX8_wipe 10 = .ok (.iload_n 1, 1) := by decide +kernel
theorem dX8_wipe_11 : decode cX8_wipe 11 = .ok (.ireturn, 1) := by decide +kernel
theorem dX8_fail_0 : decode cX8_fail 0 = .ok (.aload_n 0, 1) := by decide +kernel
theorem dX8_fail_1 : decode cX8_fail 1 = .ok (.aload_n 0, 1) := by decide +kernel
theorem dX8_fail_2 : decode cX8_fail 2 = .ok (.getfield 63, 3) := by decide +kernel
theorem dX8_fail_5 : decode cX8_fail 5 = .ok (.bipush (-9), 2) := by decide +kernel
theorem dX8_fail_7 : decode cX8_fail 7 = .ok (.if_icmp .ne 10, 3) := by decide +kernel
theorem dX8_fail_10 : decode cX8_fail 10 = .ok (.aload_n 0, 1) := by decide +kernel
theorem dX8_fail_11 : decode cX8_fail 11 = .ok (.getfield 66, 3) := by decide +kernel
theorem dX8_fail_14 : decode cX8_fail 14 = .ok (.goto 7, 3) := by decide +kernel
theorem dX8_fail_17 : decode cX8_fail 17 = .ok (.aload_n 0, 1) := by decide +kernel
theorem dX8_fail_18 : decode cX8_fail 18 = .ok (.getfield 63, 3) := by decide +kernel
theorem dX8_fail_21 : decode cX8_fail 21 = .ok (.putfield 63, 3) := by decide +kernel
theorem dX8_fail_24 : decode cX8_fail 24 = .ok (.return_, 1) := by decide +kernel
set_option maxRecDepth 20000 in
theorem ggX8_figure_X8_in : GoodIn wsX8_figure wsX8_in := goodIn_r _ [9] (by decide +kernel) (by decide +kernel)
set_option maxRecDepth 20000 in
theorem gX8_figure_X8_in : GoodIn wsX8_figure (va_wsS RX8 56 yX8_in wsX8_in) := goodIn_app (goodIn_of _ (by decide +kernel)) ggX8_figure_X8_in
set_option maxRecDepth 20000 in
theorem ggX8_figure_X8_fail : GoodIn wsX8_figure wsX8_fail := goodIn_r _ [13, 1, 2, 14, 15, 16, 17, 18, 19, 20, 21, 22, 23, 24, 25, 26, 27, 28, 29, 30, 31, 32, 33, 34, 35, 36, 37, 38, 39] (by decide +kernel) (by decide +kernel)
set_option maxRecDepth 20000 in
theorem gX8_figure_X8_fail : GoodIn wsX8_figure (wsV RX8 71 RX8 yX8_fail wsX8_fail) := goodIn_app (goodIn_of _ (by decide +kernel)) ggX8_figure_X8_fail
theorem dX8_figure_0 : decode cX8_figure 0 = .ok (.aload_n 0, 1) := by decide +kernel
theorem dX8_figure_1 : decode cX8_figure 1 = .ok (.getfield 63, 3) := by decide +kernel
theorem dX8_figure_4 : decode cX8_figure 4 = .ok (.bipush (-9), 2) := by decide +kernel
theorem dX8_figure_6 : decode cX8_figure 6 = .ok (.if_icmp .ne 29, 3) := by decide +kernel
theorem dX8_figure_9 : decode cX8_figure 9 = .ok (.aload_n 0, 1) := by decide +kernel
theorem dX8_figure_10 : decode cX8_figure 10 = .ok (.getfield 66, 3) := by decide +kernel
theorem dX8_figure_13 : decode cX8_figure 13 = .ok (.aload_n 0, 1) := by decide +kernel
theorem dX8_figure_14 : decode cX8_figure 14 = .ok (.getfield 60, 3) := by decide +kernel
theorem dX8_figure_17 : decode cX8_figure 17 = .ok (.if_icmp .ge 18, 3) := by decide +kernel
theorem dX8_figure_20 : decode cX8_figure 20 = .ok (.aload_n 0, 1) := by decide +kernel
theorem dX8_figure_21 : decode cX8_figure 21 = .ok (.getfield 22, 3) := by decide +kernel
theorem dX8_figure_24 : decode cX8_figure 24 = .ok (.aload_n 0, 1) := by decide +kernel
theorem dX8_figure_25 : decode cX8_figure 25 = .ok (.getfield 66, 3) := by decide +kernel
theorem dX8_figure_28 : decode cX8_figure 28 = .ok (.iaload, 1) := by decide +kernel
theorem dX8_figure_29 : decode cX8_figure 29 = .ok (.bipush 48, 2) := by decide +kernel
theorem dX8_figure_31 : decode cX8_figure 31 = .ok (.isub, 1) := by decide +kernel
theorem dX8_figure_32 : decode cX8_figure 32 = .ok (.goto 4, 3) := by decide +kernel
theorem dX8_figure_35 : decode cX8_figure 35 = .ok (.iconst (-1), 1) := by decide +kernel
theorem dX8_figure_36 : decode cX8_figure 36 = .ok (.istore_n 2, 1) := by decide +kernel
theorem dX8_figure_37 : decode cX8_figure 37 = .ok (.iload_n 2, 1) := by decide +kernel
theorem dX8_figure_38 : decode cX8_figure 38 = .ok (.i2l, 1) := by decide +kernel
theorem dX8_figure_39 : decode cX8_figure 39 = .ok (.lconst 0, 1) := by decide +kernel
theorem dX8_figure_40 : decode cX8_figure 40 = .ok (.ldc2_w 69, 3) := by decide +kernel
theorem dX8_figure_43 : decode cX8_figure 43 = .ok (.invokestatic 56, 3) := by decide +kernel
theorem dX8_figure_46 : decode cX8_figure 46 = .ok (.ifCond .eq 11, 3) := by decide +kernel
theorem dX8_figure_49 : decode cX8_figure 49 = .ok (.iload_n 1, 1) := by decide +kernel
theorem dX8_figure_50 : decode cX8_figure 50 = .ok (.iload_n 2, 1) := by decide +kernel
theorem dX8_figure_51 : decode cX8_figure 51 = .ok (.ishr, 1) := by decide +kernel
theorem dX8_figure_52 : decode cX8_figure 52 = .ok (.iconst 1, 1) := by decide +kernel
theorem dX8_figure_53 : decode cX8_figure 53 = .ok (.iand, 1) := by decide +kernel
theorem dX8_figure_54 : decode cX8_figure 54 = .ok (.ifCond .ne 9, 3) := by decide +kernel
theorem dX8_figure_57 : decode cX8_figure 57 = .ok (.aload_n 0, 1) := by decide +kernel
theorem dX8_figure_58 : decode cX8_figure 58 = .ok (.invokevirtual 71, 3) := by decide +kernel
theorem dX8_figure_61 : decode cX8_figure 61 = .ok (.iconst 0, 1) := by decide +kernel
theorem dX8_figure_62 : decode cX8_figure 62 = .ok (.ireturn, 1) := by decide +kernel
theorem dX8_figure_63 : decode cX8_figure 63 = .ok (.aload_n 0, 1) := by decide +kernel
theorem dX8_figure_64 : decode cX8_figure 64 = .ok (.dup, 1) := by decide +kernel
theorem dX8_figure_65 : decode cX8_figure 65 = .ok (.getfield 66, 3) := by decide +kernel
theorem dX8_figure_68 : decode cX8_figure 68 = .ok (.iconst 1, 1) := by decide +kernel
theorem dX8_figure_69 : decode cX8_figure 69 = .ok (.iadd, 1) := by decide +kernel
theorem dX8_figure_70 : decode cX8_figure 70 = .ok (.putfield 66, 3) := by decide +kernel
theorem dX8_figure_73 : decode cX8_figure 73 = .ok (.iload_n 2, 1) := by decide +kernel
theorem dX8_figure_74 : decode cX8_figure 74 = .ok (.ireturn, 1) := by decide +kernel
set_option maxRecDepth 20000 in
theorem ggX8_two_X8_figure : GoodIn wsX8_two wsX8_figure := goodIn_r _ [5, 6, 7, 8, 9, 10, 11, 12, 4, 13, 14, 15, 16, 17, 18, 19, 20, 21, 22, 23, 24, 25, 26, 27, 28, 29, 30, 31, 32, 33, 34, 35, 36, 37, 38, 39, 40, 41, 42, 43] (by decide +kernel) (by decide +kernel)
set_option maxRecDepth 20000 in
theorem gX8_two_X8_figure : GoodIn wsX8_two (wsV RX8 74 RX8 yX8_figure wsX8_figure) := goodIn_app (goodIn_of _ (by decide +kernel)) ggX8_two_X8_figure
theorem dX8_two_0 : decode cX8_two 0 = .ok (.aload_n 0, 1) := by decide +kernel
theorem dX8_two_1 : decode cX8_two 1 = .ok (.iload_n 1, 1) := by decide +kernel
theorem dX8_two_2 : decode cX8_two 2 = .ok (.sipush 1023, 3) := by decide +kernel
theorem dX8_two_5 : decode cX8_two 5 = .ok (.iand, 1) := by decide +kernel
theorem dX8_two_6 : decode cX8_two 6 = .ok (.ifCond .eq 7, 3) := by decide +kernel
theorem dX8_two_9 : decode cX8_two 9 = .ok (.iconst 1, 1) := by decide +kernel
theorem dX8_two_10 : decode cX8_two 10 = .ok (.goto 4, 3) := by decide +kernel
theorem dX8_two_13 : decode cX8_two 13 = .ok (.iconst 0, 1) := by decide +kernel
theorem dX8_two_14 : decode cX8_two 14 = .ok (.iload_n 1, 1) := by decide +kernel
theorem dX8_two_15 : decode cX8_two 15 = .ok (.bipush 10, 2) := by decide +kernel
theorem dX8_two_17 : decode cX8_two 17 = .ok (.ishr, 1) := by decide +kernel
theorem dX8_two_18 : decode cX8_two 18 = .ok (.ifCond .eq 7, 3) := by decide +kernel
theorem dX8_two_21 : decode cX8_two 21 = .ok (.iconst 2, 1) := by decide +kernel
theorem dX8_two_22 : decode cX8_two 22 = .ok (.goto 4, 3) := by decide +kernel
theorem dX8_two_25 : decode cX8_two 25 = .ok (.iconst 0, 1) := by decide +kernel
theorem dX8_two_26 : decode cX8_two 26 = .ok (.ior, 1) := by decide +kernel
theorem dX8_two_27 : decode cX8_two 27 = .ok (.invokevirtual 74, 3) := by decide +kernel
theorem dX8_two_30 : decode cX8_two 30 = .ok (.istore_n 2, 1) := by decide +kernel
theorem dX8_two_31 : decode cX8_two 31 = .ok (.bipush 10, 2) := by decide +kernel
theorem dX8_two_33 : decode cX8_two 33 = .ok (.iload_n 2, 1) := by decide +kernel
theorem dX8_two_34 : decode cX8_two 34 = .ok (.imul, 1) := by decide +kernel
theorem dX8_two_35 : decode cX8_two 35 = .ok (.aload_n 0, 1) := by decide +kernel
theorem dX8_two_36 : decode cX8_two 36 = .ok (.iload_n 2, 1) := by decide +kernel
theorem dX8_two_37 : decode cX8_two 37 = .ok (.ifCond .ne 11, 3) := by decide +kernel
theorem dX8_two_40 : decode cX8_two 40 = .ok (.iload_n 1, 1) := by decide +kernel
theorem dX8_two_41 : decode cX8_two 41 = .ok (.sipush 1023, 3) := by decide +kernel
theorem dX8_two_44 : decode cX8_two 44 = .ok (.iand, 1) := by decide +kernel
theorem dX8_two_45 : decode cX8_two 45 = .ok (.goto 7, 3) := by decide +kernel
theorem dX8_two_48 : decode cX8_two 48 = .ok (.iload_n 1, 1) := by decide +kernel
theorem dX8_two_49 : decode cX8_two 49 = .ok (.bipush 10, 2) := by decide +kernel
theorem dX8_two_51 : decode cX8_two 51 = .ok (.ishr, 1) := by decide +kernel
theorem dX8_two_52 : decode cX8_two 52 = .ok (.invokevirtual 74, 3) := by decide +kernel
theorem dX8_two_55 : decode cX8_two 55 = .ok (.iadd, 1) := by decide +kernel
theorem dX8_two_56 : decode cX8_two 56 = .ok (.ireturn, 1) := by decide +kernel
set_option maxRecDepth 20000 in
theorem ggX8_readText_X8_readPart : GoodIn wsX8_readText wsX8_readPart := goodIn_r _ [13, 3, 1, 2, 4, 5, 6, 14, 15, 12, 16, 17, 18, 19, 20, 21, 22, 23, 24, 7, 8, 25, 26, 27, 28, 29, 30, 31, 32, 33, 34, 35, 36, 37, 38, 39, 40, 41, 42, 43, 44, 45, 46, 47, 48, 49, 50, 51, 52, 53, 54, 55, 56, 57, 58, 59, 60, 61, 62, 63, 64, 65, 66, 67] (by decide +kernel) (by decide +kernel)
set_option maxRecDepth 20000 in
theorem gX8_readText_X8_readPart : GoodIn wsX8_readText (wsV RX8 87 RX8 yX8_readPart wsX8_readPart) := goodIn_app (goodIn_of _ (by decide +kernel)) ggX8_readText_X8_readPart
theorem dX8_readText_0 : decode cX8_readText 0 = .ok (.aload_n 0, 1) := by decide +kernel
theorem dX8_readText_1 : decode cX8_readText 1 = .ok (.iconst 0, 1) := by decide +kernel
theorem dX8_readText_2 : decode cX8_readText 2 = .ok (.putfield 66, 3) := by decide +kernel
theorem dX8_readText_5 : decode cX8_readText 5 = .ok (.aload_n 0, 1) := by decide +kernel
theorem dX8_readText_6 : decode cX8_readText 6 = .ok (.bipush (-9), 2) := by decide +kernel
theorem dX8_readText_8 : decode cX8_readText 8 = .ok (.putfield 63, 3) := by decide +kernel
theorem dX8_readText_11 : decode cX8_readText 11 = .ok (.aload_n 0, 1) := by decide +kernel
theorem dX8_readText_12 : decode cX8_readText 12 = .ok (.iconst 0, 1) := by decide +kernel
theorem dX8_readText_13 : decode cX8_readText 13 = .ok (.putfield 78, 3) := by decide +kernel
theorem dX8_readText_16 : decode cX8_readText 16 = .ok (.aload_n 0, 1) := by decide +kernel
theorem dX8_readText_17 : decode cX8_readText 17 = .ok (.iconst 0, 1) := by decide +kernel
theorem dX8_readText_18 : decode cX8_readText 18 = .ok (.putfield 81, 3) := by decide +kernel
theorem dX8_readText_21 : decode cX8_readText 21 = .ok (.aload_n 0, 1) := by decide +kernel
theorem dX8_readText_22 : decode cX8_readText 22 = .ok (.iconst 0, 1) := by decide +kernel
theorem dX8_readText_23 : decode cX8_readText 23 = .ok (.putfield 84, 3) := by decide +kernel
theorem dX8_readText_26 : decode cX8_readText 26 = .ok (.iconst 0, 1) := by decide +kernel
theorem dX8_readText_27 : decode cX8_readText 27 = .ok (.istore_n 1, 1) := by decide +kernel
theorem dX8_readText_28 : decode cX8_readText 28 = .ok (.iload_n 1, 1) := by decide +kernel
theorem dX8_readText_29 : decode cX8_readText 29 = .ok (.bipush 12, 2) := by decide +kernel
theorem dX8_readText_31 : decode cX8_readText 31 = .ok (.if_icmp .ge 16, 3) := by decide +kernel
theorem dX8_readText_34 : decode cX8_readText 34 = .ok (.aload_n 0, 1) := by decide +kernel
theorem dX8_readText_35 : decode cX8_readText 35 = .ok (.getfield 13, 3) := by decide +kernel
theorem dX8_readText_38 : decode cX8_readText 38 = .ok (.iload_n 1, 1) := by decide +kernel
theorem dX8_readText_39 : decode cX8_readText 39 = .ok (.iconst 0, 1) := by decide +kernel
theorem dX8_readText_40 : decode cX8_readText 40 = .ok (.iastore, 1) := by decide +kernel
theorem dX8_readText_41 : decode cX8_readText 41 = .ok (.iinc 1 1, 3) := by decide +kernel
theorem dX8_readText_44 : decode cX8_readText 44 = .ok (.goto (-16), 3) := by decide +kernel
theorem dX8_readText_47 : decode cX8_readText 47 = .ok (.aload_n 0, 1) := by decide +kernel
theorem dX8_readText_48 : decode cX8_readText 48 = .ok (.getfield 60, 3) := by decide +kernel
theorem dX8_readText_51 : decode cX8_readText 51 = .ok (.ifCond .eq 14, 3) := by decide +kernel
theorem dX8_readText_54 : decode cX8_readText 54 = .ok (.aload_n 0, 1) := by decide +kernel
theorem dX8_readText_55 : decode cX8_readText 55 = .ok (.getfield 22, 3) := by decide +kernel
theorem dX8_readText_58 : decode cX8_readText 58 = .ok (.iconst 0, 1) := by decide +kernel
theorem dX8_readText_59 : decode cX8_readText 59 = .ok (.iaload, 1) := by decide +kernel
theorem dX8_readText_60 : decode cX8_readText 60 = .ok (.bipush 78, 2) := by decide +kernel
theorem dX8_readText_62 : decode cX8_readText 62 = .ok (.if_icmp .eq 5, 3) := by decide +kernel
theorem dX8_readText_65 : decode cX8_readText 65 = .ok (.iconst 0, 1) := by decide +kernel
theorem dX8_readText_66 : decode cX8_readText 66 = .ok (.ireturn, 1) := by decide +kernel
theorem dX8_readText_67 : decode cX8_readText 67 = .ok (.aload_n 0, 1) := by decide +kernel
theorem dX8_readText_68 : decode cX8_readText 68 = .ok (.iconst 1, 1) := by decide +kernel
theorem dX8_readText_69 : decode cX8_readText 69 = .ok (.putfield 66, 3) := by decide +kernel
theorem dX8_readText_72 : decode cX8_readText 72 = .ok (.aload_n 0, 1) := by decide +kernel
theorem dX8_readText_73 : decode cX8_readText 73 = .ok (.getfield 63, 3) := by decide +kernel
theorem dX8_readText_76 : decode cX8_readText 76 = .ok (.bipush (-9), 2) := by decide +kernel
theorem dX8_readText_78 : decode cX8_readText 78 = .ok (.if_icmp .ne 30, 3) := by decide +kernel
theorem dX8_readText_81 : decode cX8_readText 81 = .ok (.aload_n 0, 1) := by decide +kernel
theorem dX8_readText_82 : decode cX8_readText 82 = .ok (.getfield 66, 3) := by decide +kernel
theorem dX8_readText_85 : decode cX8_readText 85 = .ok (.aload_n 0, 1) := by decide +kernel
theorem dX8_readText_86 : decode cX8_readText 86 = .ok (.getfield 60, 3) := by decide +kernel
theorem dX8_readText_89 : decode cX8_readText 89 = .ok (.if_icmp .ge 19, 3) := by decide +kernel
theorem dX8_readText_92 : decode cX8_readText 92 = .ok (.aload_n 0, 1) := by decide +kernel
theorem dX8_readText_93 : decode cX8_readText 93 = .ok (.aload_n 0, 1) := by decide +kernel
theorem dX8_readText_94 : decode cX8_readText 94 = .ok (.getfield 22, 3) := by decide +kernel
theorem dX8_readText_97 : decode cX8_readText 97 = .ok (.aload_n 0, 1) := by decide +kernel
theorem dX8_readText_98 : decode cX8_readText 98 = .ok (.getfield 66, 3) := by decide +kernel
theorem dX8_readText_101 : decode cX8_readText 101 = .ok (.iaload, 1) := by decide +kernel
theorem dX8_readText_102 : decode cX8_readText 102 = .ok (.invokevirtual 87, 3) := by decide +kernel
theorem dX8_readText_105 : decode cX8_readText 105 = .ok (.goto (-33), 3) := by decide +kernel
theorem dX8_readText_108 : decode cX8_readText 108 = .ok (.aload_n 0, 1) := by decide +kernel
theorem dX8_readText_109 : decode cX8_readText 109 = .ok (.getfield 63, 3) := by decide +kernel
theorem dX8_readText_112 : decode cX8_readText 112 = .ok (.ireturn, 1) := by decide +kernel
theorem dX8_notOwed_0 : decode cX8_notOwed 0 = .ok (.iconst 0, 1) := by decide +kernel
theorem dX8_notOwed_1 : decode cX8_notOwed 1 = .ok (.istore_n 1, 1) := by decide +kernel
theorem dX8_notOwed_2 : decode cX8_notOwed 2 = .ok (.iconst 0, 1) := by decide +kernel
theorem dX8_notOwed_3 : decode cX8_notOwed 3 = .ok (.istore_n 2, 1) := by decide +kernel
theorem dX8_notOwed_4 : decode cX8_notOwed 4 = .ok (.iload_n 2, 1) := by decide +kernel
theorem dX8_notOwed_5 : decode cX8_notOwed 5 = .ok (.bipush 12, 2) := by decide +kernel
theorem dX8_notOwed_7 : decode cX8_notOwed 7 = .ok (.if_icmp .ge 28, 3) := by decide +kernel
theorem dX8_notOwed_10 : decode cX8_notOwed 10 = .ok (.iload_n 1, 1) := by decide +kernel
theorem dX8_notOwed_11 : decode cX8_notOwed 11 = .ok (.aload_n 0, 1) := by decide +kernel
theorem dX8_notOwed_12 : decode cX8_notOwed 12 = .ok (.getfield 13, 3) := by decide +kernel
theorem dX8_notOwed_15 : decode cX8_notOwed 15 = .ok (.iload_n 2, 1) := by decide +kernel
theorem dX8_notOwed_16 : decode cX8_notOwed 16 = .ok (.iaload, 1) := by decide +kernel
theorem dX8_notOwed_17 : decode cX8_notOwed 17 = .ok (.ifCond .ne 9, 3) := by decide +kernel
theorem dX8_notOwed_20 : decode cX8_notOwed 20 = .ok (.iconst 1, 1) := by decide +kernel
theorem dX8_notOwed_21 : decode cX8_notOwed 21 = .ok (.iload_n 2, 1) := by decide +kernel
theorem dX8_notOwed_22 : decode cX8_notOwed 22 = .ok (.ishl, 1) := by decide +kernel
theorem dX8_notOwed_23 : decode cX8_notOwed 23 = .ok (.goto 4, 3) := by decide +kernel
theorem dX8_notOwed_26 : decode cX8_notOwed 26 = .ok (.iconst 0, 1) := by decide +kernel
theorem dX8_notOwed_27 : decode cX8_notOwed 27 = .ok (.ior, 1) := by decide +kernel
theorem dX8_notOwed_28 : decode cX8_notOwed 28 = .ok (.istore_n 1, 1) := by decide +kernel
theorem dX8_notOwed_29 : decode cX8_notOwed 29 = .ok (.iinc 2 1, 3) := by decide +kernel
theorem dX8_notOwed_32 : decode cX8_notOwed 32 = .ok (.goto (-28), 3) := by decide +kernel
theorem dX8_notOwed_35 : decode cX8_notOwed 35 = .ok (.iload_n 1, 1) := by decide +kernel
theorem dX8_notOwed_36 : decode cX8_notOwed 36 = .ok (.ireturn, 1) := by decide +kernel
set_option maxRecDepth 20000 in
theorem ggX8_readPart_X8_ones : GoodIn wsX8_readPart wsX8_ones := goodIn_r _ [10] (by decide +kernel) (by decide +kernel)
set_option maxRecDepth 20000 in
theorem gX8_readPart_X8_ones : GoodIn wsX8_readPart (va_wsS RX8 91 yX8_ones wsX8_ones) := goodIn_app (goodIn_of _ (by decide +kernel)) ggX8_readPart_X8_ones
set_option maxRecDepth 20000 in
theorem ggX8_readPart_X8_two : GoodIn wsX8_readPart wsX8_two := goodIn_r _ [14, 15, 16, 17, 9, 18, 3, 2, 19, 20, 21, 22, 23, 24, 25, 26, 27, 28, 38, 39, 40, 41, 42, 43, 44, 45, 46, 47, 48, 49, 50, 51, 52, 53, 54, 55, 56, 57, 58, 59, 60, 61, 62, 63] (by decide +kernel) (by decide +kernel)
set_option maxRecDepth 20000 in
theorem gX8_readPart_X8_two : GoodIn wsX8_readPart (wsV RX8 94 RX8 yX8_two wsX8_two) := goodIn_app (goodIn_of _ (by decide +kernel)) ggX8_readPart_X8_two
set_option maxRecDepth 20000 in
theorem ggX8_readPart_X8_readWish : GoodIn wsX8_readPart wsX8_readWish := goodIn_r _ [32, 2, 4, 33, 3, 19, 20, 11, 12, 13, 9, 14, 15, 16, 17, 18, 21, 22, 23, 24, 25, 26, 27, 28, 38, 39, 40, 41, 42, 43, 44, 45, 46, 47, 48, 49, 50, 51, 52, 53, 54, 55, 56, 57, 58, 59, 60, 61, 62, 63] (by decide +kernel) (by decide +kernel)
set_option maxRecDepth 20000 in
theorem gX8_readPart_X8_readWish : GoodIn wsX8_readPart (wsV RX8 97 RX8 yX8_readWish wsX8_readWish) := goodIn_app (goodIn_of _ (by decide +kernel)) ggX8_readPart_X8_readWish
set_option maxRecDepth 20000 in
theorem ggX8_readPart_X8_notOwed : GoodIn wsX8_readPart wsX8_notOwed := goodIn_r _ [37, 6, 38, 39, 40, 41, 42, 43, 44, 45, 46, 47, 48, 49, 50, 51, 52, 53, 54, 55, 56, 57, 58, 59, 60, 61, 62, 63] (by decide +kernel) (by decide +kernel)
set_option maxRecDepth 20000 in
theorem gX8_readPart_X8_notOwed : GoodIn wsX8_readPart (wsV RX8 100 RX8 yX8_notOwed wsX8_notOwed) := goodIn_app (goodIn_of _ (by decide +kernel)) ggX8_readPart_X8_notOwed
set_option maxRecDepth 20000 in
theorem ggX8_readPart_X8_figure : GoodIn wsX8_readPart wsX8_figure := goodIn_r _ [18, 3, 2, 19, 20, 21, 22, 23, 9, 24, 25, 26, 27, 28, 38, 39, 40, 41, 42, 43, 44, 45, 46, 47, 48, 49, 50, 51, 52, 53, 54, 55, 56, 57, 58, 59, 60, 61, 62, 63] (by decide +kernel) (by decide +kernel)
set_option maxRecDepth 20000 in
theorem gX8_readPart_X8_figure : GoodIn wsX8_readPart (wsV RX8 74 RX8 yX8_figure wsX8_figure) := goodIn_app (goodIn_of _ (by decide +kernel)) ggX8_readPart_X8_figure
set_option maxRecDepth 20000 in
theorem ggX8_readPart_X8_fail : GoodIn wsX8_readPart wsX8_fail := goodIn_r _ [28, 3, 2, 38, 39, 40, 41, 42, 43, 44, 45, 46, 47, 48, 49, 50, 51, 52, 53, 54, 55, 56, 57, 58, 59, 60, 61, 62, 63] (by decide +kernel) (by decide +kernel)
set_option maxRecDepth 20000 in
theorem gX8_readPart_X8_fail : GoodIn wsX8_readPart (wsV RX8 71 RX8 yX8_fail wsX8_fail) := goodIn_app (goodIn_of _ (by decide +kernel)) ggX8_readPart_X8_fail
theorem dX8_readPart_0 : decode cX8_readPart 0 = .ok (.iload_n 1, 1) := by decide +kernel
theorem dX8_readPart_1 : decode cX8_readPart 1 = .ok (.bipush 72, 2) := by decide +kernel
theorem dX8_readPart_3 : decode cX8_readPart 3 = .ok (.if_icmp .ne 67, 3) := by decide +kernel
theorem dX8_readPart_6 : decode cX8_readPart 6 = .ok (.aload_n 0, 1) := by decide +kernel
theorem dX8_readPart_7 : decode cX8_readPart 7 = .ok (.getfield 78, 3) := by decide +kernel
theorem dX8_readPart_10 : decode cX8_readPart 10 = .ok (.invokestatic 91, 3) := by decide +kernel
theorem dX8_readPart_13 : decode cX8_readPart 13 = .ok (.iconst 5, 1) := by decide +kernel
theorem dX8_readPart_14 : decode cX8_readPart 14 = .ok (.if_icmp .ge 56, 3) := by decide +kernel
theorem dX8_readPart_17 : decode cX8_readPart 17 = .ok (.aload_n 0, 1) := by decide +kernel
theorem dX8_readPart_18 : decode cX8_readPart 18 = .ok (.dup, 1) := by decide +kernel
theorem dX8_readPart_19 : decode cX8_readPart 19 = .ok (.getfield 66, 3) := by decide +kernel
theorem dX8_readPart_22 : decode cX8_readPart 22 = .ok (.iconst 1, 1) := by decide +kernel
theorem dX8_readPart_23 : decode cX8_readPart 23 = .ok (.iadd, 1) := by decide +kernel
theorem dX8_readPart_24 : decode cX8_readPart 24 = .ok (.putfield 66, 3) := by decide +kernel
theorem dX8_readPart_27 : decode cX8_readPart 27 = .ok (.aload_n 0, 1) := by decide +kernel
theorem dX8_readPart_28 : decode cX8_readPart 28 = .ok (.sipush 4095, 3) := by decide +kernel
theorem dX8_readPart_31 : decode cX8_readPart 31 = .ok (.aload_n 0, 1) := by decide +kernel
theorem dX8_readPart_32 : decode cX8_readPart 32 = .ok (.getfield 78, 3) := by decide +kernel
theorem dX8_readPart_35 : decode cX8_readPart 35 = .ok (.iconst (-1), 1) := by decide +kernel
theorem dX8_readPart_36 : decode cX8_readPart 36 = .ok (.ixor, 1) := by decide +kernel
theorem dX8_readPart_37 : decode cX8_readPart 37 = .ok (.iand, 1) := by decide +kernel
theorem dX8_readPart_38 : decode cX8_readPart 38 = .ok (.invokevirtual 94, 3) := by decide +kernel
theorem dX8_readPart_41 : decode cX8_readPart 41 = .ok (.istore_n 2, 1) := by decide +kernel
theorem dX8_readPart_42 : decode cX8_readPart 42 = .ok (.aload_n 0, 1) := by decide +kernel
theorem dX8_readPart_43 : decode cX8_readPart 43 = .ok (.dup, 1) := by decide +kernel
theorem dX8_readPart_44 : decode cX8_readPart 44 = .ok (.getfield 78, 3) := by decide +kernel
theorem dX8_readPart_47 : decode cX8_readPart 47 = .ok (.aload_n 0, 1) := by decide +kernel
theorem dX8_readPart_48 : decode cX8_readPart 48 = .ok (.getfield 63, 3) := by decide +kernel
theorem dX8_readPart_51 : decode cX8_readPart 51 = .ok (.bipush (-9), 2) := by decide +kernel
theorem dX8_readPart_53 : decode cX8_readPart 53 = .ok (.if_icmp .ne 9, 3) := by decide +kernel
theorem dX8_readPart_56 : decode cX8_readPart 56 = .ok (.iconst 1, 1) := by decide +kernel
theorem dX8_readPart_57 : decode cX8_readPart 57 = .ok (.iload_n 2, 1) := by decide +kernel
theorem dX8_readPart_58 : decode cX8_readPart 58 = .ok (.ishl, 1) := by decide +kernel
theorem dX8_readPart_59 : decode cX8_readPart 59 = .ok (.goto 4, 3) := by decide +kernel
theorem dX8_readPart_62 : decode cX8_readPart 62 = .ok (.iconst 0, 1) := by decide +kernel
theorem dX8_readPart_63 : decode cX8_readPart 63 = .ok (.ior, 1) := by decide +kernel
theorem dX8_readPart_64 : decode cX8_readPart 64 = .ok (.putfield 78, 3) := by decide +kernel
theorem dX8_readPart_67 : decode cX8_readPart 67 = .ok (.goto 97, 3) := by decide +kernel
theorem dX8_readPart_70 : decode cX8_readPart 70 = .ok (.iload_n 1, 1) := by decide +kernel
theorem dX8_readPart_71 : decode cX8_readPart 71 = .ok (.bipush 87, 2) := by decide +kernel
theorem dX8_readPart_73 : decode cX8_readPart 73 = .ok (.if_icmp .ne 18, 3) := by decide +kernel
theorem dX8_readPart_76 : decode cX8_readPart 76 = .ok (.aload_n 0, 1) := by decide +kernel
theorem dX8_readPart_77 : decode cX8_readPart 77 = .ok (.getfield 81, 3) := by decide +kernel
theorem dX8_readPart_80 : decode cX8_readPart 80 = .ok (.iconst 5, 1) := by decide +kernel
theorem dX8_readPart_81 : decode cX8_readPart 81 = .ok (.if_icmp .ge 10, 3) := by decide +kernel
theorem dX8_readPart_84 : decode cX8_readPart 84 = .ok (.aload_n 0, 1) := by decide +kernel
theorem dX8_readPart_85 : decode cX8_readPart 85 = .ok (.invokevirtual 97, 3) := by decide +kernel
theorem dX8_readPart_88 : decode cX8_readPart 88 = .ok (.goto 76, 3) := by decide +kernel
theorem dX8_readPart_91 : decode cX8_readPart 91 = .ok (.iload_n 1, 1) := by decide +kernel
theorem dX8_readPart_92 : decode cX8_readPart 92 = .ok (.bipush 79, 2) := by decide +kernel
theorem dX8_readPart_94 : decode cX8_readPart 94 = .ok (.if_icmp .ne 66, 3) := by decide +kernel
theorem dX8_readPart_97 : decode cX8_readPart 97 = .ok (.aload_n 0, 1) := by decide +kernel
theorem dX8_readPart_98 : decode cX8_readPart 98 = .ok (.getfield 84, 3) := by decide +kernel
theorem dX8_readPart_101 : decode cX8_readPart 101 = .ok (.iconst 4, 1) := by decide +kernel
theorem dX8_readPart_102 : decode cX8_readPart 102 = .ok (.if_icmp .ge 58, 3) := by decide +kernel
theorem dX8_readPart_105 : decode cX8_readPart 105 = .ok (.aload_n 0, 1) := by decide +kernel
theorem dX8_readPart_106 : decode cX8_readPart 106 = .ok (.dup, 1) := by decide +kernel
theorem dX8_readPart_107 : decode cX8_readPart 107 = .ok (.getfield 66, 3) := by decide +kernel
theorem dX8_readPart_110 : decode cX8_readPart 110 = .ok (.iconst 1, 1) := by decide +kernel
theorem dX8_readPart_111 : decode cX8_readPart 111 = .ok (.iadd, 1) := by decide +kernel
theorem dX8_readPart_112 : decode cX8_readPart 112 = .ok (.putfield 66, 3) := by decide +kernel
theorem dX8_readPart_115 : decode cX8_readPart 115 = .ok (.aload_n 0, 1) := by decide +kernel
theorem dX8_readPart_116 : decode cX8_readPart 116 = .ok (.aload_n 0, 1) := by decide +kernel
theorem dX8_readPart_117 : decode cX8_readPart 117 = .ok (.invokevirtual 100, 3) := by decide +kernel
theorem dX8_readPart_120 : decode cX8_readPart 120 = .ok (.invokevirtual 94, 3) := by decide +kernel
theorem dX8_readPart_123 : decode cX8_readPart 123 = .ok (.istore_n 2, 1) := by decide +kernel
theorem dX8_readPart_124 : decode cX8_readPart 124 = .ok (.aload_n 0, 1) := by decide +kernel
theorem dX8_readPart_125 : decode cX8_readPart 125 = .ok (.bipush 126, 2) := by decide +kernel
theorem dX8_readPart_127 : decode cX8_readPart 127 = .ok (.invokevirtual 74, 3) := by decide +kernel
theorem dX8_readPart_130 : decode cX8_readPart 130 = .ok (.istore_n 3, 1) := by decide +kernel
theorem dX8_readPart_131 : decode cX8_readPart 131 = .ok (.aload_n 0, 1) := by decide +kernel
theorem dX8_readPart_132 : decode cX8_readPart 132 = .ok (.getfield 63, 3) := by decide +kernel
theorem dX8_readPart_135 : decode cX8_readPart 135 = .ok (.bipush (-9), 2) := by decide +kernel
theorem dX8_readPart_137 : decode cX8_readPart 137 = .ok (.if_icmp .ne 20, 3) := by decide +kernel
theorem dX8_readPart_140 : decode cX8_readPart 140 = .ok (.aload_n 0, 1) := by decide +kernel
theorem dX8_readPart_141 : decode cX8_readPart 141 = .ok (.getfield 13, 3) := by decide +kernel
theorem dX8_readPart_144 : decode cX8_readPart 144 = .ok (.iload_n 2, 1) := by decide +kernel
theorem dX8_readPart_145 : decode cX8_readPart 145 = .ok (.iload_n 3, 1) := by decide +kernel
theorem dX8_readPart_146 : decode cX8_readPart 146 = .ok (.iastore, 1) := by decide +kernel
theorem dX8_readPart_147 : decode cX8_readPart 147 = .ok (.aload_n 0, 1) := by decide +kernel
theorem dX8_readPart_148 : decode cX8_readPart 148 = .ok (.dup, 1) := by decide +kernel
theorem dX8_readPart_149 : decode cX8_readPart 149 = .ok (.getfield 84, 3) := by decide +kernel
theorem dX8_readPart_152 : decode cX8_readPart 152 = .ok (.iconst 1, 1) := by decide +kernel
theorem dX8_readPart_153 : decode cX8_readPart 153 = .ok (.iadd, 1) := by decide +kernel
theorem dX8_readPart_154 : decode cX8_readPart 154 = .ok (.putfield 84, 3) := by decide +kernel
theorem dX8_readPart_157 : decode cX8_readPart 157 = .ok (.goto 7, 3) := by decide +kernel
theorem dX8_readPart_160 : decode cX8_readPart 160 = .ok (.aload_n 0, 1) := by decide +kernel
theorem dX8_readPart_161 : decode cX8_readPart 161 = .ok (.invokevirtual 71, 3) := by decide +kernel
theorem dX8_readPart_164 : decode cX8_readPart 164 = .ok (.return_, 1) := by decide +kernel
set_option maxRecDepth 20000 in
theorem ggX8_readWish_X8_two : GoodIn wsX8_readWish wsX8_two := goodIn_r _ [11, 12, 13, 14, 10, 15, 4, 1, 5, 6, 16, 17, 18, 19, 20, 21, 22, 23, 24, 25, 26, 27, 28, 29, 30, 31, 32, 33, 34, 35, 36, 37, 38, 39, 40, 41, 42, 43, 44, 45, 46, 47, 48, 49] (by decide +kernel) (by decide +kernel)
set_option maxRecDepth 20000 in
theorem gX8_readWish_X8_two : GoodIn wsX8_readWish (wsV RX8 94 RX8 yX8_two wsX8_two) := goodIn_app (goodIn_of _ (by decide +kernel)) ggX8_readWish_X8_two
set_option maxRecDepth 20000 in
theorem ggX8_readWish_X8_figure : GoodIn wsX8_readWish wsX8_figure := goodIn_r _ [15, 4, 1, 5, 6, 16, 17, 18, 10, 19, 20, 21, 22, 23, 24, 25, 26, 27, 28, 29, 30, 31, 32, 33, 34, 35, 36, 37, 38, 39, 40, 41, 42, 43, 44, 45, 46, 47, 48, 49] (by decide +kernel) (by decide +kernel)
set_option maxRecDepth 20000 in
theorem gX8_readWish_X8_figure : GoodIn wsX8_readWish (wsV RX8 74 RX8 yX8_figure wsX8_figure) := goodIn_app (goodIn_of _ (by decide +kernel)) ggX8_readWish_X8_figure
set_option maxRecDepth 20000 in
theorem ggX8_readWish_X8_fail : GoodIn wsX8_readWish wsX8_fail := goodIn_r _ [23, 4, 1, 24, 25, 26, 27, 28, 29, 30, 31, 32, 33, 34, 35, 36, 37, 38, 39, 40, 41, 42, 43, 44, 45, 46, 47, 48, 49] (by decide +kernel) (by decide +kernel)
set_option maxRecDepth 20000 in
theorem gX8_readWish_X8_fail : GoodIn wsX8_readWish (wsV RX8 71 RX8 yX8_fail wsX8_fail) := goodIn_app (goodIn_of _ (by decide +kernel)) ggX8_readWish_X8_fail
theorem dX8_readWish_0 : decode cX8_readWish 0 = .ok (.aload_n 0, 1) := by decide +kernel
theorem dX8_readWish_1 : decode cX8_readWish 1 = .ok (.dup, 1) := by decide +kernel
theorem dX8_readWish_2 : decode cX8_readWish 2 = .ok (.getfield 66, 3) := by decide +kernel
theorem dX8_readWish_5 : decode cX8_readWish 5 = .ok (.iconst 1, 1) := by decide +kernel
theorem dX8_readWish_6 : decode cX8_readWish 6 = .ok (.iadd, 1) := by decide +kernel
theorem dX8_readWish_7 : decode cX8_readWish 7 = .ok (.putfield 66, 3) := by decide +kernel
theorem dX8_readWish_10 : decode cX8_readWish 10 = .ok (.iconst 5, 1) := by decide +kernel
theorem dX8_readWish_11 : decode cX8_readWish 11 = .ok (.aload_n 0, 1) := by decide +kernel
theorem dX8_readWish_12 : decode cX8_readWish 12 = .ok (.getfield 81, 3) := by decide +kernel
theorem dX8_readWish_15 : decode cX8_readWish 15 = .ok (.imul, 1) := by decide +kernel
theorem dX8_readWish_16 : decode cX8_readWish 16 = .ok (.istore_n 1, 1) := by decide +kernel
theorem dX8_readWish_17 : decode cX8_readWish 17 = .ok (.aload_n 0, 1) := by decide +kernel
theorem dX8_readWish_18 : decode cX8_readWish 18 = .ok (.getfield 7, 3) := by decide +kernel
theorem dX8_readWish_21 : decode cX8_readWish 21 = .ok (.iload_n 1, 1) := by decide +kernel
theorem dX8_readWish_22 : decode cX8_readWish 22 = .ok (.aload_n 0, 1) := by decide +kernel
theorem dX8_readWish_23 : decode cX8_readWish 23 = .ok (.sipush 4095, 3) := by decide +kernel
theorem dX8_readWish_26 : decode cX8_readWish 26 = .ok (.invokevirtual 94, 3) := by decide +kernel
theorem dX8_readWish_29 : decode cX8_readWish 29 = .ok (.iastore, 1) := by decide +kernel
theorem dX8_readWish_30 : decode cX8_readWish 30 = .ok (.aload_n 0, 1) := by decide +kernel
theorem dX8_readWish_31 : decode cX8_readWish 31 = .ok (.getfield 7, 3) := by decide +kernel
theorem dX8_readWish_34 : decode cX8_readWish 34 = .ok (.iload_n 1, 1) := by decide +kernel
theorem dX8_readWish_35 : decode cX8_readWish 35 = .ok (.iconst 1, 1) := by decide +kernel
theorem dX8_readWish_36 : decode cX8_readWish 36 = .ok (.iadd, 1) := by decide +kernel
theorem dX8_readWish_37 : decode cX8_readWish 37 = .ok (.aload_n 0, 1) := by decide +kernel
theorem dX8_readWish_38 : decode cX8_readWish 38 = .ok (.bipush 63, 2) := by decide +kernel
theorem dX8_readWish_40 : decode cX8_readWish 40 = .ok (.invokevirtual 74, 3) := by decide +kernel
theorem dX8_readWish_43 : decode cX8_readWish 43 = .ok (.iastore, 1) := by decide +kernel
theorem dX8_readWish_44 : decode cX8_readWish 44 = .ok (.aload_n 0, 1) := by decide +kernel
theorem dX8_readWish_45 : decode cX8_readWish 45 = .ok (.getfield 7, 3) := by decide +kernel
theorem dX8_readWish_48 : decode cX8_readWish 48 = .ok (.iload_n 1, 1) := by decide +kernel
theorem dX8_readWish_49 : decode cX8_readWish 49 = .ok (.iconst 2, 1) := by decide +kernel
theorem dX8_readWish_50 : decode cX8_readWish 50 = .ok (.iadd, 1) := by decide +kernel
theorem dX8_readWish_51 : decode cX8_readWish 51 = .ok (.aload_n 0, 1) := by decide +kernel
theorem dX8_readWish_52 : decode cX8_readWish 52 = .ok (.bipush 126, 2) := by decide +kernel
theorem dX8_readWish_54 : decode cX8_readWish 54 = .ok (.invokevirtual 74, 3) := by decide +kernel
theorem dX8_readWish_57 : decode cX8_readWish 57 = .ok (.iastore, 1) := by decide +kernel
theorem dX8_readWish_58 : decode cX8_readWish 58 = .ok (.aload_n 0, 1) := by decide +kernel
theorem dX8_readWish_59 : decode cX8_readWish 59 = .ok (.getfield 7, 3) := by decide +kernel
theorem dX8_readWish_62 : decode cX8_readWish 62 = .ok (.iload_n 1, 1) := by decide +kernel
theorem dX8_readWish_63 : decode cX8_readWish 63 = .ok (.iconst 3, 1) := by decide +kernel
theorem dX8_readWish_64 : decode cX8_readWish 64 = .ok (.iadd, 1) := by decide +kernel
theorem dX8_readWish_65 : decode cX8_readWish 65 = .ok (.aload_n 0, 1) := by decide +kernel
theorem dX8_readWish_66 : decode cX8_readWish 66 = .ok (.sipush 1022, 3) := by decide +kernel
theorem dX8_readWish_69 : decode cX8_readWish 69 = .ok (.invokevirtual 74, 3) := by decide +kernel
theorem dX8_readWish_72 : decode cX8_readWish 72 = .ok (.iastore, 1) := by decide +kernel
theorem dX8_readWish_73 : decode cX8_readWish 73 = .ok (.aload_n 0, 1) := by decide +kernel
theorem dX8_readWish_74 : decode cX8_readWish 74 = .ok (.getfield 63, 3) := by decide +kernel
theorem dX8_readWish_77 : decode cX8_readWish 77 = .ok (.bipush (-9), 2) := by decide +kernel
theorem dX8_readWish_79 : decode cX8_readWish 79 = .ok (.if_icmp .ne 26, 3) := by decide +kernel
theorem dX8_readWish_82 : decode cX8_readWish 82 = .ok (.aload_n 0, 1) := by decide +kernel
theorem dX8_readWish_83 : decode cX8_readWish 83 = .ok (.getfield 66, 3) := by decide +kernel
theorem dX8_readWish_86 : decode cX8_readWish 86 = .ok (.aload_n 0, 1) := by decide +kernel
theorem dX8_readWish_87 : decode cX8_readWish 87 = .ok (.getfield 60, 3) := by decide +kernel
theorem dX8_readWish_90 : decode cX8_readWish 90 = .ok (.if_icmp .ge 15, 3) := by decide +kernel
theorem dX8_readWish_93 : decode cX8_readWish 93 = .ok (.aload_n 0, 1) := by decide +kernel
theorem dX8_readWish_94 : decode cX8_readWish 94 = .ok (.getfield 22, 3) := by decide +kernel
theorem dX8_readWish_97 : decode cX8_readWish 97 = .ok (.aload_n 0, 1) := by decide +kernel
theorem dX8_readWish_98 : decode cX8_readWish 98 = .ok (.getfield 66, 3) := by decide +kernel
theorem dX8_readWish_101 : decode cX8_readWish 101 = .ok (.iaload, 1) := by decide +kernel
theorem dX8_readWish_102 : decode cX8_readWish 102 = .ok (.goto 4, 3) := by decide +kernel
theorem dX8_readWish_105 : decode cX8_readWish 105 = .ok (.iconst 0, 1) := by decide +kernel
theorem dX8_readWish_106 : decode cX8_readWish 106 = .ok (.istore_n 2, 1) := by decide +kernel
theorem dX8_readWish_107 : decode cX8_readWish 107 = .ok (.iload_n 2, 1) := by decide +kernel
theorem dX8_readWish_108 : decode cX8_readWish 108 = .ok (.bipush 100, 2) := by decide +kernel
theorem dX8_readWish_110 : decode cX8_readWish 110 = .ok (.if_icmp .eq 9, 3) := by decide +kernel
theorem dX8_readWish_113 : decode cX8_readWish 113 = .ok (.iload_n 2, 1) := by decide +kernel
theorem dX8_readWish_114 : decode cX8_readWish 114 = .ok (.bipush 108, 2) := by decide +kernel
theorem dX8_readWish_116 : decode cX8_readWish 116 = .ok (.if_icmp .ne 45, 3) := by decide +kernel
theorem dX8_readWish_119 : decode cX8_readWish 119 = .ok (.aload_n 0, 1) := by decide +kernel
theorem dX8_readWish_120 : decode cX8_readWish 120 = .ok (.getfield 7, 3) := by decide +kernel
theorem dX8_readWish_123 : decode cX8_readWish 123 = .ok (.iload_n 1, 1) := by decide +kernel
theorem dX8_readWish_124 : decode cX8_readWish 124 = .ok (.iconst 4, 1) := by decide +kernel
theorem dX8_readWish_125 : decode cX8_readWish 125 = .ok (.iadd, 1) := by decide +kernel
theorem dX8_readWish_126 : decode cX8_readWish 126 = .ok (.iload_n 2, 1) := by decide +kernel
theorem dX8_readWish_127 : decode cX8_readWish 127 = .ok (.bipush 100, 2) := by decide +kernel
theorem dX8_readWish_129 : decode cX8_readWish 129 = .ok (.if_icmp .ne 7, 3) := by decide +kernel
theorem dX8_readWish_132 : decode cX8_readWish 132 = .ok (.iconst 1, 1) := by decide +kernel
theorem dX8_readWish_133 : decode cX8_readWish 133 = .ok (.goto 4, 3) := by decide +kernel
theorem dX8_readWish_136 : decode cX8_readWish 136 = .ok (.iconst 0, 1) := by decide +kernel
theorem dX8_readWish_137 : decode cX8_readWish 137 = .ok (.iastore, 1) := by decide +kernel
theorem dX8_readWish_138 : decode cX8_readWish 138 = .ok (.aload_n 0, 1) := by decide +kernel
theorem dX8_readWish_139 : decode cX8_readWish 139 = .ok (.dup, 1) := by decide +kernel
theorem dX8_readWish_140 : decode cX8_readWish 140 = .ok (.getfield 81, 3) := by decide +kernel
theorem dX8_readWish_143 : decode cX8_readWish 143 = .ok (.iconst 1, 1) := by decide +kernel
theorem dX8_readWish_144 : decode cX8_readWish 144 = .ok (.iadd, 1) := by decide +kernel
theorem dX8_readWish_145 : decode cX8_readWish 145 = .ok (.putfield 81, 3) := by decide +kernel
theorem dX8_readWish_148 : decode cX8_readWish 148 = .ok (.aload_n 0, 1) := by decide +kernel
theorem dX8_readWish_149 : decode cX8_readWish 149 = .ok (.dup, 1) := by decide +kernel
theorem dX8_readWish_150 : decode cX8_readWish 150 = .ok (.getfield 66, 3) := by decide +kernel
theorem dX8_readWish_153 : decode cX8_readWish 153 = .ok (.iconst 1, 1) := by decide +kernel
theorem dX8_readWish_154 : decode cX8_readWish 154 = .ok (.iadd, 1) := by decide +kernel
theorem dX8_readWish_155 : decode cX8_readWish 155 = .ok (.putfield 66, 3) := by decide +kernel
theorem dX8_readWish_158 : decode cX8_readWish 158 = .ok (.goto 7, 3) := by decide +kernel
theorem dX8_readWish_161 : decode cX8_readWish 161 = .ok (.aload_n 0, 1) := by decide +kernel
theorem dX8_readWish_162 : decode cX8_readWish 162 = .ok (.invokevirtual 71, 3) := by decide +kernel
theorem dX8_readWish_165 : decode cX8_readWish 165 = .ok (.return_, 1) := by decide +kernel
set_option maxRecDepth 20000 in
theorem ggX8_fault_X8_readText : GoodIn wsX8_fault wsX8_readText := goodIn_r _ [5, 6, 7, 8, 9, 10, 11, 12, 13, 14, 15, 16, 4, 17, 18, 19, 20, 21, 22, 23, 24, 25, 26, 27, 28, 29, 30, 31, 32, 33, 34, 35, 36, 37, 38, 39, 40, 41, 42, 43, 44, 45, 46, 47, 48, 49, 50, 51, 52, 53, 54, 55, 56, 57, 58, 59, 60, 61, 62, 63, 64, 65, 66, 67, 68, 69, 70, 71] (by decide +kernel) (by decide +kernel)
set_option maxRecDepth 20000 in
theorem gX8_fault_X8_readText : GoodIn wsX8_fault (wsV RX8 104 RX8 yX8_readText wsX8_readText) := goodIn_app (goodIn_of _ (by decide +kernel)) ggX8_fault_X8_readText
theorem dX8_fault_0 : decode cX8_fault 0 = .ok (.aload_n 0, 1) := by decide +kernel
theorem dX8_fault_1 : decode cX8_fault 1 = .ok (.invokevirtual 104, 3) := by decide +kernel
theorem dX8_fault_4 : decode cX8_fault 4 = .ok (.ireturn, 1) := by decide +kernel
set_option maxRecDepth 20000 in
theorem ggX8_letting_X8_readText : GoodIn wsX8_letting wsX8_readText := goodIn_r _ [16, 17, 18, 1, 3, 19, 9, 20, 21, 22, 23, 24, 15, 25, 26, 27, 28, 29, 30, 31, 32, 33, 34, 35, 36, 37, 38, 39, 40, 41, 42, 43, 44, 45, 46, 47, 48, 7, 49, 50, 51, 52, 53, 54, 55, 56, 57, 58, 59, 60, 61, 62, 63, 64, 65, 66, 67, 68, 69, 70, 71, 72, 73, 74, 75, 76, 77, 78] (by decide +kernel) (by decide +kernel)
set_option maxRecDepth 20000 in
theorem gX8_letting_X8_readText : GoodIn wsX8_letting (wsV RX8 104 RX8 yX8_readText wsX8_readText) := goodIn_app (goodIn_of _ (by decide +kernel)) ggX8_letting_X8_readText
theorem dX8_letting_0 : decode cX8_letting 0 = .ok (.aload_n 0, 1) := by decide +kernel
theorem dX8_letting_1 : decode cX8_letting 1 = .ok (.invokevirtual 104, 3) := by decide +kernel
theorem dX8_letting_4 : decode cX8_letting 4 = .ok (.bipush (-9), 2) := by decide +kernel
theorem dX8_letting_6 : decode cX8_letting 6 = .ok (.if_icmp .eq 6, 3) := by decide +kernel
theorem dX8_letting_9 : decode cX8_letting 9 = .ok (.bipush (-3), 2) := by decide +kernel
theorem dX8_letting_11 : decode cX8_letting 11 = .ok (.ireturn, 1) := by decide +kernel
theorem dX8_letting_12 : decode cX8_letting 12 = .ok (.aload_n 0, 1) := by decide +kernel
theorem dX8_letting_13 : decode cX8_letting 13 = .ok (.aload_n 0, 1) := by decide +kernel
theorem dX8_letting_14 : decode cX8_letting 14 = .ok (.getfield 78, 3) := by decide +kernel
theorem dX8_letting_17 : decode cX8_letting 17 = .ok (.putfield 107, 3) := by decide +kernel
theorem dX8_letting_20 : decode cX8_letting 20 = .ok (.aload_n 0, 1) := by decide +kernel
theorem dX8_letting_21 : decode cX8_letting 21 = .ok (.aload_n 0, 1) := by decide +kernel
theorem dX8_letting_22 : decode cX8_letting 22 = .ok (.getfield 81, 3) := by decide +kernel
theorem dX8_letting_25 : decode cX8_letting 25 = .ok (.putfield 50, 3) := by decide +kernel
theorem dX8_letting_28 : decode cX8_letting 28 = .ok (.aload_n 0, 1) := by decide +kernel
theorem dX8_letting_29 : decode cX8_letting 29 = .ok (.iconst 0, 1) := by decide +kernel
theorem dX8_letting_30 : decode cX8_letting 30 = .ok (.putfield 110, 3) := by decide +kernel
theorem dX8_letting_33 : decode cX8_letting 33 = .ok (.iconst 0, 1) := by decide +kernel
theorem dX8_letting_34 : decode cX8_letting 34 = .ok (.istore_n 1, 1) := by decide +kernel
theorem dX8_letting_35 : decode cX8_letting 35 = .ok (.iload_n 1, 1) := by decide +kernel
theorem dX8_letting_36 : decode cX8_letting 36 = .ok (.bipush 25, 2) := by decide +kernel
theorem dX8_letting_38 : decode cX8_letting 38 = .ok (.if_icmp .ge 21, 3) := by decide +kernel
theorem dX8_letting_41 : decode cX8_letting 41 = .ok (.aload_n 0, 1) := by decide +kernel
theorem dX8_letting_42 : decode cX8_letting 42 = .ok (.getfield 16, 3) := by decide +kernel
theorem dX8_letting_45 : decode cX8_letting 45 = .ok (.iload_n 1, 1) := by decide +kernel
theorem dX8_letting_46 : decode cX8_letting 46 = .ok (.aload_n 0, 1) := by decide +kernel
theorem dX8_letting_47 : decode cX8_letting 47 = .ok (.getfield 7, 3) := by decide +kernel
theorem dX8_letting_50 : decode cX8_letting 50 = .ok (.iload_n 1, 1) := by decide +kernel
theorem dX8_letting_51 : decode cX8_letting 51 = .ok (.iaload, 1) := by decide +kernel
theorem dX8_letting_52 : decode cX8_letting 52 = .ok (.iastore, 1) := by decide +kernel
theorem dX8_letting_53 : decode cX8_letting 53 = .ok (.iinc 1 1, 3) := by decide +kernel
theorem dX8_letting_56 : decode cX8_letting 56 = .ok (.goto (-21), 3) := by decide +kernel
theorem dX8_letting_59 : decode cX8_letting 59 = .ok (.iconst 0, 1) := by decide +kernel
theorem dX8_letting_60 : decode cX8_letting 60 = .ok (.istore_n 1, 1) := by decide +kernel
theorem dX8_letting_61 : decode cX8_letting 61 = .ok (.iload_n 1, 1) := by decide +kernel
theorem dX8_letting_62 : decode cX8_letting 62 = .ok (.bipush 12, 2) := by decide +kernel
theorem dX8_letting_64 : decode cX8_letting 64 = .ok (.if_icmp .ge 21, 3) := by decide +kernel
theorem dX8_letting_67 : decode cX8_letting 67 = .ok (.aload_n 0, 1) := by decide +kernel
theorem dX8_letting_68 : decode cX8_letting 68 = .ok (.getfield 19, 3) := by decide +kernel
theorem dX8_letting_71 : decode cX8_letting 71 = .ok (.iload_n 1, 1) := by decide +kernel
theorem dX8_letting_72 : decode cX8_letting 72 = .ok (.aload_n 0, 1) := by decide +kernel
theorem dX8_letting_73 : decode cX8_letting 73 = .ok (.getfield 13, 3) := by decide +kernel
theorem dX8_letting_76 : decode cX8_letting 76 = .ok (.iload_n 1, 1) := by decide +kernel
theorem dX8_letting_77 : decode cX8_letting 77 = .ok (.iaload, 1) := by decide +kernel
theorem dX8_letting_78 : decode cX8_letting 78 = .ok (.iastore, 1) := by decide +kernel
theorem dX8_letting_79 : decode cX8_letting 79 = .ok (.iinc 1 1, 3) := by decide +kernel
theorem dX8_letting_82 : decode cX8_letting 82 = .ok (.goto (-21), 3) := by decide +kernel
theorem dX8_letting_85 : decode cX8_letting 85 = .ok (.aload_n 0, 1) := by decide +kernel
theorem dX8_letting_86 : decode cX8_letting 86 = .ok (.iconst 0, 1) := by decide +kernel
theorem dX8_letting_87 : decode cX8_letting 87 = .ok (.putfield 113, 3) := by decide +kernel
theorem dX8_letting_90 : decode cX8_letting 90 = .ok (.aload_n 0, 1) := by decide +kernel
theorem dX8_letting_91 : decode cX8_letting 91 = .ok (.getfield 44, 3) := by decide +kernel
theorem dX8_letting_94 : decode cX8_letting 94 = .ok (.iconst 0, 1) := by decide +kernel
theorem dX8_letting_95 : decode cX8_letting 95 = .ok (.iconst 0, 1) := by decide +kernel
theorem dX8_letting_96 : decode cX8_letting 96 = .ok (.bastore, 1) := by decide +kernel
theorem dX8_letting_97 : decode cX8_letting 97 = .ok (.aload_n 0, 1) := by decide +kernel
theorem dX8_letting_98 : decode cX8_letting 98 = .ok (.getfield 44, 3) := by decide +kernel
theorem dX8_letting_101 : decode cX8_letting 101 = .ok (.iconst 1, 1) := by decide +kernel
theorem dX8_letting_102 : decode cX8_letting 102 = .ok (.iconst 0, 1) := by decide +kernel
theorem dX8_letting_103 : decode cX8_letting 103 = .ok (.bastore, 1) := by decide +kernel
theorem dX8_letting_104 : decode cX8_letting 104 = .ok (.aload_n 0, 1) := by decide +kernel
theorem dX8_letting_105 : decode cX8_letting 105 = .ok (.getfield 50, 3) := by decide +kernel
theorem dX8_letting_108 : decode cX8_letting 108 = .ok (.ireturn, 1) := by decide +kernel
set_option maxRecDepth 20000 in
theorem ggX8_isCell_X8_in : GoodIn wsX8_isCell wsX8_in := goodIn_r _ [5] (by decide +kernel) (by decide +kernel)
set_option maxRecDepth 20000 in
theorem gX8_isCell_X8_in : GoodIn wsX8_isCell (va_wsS RX8 56 yX8_in wsX8_in) := goodIn_app (goodIn_of _ (by decide +kernel)) ggX8_isCell_X8_in
theorem dX8_isCell_0 : decode cX8_isCell 0 = .ok (.iload_n 0, 1) := by decide +kernel
theorem dX8_isCell_1 : decode cX8_isCell 1 = .ok (.i2l, 1) := by decide +kernel
theorem dX8_isCell_2 : decode cX8_isCell 2 = .ok (.lconst 0, 1) := by decide +kernel
theorem dX8_isCell_3 : decode cX8_isCell 3 = .ok (.ldc2_w 116, 3) := by decide +kernel
theorem dX8_isCell_6 : decode cX8_isCell 6 = .ok (.invokestatic 56, 3) := by decide +kernel
theorem dX8_isCell_9 : decode cX8_isCell 9 = .ok (.ireturn, 1) := by decide +kernel
set_option maxRecDepth 20000 in
theorem ggX8_isWish_X8_in : GoodIn wsX8_isWish wsX8_in := goodIn_r _ [5] (by decide +kernel) (by decide +kernel)
set_option maxRecDepth 20000 in
theorem gX8_isWish_X8_in : GoodIn wsX8_isWish (va_wsS RX8 56 yX8_in wsX8_in) := goodIn_app (goodIn_of _ (by decide +kernel)) ggX8_isWish_X8_in
theorem dX8_isWish_0 : decode cX8_isWish 0 = .ok (.iload_n 1, 1) := by decide +kernel
theorem dX8_isWish_1 : decode cX8_isWish 1 = .ok (.i2l, 1) := by decide +kernel
theorem dX8_isWish_2 : decode cX8_isWish 2 = .ok (.lconst 0, 1) := by decide +kernel
theorem dX8_isWish_3 : decode cX8_isWish 3 = .ok (.aload_n 0, 1) := by decide +kernel
theorem dX8_isWish_4 : decode cX8_isWish 4 = .ok (.getfield 50, 3) := by decide +kernel
theorem dX8_isWish_7 : decode cX8_isWish 7 = .ok (.iconst 1, 1) := by decide +kernel
theorem dX8_isWish_8 : decode cX8_isWish 8 = .ok (.isub, 1) := by decide +kernel
theorem dX8_isWish_9 : decode cX8_isWish 9 = .ok (.i2l, 1) := by decide +kernel
theorem dX8_isWish_10 : decode cX8_isWish 10 = .ok (.invokestatic 56, 3) := by decide +kernel
theorem dX8_isWish_13 : decode cX8_isWish 13 = .ok (.ireturn, 1) := by decide +kernel
theorem dX8_above_0 : decode cX8_above 0 = .ok (.iload_n 0, 1) := by decide +kernel
theorem dX8_above_1 : decode cX8_above 1 = .ok (.bipush 6, 2) := by decide +kernel
theorem dX8_above_3 : decode cX8_above 3 = .ok (.idiv, 1) := by decide +kernel
theorem dX8_above_4 : decode cX8_above 4 = .ok (.bipush 6, 2) := by decide +kernel
theorem dX8_above_6 : decode cX8_above 6 = .ok (.imul, 1) := by decide +kernel
theorem dX8_above_7 : decode cX8_above 7 = .ok (.iload_n 0, 1) := by decide +kernel
theorem dX8_above_8 : decode cX8_above 8 = .ok (.bipush 6, 2) := by decide +kernel
theorem dX8_above_10 : decode cX8_above 10 = .ok (.irem, 1) := by decide +kernel
theorem dX8_above_11 : decode cX8_above 11 = .ok (.bipush 6, 2) := by decide +kernel
theorem dX8_above_13 : decode cX8_above 13 = .ok (.iadd, 1) := by decide +kernel
theorem dX8_above_14 : decode cX8_above 14 = .ok (.iload_n 1, 1) := by decide +kernel
theorem dX8_above_15 : decode cX8_above 15 = .ok (.isub, 1) := by decide +kernel
theorem dX8_above_16 : decode cX8_above 16 = .ok (.bipush 6, 2) := by decide +kernel
theorem dX8_above_18 : decode cX8_above 18 = .ok (.irem, 1) := by decide +kernel
theorem dX8_above_19 : decode cX8_above 19 = .ok (.iadd, 1) := by decide +kernel
theorem dX8_above_20 : decode cX8_above 20 = .ok (.ireturn, 1) := by decide +kernel
set_option maxRecDepth 20000 in
theorem ggX8_isDark_X8_above : GoodIn wsX8_isDark wsX8_above := goodIn_r _ [4] (by decide +kernel) (by decide +kernel)
set_option maxRecDepth 20000 in
theorem gX8_isDark_X8_above : GoodIn wsX8_isDark (va_wsS RX8 118 yX8_above wsX8_above) := goodIn_app (goodIn_of _ (by decide +kernel)) ggX8_isDark_X8_above
theorem dX8_isDark_0 : decode cX8_isDark 0 = .ok (.iload_n 0, 1) := by decide +kernel
theorem dX8_isDark_1 : decode cX8_isDark 1 = .ok (.iload_n 1, 1) := by decide +kernel
theorem dX8_isDark_2 : decode cX8_isDark 2 = .ok (.iload_n 2, 1) := by decide +kernel
theorem dX8_isDark_3 : decode cX8_isDark 3 = .ok (.invokestatic 118, 3) := by decide +kernel
theorem dX8_isDark_6 : decode cX8_isDark 6 = .ok (.ishr, 1) := by decide +kernel
theorem dX8_isDark_7 : decode cX8_isDark 7 = .ok (.iconst 1, 1) := by decide +kernel
theorem dX8_isDark_8 : decode cX8_isDark 8 = .ok (.iand, 1) := by decide +kernel
theorem dX8_isDark_9 : decode cX8_isDark 9 = .ok (.iconst 1, 1) := by decide +kernel
theorem dX8_isDark_10 : decode cX8_isDark 10 = .ok (.if_icmp .ne 7, 3) := by decide +kernel
theorem dX8_isDark_13 : decode cX8_isDark 13 = .ok (.iconst 1, 1) := by decide +kernel
theorem dX8_isDark_14 : decode cX8_isDark 14 = .ok (.goto 4, 3) := by decide +kernel
theorem dX8_isDark_17 : decode cX8_isDark 17 = .ok (.iconst 0, 1) := by decide +kernel
theorem dX8_isDark_18 : decode cX8_isDark 18 = .ok (.ireturn, 1) := by decide +kernel
theorem dX8_hoursOf_0 : decode cX8_hoursOf 0 = .ok (.iconst 0, 1) := by decide +kernel
theorem dX8_hoursOf_1 : decode cX8_hoursOf 1 = .ok (.istore_n 2, 1) := by decide +kernel
theorem dX8_hoursOf_2 : decode cX8_hoursOf 2 = .ok (.iconst 0, 1) := by decide +kernel
theorem dX8_hoursOf_3 : decode cX8_hoursOf 3 = .ok (.istore_n 3, 1) := by decide +kernel
theorem dX8_hoursOf_4 : decode cX8_hoursOf 4 = .ok (.iload_n 3, 1) := by decide +kernel
theorem dX8_hoursOf_5 : decode cX8_hoursOf 5 = .ok (.aload_n 0, 1) := by decide +kernel
theorem dX8_hoursOf_6 : decode cX8_hoursOf 6 = .ok (.getfield 16, 3) := by decide +kernel
theorem dX8_hoursOf_9 : decode cX8_hoursOf 9 = .ok (.iconst 5, 1) := by decide +kernel
theorem dX8_hoursOf_10 : decode cX8_hoursOf 10 = .ok (.iload_n 1, 1) := by decide +kernel
theorem dX8_hoursOf_11 : decode cX8_hoursOf 11 = .ok (.imul, 1) := by decide +kernel
theorem dX8_hoursOf_12 : decode cX8_hoursOf 12 = .ok (.iconst 2, 1) := by decide +kernel
theorem dX8_hoursOf_13 : decode cX8_hoursOf 13 = .ok (.iadd, 1) := by decide +kernel
theorem dX8_hoursOf_14 : decode cX8_hoursOf 14 = .ok (.iaload, 1) := by decide +kernel
theorem dX8_hoursOf_15 : decode cX8_hoursOf 15 = .ok (.if_icmp .ge 29, 3) := by decide +kernel
theorem dX8_hoursOf_18 : decode cX8_hoursOf 18 = .ok (.iload_n 2, 1) := by decide +kernel
theorem dX8_hoursOf_19 : decode cX8_hoursOf 19 = .ok (.iconst 1, 1) := by decide +kernel
theorem dX8_hoursOf_20 : decode cX8_hoursOf 20 = .ok (.aload_n 0, 1) := by decide +kernel
theorem dX8_hoursOf_21 : decode cX8_hoursOf 21 = .ok (.getfield 16, 3) := by decide +kernel
theorem dX8_hoursOf_24 : decode cX8_hoursOf 24 = .ok (.iconst 5, 1) := by decide +kernel
theorem dX8_hoursOf_25 : decode cX8_hoursOf 25 = .ok (.iload_n 1, 1) := by decide +kernel
theorem dX8_hoursOf_26 : decode cX8_hoursOf 26 = .ok (.imul, 1) := by decide +kernel
theorem dX8_hoursOf_27 : decode cX8_hoursOf 27 = .ok (.iconst 1, 1) := by decide +kernel
theorem dX8_hoursOf_28 : decode cX8_hoursOf 28 = .ok (.iadd, 1) := by decide +kernel
theorem dX8_hoursOf_29 : decode cX8_hoursOf 29 = .ok (.iaload, 1) := by decide +kernel
theorem dX8_hoursOf_30 : decode cX8_hoursOf 30 = .ok (.iload_n 3, 1) := by decide +kernel
theorem dX8_hoursOf_31 : decode cX8_hoursOf 31 = .ok (.iadd, 1) := by decide +kernel
theorem dX8_hoursOf_32 : decode cX8_hoursOf 32 = .ok (.bipush 6, 2) := by decide +kernel
theorem dX8_hoursOf_34 : decode cX8_hoursOf 34 = .ok (.irem, 1) := by decide +kernel
theorem dX8_hoursOf_35 : decode cX8_hoursOf 35 = .ok (.ishl, 1) := by decide +kernel
theorem dX8_hoursOf_36 : decode cX8_hoursOf 36 = .ok (.ior, 1) := by decide +kernel
theorem dX8_hoursOf_37 : decode cX8_hoursOf 37 = .ok (.istore_n 2, 1) := by decide +kernel
theorem dX8_hoursOf_38 : decode cX8_hoursOf 38 = .ok (.iinc 3 1, 3) := by decide +kernel
theorem dX8_hoursOf_41 : decode cX8_hoursOf 41 = .ok (.goto (-37), 3) := by decide +kernel
theorem dX8_hoursOf_44 : decode cX8_hoursOf 44 = .ok (.iload_n 2, 1) := by decide +kernel
theorem dX8_hoursOf_45 : decode cX8_hoursOf 45 = .ok (.ireturn, 1) := by decide +kernel
set_option maxRecDepth 20000 in
theorem ggX8_darkHours_X8_isDark : GoodIn wsX8_darkHours wsX8_isDark := goodIn_r _ [4, 5, 6, 3, 7] (by decide +kernel) (by decide +kernel)
set_option maxRecDepth 20000 in
theorem gX8_darkHours_X8_isDark : GoodIn wsX8_darkHours (va_wsS RX8 122 yX8_isDark wsX8_isDark) := goodIn_app (goodIn_of _ (by decide +kernel)) ggX8_darkHours_X8_isDark
theorem dX8_darkHours_0 : decode cX8_darkHours 0 = .ok (.iconst 0, 1) := by decide +kernel
theorem dX8_darkHours_1 : decode cX8_darkHours 1 = .ok (.istore_n 2, 1) := by decide +kernel
theorem dX8_darkHours_2 : decode cX8_darkHours 2 = .ok (.iconst 0, 1) := by decide +kernel
theorem dX8_darkHours_3 : decode cX8_darkHours 3 = .ok (.istore_n 3, 1) := by decide +kernel
theorem dX8_darkHours_4 : decode cX8_darkHours 4 = .ok (.iload_n 3, 1) := by decide +kernel
theorem dX8_darkHours_5 : decode cX8_darkHours 5 = .ok (.bipush 6, 2) := by decide +kernel
theorem dX8_darkHours_7 : decode cX8_darkHours 7 = .ok (.if_icmp .ge 28, 3) := by decide +kernel
theorem dX8_darkHours_10 : decode cX8_darkHours 10 = .ok (.iload_n 2, 1) := by decide +kernel
theorem dX8_darkHours_11 : decode cX8_darkHours 11 = .ok (.iload_n 0, 1) := by decide +kernel
theorem dX8_darkHours_12 : decode cX8_darkHours 12 = .ok (.iload_n 1, 1) := by decide +kernel
theorem dX8_darkHours_13 : decode cX8_darkHours 13 = .ok (.iload_n 3, 1) := by decide +kernel
theorem dX8_darkHours_14 : decode cX8_darkHours 14 = .ok (.invokestatic 122, 3) := by decide +kernel
theorem dX8_darkHours_17 : decode cX8_darkHours 17 = .ok (.ifCond .eq 9, 3) := by decide +kernel
theorem dX8_darkHours_20 : decode cX8_darkHours 20 = .ok (.iconst 1, 1) := by decide +kernel
theorem dX8_darkHours_21 : decode cX8_darkHours 21 = .ok (.iload_n 3, 1) := by decide +kernel
theorem dX8_darkHours_22 : decode cX8_darkHours 22 = .ok (.ishl, 1) := by decide +kernel
theorem dX8_darkHours_23 : decode cX8_darkHours 23 = .ok (.goto 4, 3) := by decide +kernel
theorem dX8_darkHours_26 : decode cX8_darkHours 26 = .ok (.iconst 0, 1) := by decide +kernel
theorem dX8_darkHours_27 : decode cX8_darkHours 27 = .ok (.ior, 1) := by decide +kernel
theorem dX8_darkHours_28 : decode cX8_darkHours 28 = .ok (.istore_n 2, 1) := by decide +kernel
theorem dX8_darkHours_29 : decode cX8_darkHours 29 = .ok (.iinc 3 1, 3) := by decide +kernel
theorem dX8_darkHours_32 : decode cX8_darkHours 32 = .ok (.goto (-28), 3) := by decide +kernel
theorem dX8_darkHours_35 : decode cX8_darkHours 35 = .ok (.iload_n 2, 1) := by decide +kernel
theorem dX8_darkHours_36 : decode cX8_darkHours 36 = .ok (.ireturn, 1) := by decide +kernel
set_option maxRecDepth 20000 in
theorem ggX8_grants_X8_darkHours : GoodIn wsX8_grants wsX8_darkHours := goodIn_r _ [5, 6, 7, 4, 8, 9, 10, 11] (by decide +kernel) (by decide +kernel)
set_option maxRecDepth 20000 in
theorem gX8_grants_X8_darkHours : GoodIn wsX8_grants (va_wsS RX8 126 yX8_darkHours wsX8_darkHours) := goodIn_app (goodIn_of _ (by decide +kernel)) ggX8_grants_X8_darkHours
set_option maxRecDepth 20000 in
theorem ggX8_grants_X8_hoursOf : GoodIn wsX8_grants wsX8_hoursOf := goodIn_r _ [15, 1, 16, 17, 18, 19, 20, 21, 22, 23, 24, 25, 26, 27, 28, 29, 30, 31, 32, 33, 34, 35, 36, 37, 38, 39, 40, 41] (by decide +kernel) (by decide +kernel)
set_option maxRecDepth 20000 in
theorem gX8_grants_X8_hoursOf : GoodIn wsX8_grants (wsV RX8 129 RX8 yX8_hoursOf wsX8_hoursOf) := goodIn_app (goodIn_of _ (by decide +kernel)) ggX8_grants_X8_hoursOf
theorem dX8_grants_0 : decode cX8_grants 0 = .ok (.iload_n 1, 1) := by decide +kernel
theorem dX8_grants_1 : decode cX8_grants 1 = .ok (.aload_n 0, 1) := by decide +kernel
theorem dX8_grants_2 : decode cX8_grants 2 = .ok (.getfield 16, 3) := by decide +kernel
theorem dX8_grants_5 : decode cX8_grants 5 = .ok (.iconst 5, 1) := by decide +kernel
theorem dX8_grants_6 : decode cX8_grants 6 = .ok (.iload_n 2, 1) := by decide +kernel
theorem dX8_grants_7 : decode cX8_grants 7 = .ok (.imul, 1) := by decide +kernel
theorem dX8_grants_8 : decode cX8_grants 8 = .ok (.iaload, 1) := by decide +kernel
theorem dX8_grants_9 : decode cX8_grants 9 = .ok (.invokestatic 126, 3) := by decide +kernel
theorem dX8_grants_12 : decode cX8_grants 12 = .ok (.istore_n 3, 1) := by decide +kernel
theorem dX8_grants_13 : decode cX8_grants 13 = .ok (.aload_n 0, 1) := by decide +kernel
theorem dX8_grants_14 : decode cX8_grants 14 = .ok (.iload_n 2, 1) := by decide +kernel
theorem dX8_grants_15 : decode cX8_grants 15 = .ok (.invokevirtual 129, 3) := by decide +kernel
theorem dX8_grants_18 : decode cX8_grants 18 = .ok (.istore 4, 2) := by decide +kernel
theorem dX8_grants_20 : decode cX8_grants 20 = .ok (.aload_n 0, 1) := by decide +kernel
theorem dX8_grants_21 : decode cX8_grants 21 = .ok (.getfield 16, 3) := by decide +kernel
theorem dX8_grants_24 : decode cX8_grants 24 = .ok (.iconst 5, 1) := by decide +kernel
theorem dX8_grants_25 : decode cX8_grants 25 = .ok (.iload_n 2, 1) := by decide +kernel
theorem dX8_grants_26 : decode cX8_grants 26 = .ok (.imul, 1) := by decide +kernel
theorem dX8_grants_27 : decode cX8_grants 27 = .ok (.iconst 4, 1) := by decide +kernel
theorem dX8_grants_28 : decode cX8_grants 28 = .ok (.iadd, 1) := by decide +kernel
theorem dX8_grants_29 : decode cX8_grants 29 = .ok (.iaload, 1) := by decide +kernel
theorem dX8_grants_30 : decode cX8_grants 30 = .ok (.iconst 1, 1) := by decide +kernel
theorem dX8_grants_31 : decode cX8_grants 31 = .ok (.if_icmp .ne 20, 3) := by decide +kernel
theorem dX8_grants_34 : decode cX8_grants 34 = .ok (.iload 4, 2) := by decide +kernel
theorem dX8_grants_36 : decode cX8_grants 36 = .ok (.iload_n 3, 1) := by decide +kernel
theorem dX8_grants_37 : decode cX8_grants 37 = .ok (.iconst (-1), 1) := by decide +kernel
theorem dX8_grants_38 : decode cX8_grants 38 = .ok (.ixor, 1) := by decide +kernel
theorem dX8_grants_39 : decode cX8_grants 39 = .ok (.iand, 1) := by decide +kernel
theorem dX8_grants_40 : decode cX8_grants 40 = .ok (.ifCond .ne 7, 3) := by decide +kernel
theorem dX8_grants_43 : decode cX8_grants 43 = .ok (.iconst 1, 1) := by decide +kernel
theorem dX8_grants_44 : decode cX8_grants 44 = .ok (.goto 19, 3) := by decide +kernel
theorem dX8_grants_47 : decode cX8_grants 47 = .ok (.iconst 0, 1) := by decide +kernel
theorem dX8_grants_48 : decode cX8_grants 48 = .ok (.goto 15, 3) := by decide +kernel
theorem dX8_grants_51 : decode cX8_grants 51 = .ok (.iload 4, 2) := by decide +kernel
theorem dX8_grants_53 : decode cX8_grants 53 = .ok (.iload_n 3, 1) := by decide +kernel
theorem dX8_grants_54 : decode cX8_grants 54 = .ok (.iand, 1) := by decide +kernel
theorem dX8_grants_55 : decode cX8_grants 55 = .ok (.ifCond .ne 7, 3) := by decide +kernel
theorem dX8_grants_58 : decode cX8_grants 58 = .ok (.iconst 1, 1) := by decide +kernel
theorem dX8_grants_59 : decode cX8_grants 59 = .ok (.goto 4, 3) := by decide +kernel
theorem dX8_grants_62 : decode cX8_grants 62 = .ok (.iconst 0, 1) := by decide +kernel
theorem dX8_grants_63 : decode cX8_grants 63 = .ok (.ireturn, 1) := by decide +kernel
set_option maxRecDepth 20000 in
theorem ggX8_granted_X8_grants : GoodIn wsX8_granted wsX8_grants := goodIn_r _ [6, 7, 8, 9, 5, 10, 11, 12, 13, 14, 15, 16, 17, 18, 19, 20, 21, 22, 23, 24, 25, 26, 27, 28, 29, 30, 31, 32, 33, 34, 35, 36, 37, 38, 39, 40, 41, 42, 43, 44, 45, 46] (by decide +kernel) (by decide +kernel)
set_option maxRecDepth 20000 in
theorem gX8_granted_X8_grants : GoodIn wsX8_granted (wsV RX8 132 RX8 yX8_grants wsX8_grants) := goodIn_app (goodIn_of _ (by decide +kernel)) ggX8_granted_X8_grants
theorem dX8_granted_0 : decode cX8_granted 0 = .ok (.iconst 0, 1) := by decide +kernel
theorem dX8_granted_1 : decode cX8_granted 1 = .ok (.istore_n 2, 1) := by decide +kernel
theorem dX8_granted_2 : decode cX8_granted 2 = .ok (.iconst 0, 1) := by decide +kernel
theorem dX8_granted_3 : decode cX8_granted 3 = .ok (.istore_n 3, 1) := by decide +kernel
theorem dX8_granted_4 : decode cX8_granted 4 = .ok (.iload_n 3, 1) := by decide +kernel
theorem dX8_granted_5 : decode cX8_granted 5 = .ok (.aload_n 0, 1) := by decide +kernel
theorem dX8_granted_6 : decode cX8_granted 6 = .ok (.getfield 50, 3) := by decide +kernel
theorem dX8_granted_9 : decode cX8_granted 9 = .ok (.if_icmp .ge 28, 3) := by decide +kernel
theorem dX8_granted_12 : decode cX8_granted 12 = .ok (.iload_n 2, 1) := by decide +kernel
theorem dX8_granted_13 : decode cX8_granted 13 = .ok (.aload_n 0, 1) := by decide +kernel
theorem dX8_granted_14 : decode cX8_granted 14 = .ok (.iload_n 1, 1) := by decide +kernel
theorem dX8_granted_15 : decode cX8_granted 15 = .ok (.iload_n 3, 1) := by decide +kernel
theorem dX8_granted_16 : decode cX8_granted 16 = .ok (.invokevirtual 132, 3) := by decide +kernel
theorem dX8_granted_19 : decode cX8_granted 19 = .ok (.ifCond .eq 9, 3) := by decide +kernel
theorem dX8_granted_22 : decode cX8_granted 22 = .ok (.iconst 1, 1) := by decide +kernel
theorem dX8_granted_23 : decode cX8_granted 23 = .ok (.iload_n 3, 1) := by decide +kernel
theorem dX8_granted_24 : decode cX8_granted 24 = .ok (.ishl, 1) := by decide +kernel
theorem dX8_granted_25 : decode cX8_granted 25 = .ok (.goto 4, 3) := by decide +kernel
theorem dX8_granted_28 : decode cX8_granted 28 = .ok (.iconst 0, 1) := by decide +kernel
theorem dX8_granted_29 : decode cX8_granted 29 = .ok (.ior, 1) := by decide +kernel
theorem dX8_granted_30 : decode cX8_granted 30 = .ok (.istore_n 2, 1) := by decide +kernel
theorem dX8_granted_31 : decode cX8_granted 31 = .ok (.iinc 3 1, 3) := by decide +kernel
theorem dX8_granted_34 : decode cX8_granted 34 = .ok (.goto (-30), 3) := by decide +kernel
theorem dX8_granted_37 : decode cX8_granted 37 = .ok (.iload_n 2, 1) := by decide +kernel
theorem dX8_granted_38 : decode cX8_granted 38 = .ok (.ireturn, 1) := by decide +kernel
theorem dX8_worthOf_0 : decode cX8_worthOf 0 = .ok (.iconst 0, 1) := by decide +kernel
theorem dX8_worthOf_1 : decode cX8_worthOf 1 = .ok (.istore_n 2, 1) := by decide +kernel
theorem dX8_worthOf_2 : decode cX8_worthOf 2 = .ok (.iconst 0, 1) := by decide +kernel
theorem dX8_worthOf_3 : decode cX8_worthOf 3 = .ok (.istore_n 3, 1) := by decide +kernel
theorem dX8_worthOf_4 : decode cX8_worthOf 4 = .ok (.iload_n 3, 1) := by decide +kernel
theorem dX8_worthOf_5 : decode cX8_worthOf 5 = .ok (.aload_n 0, 1) := by decide +kernel
theorem dX8_worthOf_6 : decode cX8_worthOf 6 = .ok (.getfield 50, 3) := by decide +kernel
theorem dX8_worthOf_9 : decode cX8_worthOf 9 = .ok (.if_icmp .ge 28, 3) := by decide +kernel
theorem dX8_worthOf_12 : decode cX8_worthOf 12 = .ok (.iload_n 2, 1) := by decide +kernel
theorem dX8_worthOf_13 : decode cX8_worthOf 13 = .ok (.iload_n 1, 1) := by decide +kernel
theorem dX8_worthOf_14 : decode cX8_worthOf 14 = .ok (.iload_n 3, 1) := by decide +kernel
theorem dX8_worthOf_15 : decode cX8_worthOf 15 = .ok (.ishr, 1) := by decide +kernel
theorem dX8_worthOf_16 : decode cX8_worthOf 16 = .ok (.iconst 1, 1) := by decide +kernel
theorem dX8_worthOf_17 : decode cX8_worthOf 17 = .ok (.iand, 1) := by decide +kernel
theorem dX8_worthOf_18 : decode cX8_worthOf 18 = .ok (.aload_n 0, 1) := by decide +kernel
theorem dX8_worthOf_19 : decode cX8_worthOf 19 = .ok (.getfield 16, 3) := by decide +kernel
theorem dX8_worthOf_22 : decode cX8_worthOf 22 = .ok (.iconst 5, 1) := by decide +kernel
theorem dX8_worthOf_23 : decode cX8_worthOf 23 = .ok (.iload_n 3, 1) := by decide +kernel
theorem dX8_worthOf_24 : decode cX8_worthOf 24 = .ok (.imul, 1) := by decide +kernel
theorem dX8_worthOf_25 : decode cX8_worthOf 25 = .ok (.iconst 3, 1) := by decide +kernel
theorem dX8_worthOf_26 : decode cX8_worthOf 26 = .ok (.iadd, 1) := by decide +kernel
theorem dX8_worthOf_27 : decode cX8_worthOf 27 = .ok (.iaload, 1) := by decide +kernel
theorem dX8_worthOf_28 : decode cX8_worthOf 28 = .ok (.imul, 1) := by decide +kernel
theorem dX8_worthOf_29 : decode cX8_worthOf 29 = .ok (.iadd, 1) := by decide +kernel
theorem dX8_worthOf_30 : decode cX8_worthOf 30 = .ok (.istore_n 2, 1) := by decide +kernel
theorem dX8_worthOf_31 : decode cX8_worthOf 31 = .ok (.iinc 3 1, 3) := by decide +kernel
theorem dX8_worthOf_34 : decode cX8_worthOf 34 = .ok (.goto (-30), 3) := by decide +kernel
theorem dX8_worthOf_37 : decode cX8_worthOf 37 = .ok (.iload_n 2, 1) := by decide +kernel
theorem dX8_worthOf_38 : decode cX8_worthOf 38 = .ok (.ireturn, 1) := by decide +kernel
set_option maxRecDepth 20000 in
theorem ggX8_isLawful_X8_darkHours : GoodIn wsX8_isLawful wsX8_darkHours := goodIn_r _ [5, 6, 7, 4, 8, 9, 10, 11] (by decide +kernel) (by decide +kernel)
set_option maxRecDepth 20000 in
theorem gX8_isLawful_X8_darkHours : GoodIn wsX8_isLawful (va_wsS RX8 126 yX8_darkHours wsX8_darkHours) := goodIn_app (goodIn_of _ (by decide +kernel)) ggX8_isLawful_X8_darkHours
set_option maxRecDepth 20000 in
theorem ggX8_isLawful_X8_ones : GoodIn wsX8_isLawful wsX8_ones := goodIn_r _ [14] (by decide +kernel) (by decide +kernel)
set_option maxRecDepth 20000 in
theorem gX8_isLawful_X8_ones : GoodIn wsX8_isLawful (va_wsS RX8 91 yX8_ones wsX8_ones) := goodIn_app (goodIn_of _ (by decide +kernel)) ggX8_isLawful_X8_ones
theorem dX8_isLawful_0 : decode cX8_isLawful 0 = .ok (.iconst 1, 1) := by decide +kernel
theorem dX8_isLawful_1 : decode cX8_isLawful 1 = .ok (.istore_n 2, 1) := by decide +kernel
theorem dX8_isLawful_2 : decode cX8_isLawful 2 = .ok (.iconst 0, 1) := by decide +kernel
theorem dX8_isLawful_3 : decode cX8_isLawful 3 = .ok (.istore_n 3, 1) := by decide +kernel
theorem dX8_isLawful_4 : decode cX8_isLawful 4 = .ok (.iload_n 3, 1) := by decide +kernel
theorem dX8_isLawful_5 : decode cX8_isLawful 5 = .ok (.bipush 12, 2) := by decide +kernel
theorem dX8_isLawful_7 : decode cX8_isLawful 7 = .ok (.if_icmp .ge 39, 3) := by decide +kernel
theorem dX8_isLawful_10 : decode cX8_isLawful 10 = .ok (.iload_n 2, 1) := by decide +kernel
theorem dX8_isLawful_11 : decode cX8_isLawful 11 = .ok (.ifCond .eq 27, 3) := by decide +kernel
theorem dX8_isLawful_14 : decode cX8_isLawful 14 = .ok (.bipush 6, 2) := by decide +kernel
theorem dX8_isLawful_16 : decode cX8_isLawful 16 = .ok (.iload_n 1, 1) := by decide +kernel
theorem dX8_isLawful_17 : decode cX8_isLawful 17 = .ok (.iload_n 3, 1) := by decide +kernel
theorem dX8_isLawful_18 : decode cX8_isLawful 18 = .ok (.invokestatic 126, 3) := by decide +kernel
theorem dX8_isLawful_21 : decode cX8_isLawful 21 = .ok (.invokestatic 91, 3) := by decide +kernel
theorem dX8_isLawful_24 : decode cX8_isLawful 24 = .ok (.isub, 1) := by decide +kernel
theorem dX8_isLawful_25 : decode cX8_isLawful 25 = .ok (.aload_n 0, 1) := by decide +kernel
theorem dX8_isLawful_26 : decode cX8_isLawful 26 = .ok (.getfield 19, 3) := by decide +kernel
theorem dX8_isLawful_29 : decode cX8_isLawful 29 = .ok (.iload_n 3, 1) := by decide +kernel
theorem dX8_isLawful_30 : decode cX8_isLawful 30 = .ok (.iaload, 1) := by decide +kernel
theorem dX8_isLawful_31 : decode cX8_isLawful 31 = .ok (.if_icmp .lt 7, 3) := by decide +kernel
theorem dX8_isLawful_34 : decode cX8_isLawful 34 = .ok (.iconst 1, 1) := by decide +kernel
theorem dX8_isLawful_35 : decode cX8_isLawful 35 = .ok (.goto 4, 3) := by decide +kernel
theorem dX8_isLawful_38 : decode cX8_isLawful 38 = .ok (.iconst 0, 1) := by decide +kernel
theorem dX8_isLawful_39 : decode cX8_isLawful 39 = .ok (.istore_n 2, 1) := by decide +kernel
theorem dX8_isLawful_40 : decode cX8_isLawful 40 = .ok (.iinc 3 1, 3) := by decide +kernel
theorem dX8_isLawful_43 : decode cX8_isLawful 43 = .ok (.goto (-39), 3) := by decide +kernel
theorem dX8_isLawful_46 : decode cX8_isLawful 46 = .ok (.iload_n 2, 1) := by decide +kernel
theorem dX8_isLawful_47 : decode cX8_isLawful 47 = .ok (.ireturn, 1) := by decide +kernel
set_option maxRecDepth 20000 in
theorem ggX8_wish_X8_isWish : GoodIn wsX8_wish wsX8_isWish := goodIn_r _ [7, 8, 9, 10, 6, 11, 29, 30, 31, 32, 33, 34, 35, 36, 37, 38, 39, 40, 41, 42, 43, 44, 45, 46, 47, 48, 49, 50, 51, 52, 53, 54] (by decide +kernel) (by decide +kernel)
set_option maxRecDepth 20000 in
theorem gX8_wish_X8_isWish : GoodIn wsX8_wish (wsV RX8 136 RX8 yX8_isWish wsX8_isWish) := goodIn_app (goodIn_of _ (by decide +kernel)) ggX8_wish_X8_isWish
set_option maxRecDepth 20000 in
theorem ggX8_wish_X8_grants : GoodIn wsX8_wish wsX8_grants := goodIn_r _ [15, 1, 16, 17, 6, 18, 19, 20, 21, 22, 23, 24, 25, 26, 27, 28, 29, 30, 31, 32, 33, 34, 35, 36, 37, 38, 39, 40, 41, 42, 43, 44, 45, 46, 47, 48, 49, 50, 51, 52, 53, 54] (by decide +kernel) (by decide +kernel)
set_option maxRecDepth 20000 in
theorem gX8_wish_X8_grants : GoodIn wsX8_wish (wsV RX8 132 RX8 yX8_grants wsX8_grants) := goodIn_app (goodIn_of _ (by decide +kernel)) ggX8_wish_X8_grants
set_option maxRecDepth 20000 in
theorem ggX8_wish_X8_hoursOf : GoodIn wsX8_wish wsX8_hoursOf := goodIn_r _ [28, 1, 29, 30, 31, 32, 33, 34, 35, 36, 37, 38, 39, 40, 41, 42, 43, 44, 45, 46, 47, 48, 49, 50, 51, 52, 53, 54] (by decide +kernel) (by decide +kernel)
set_option maxRecDepth 20000 in
theorem gX8_wish_X8_hoursOf : GoodIn wsX8_wish (wsV RX8 129 RX8 yX8_hoursOf wsX8_hoursOf) := goodIn_app (goodIn_of _ (by decide +kernel)) ggX8_wish_X8_hoursOf
theorem dX8_wish_0 : decode cX8_wish 0 = .ok (.aload_n 0, 1) := by decide +kernel
theorem dX8_wish_1 : decode cX8_wish 1 = .ok (.iload_n 1, 1) := by decide +kernel
theorem dX8_wish_2 : decode cX8_wish 2 = .ok (.invokevirtual 136, 3) := by decide +kernel
theorem dX8_wish_5 : decode cX8_wish 5 = .ok (.ifCond .ne 5, 3) := by decide +kernel
theorem dX8_wish_8 : decode cX8_wish 8 = .ok (.iconst (-1), 1) := by decide +kernel
theorem dX8_wish_9 : decode cX8_wish 9 = .ok (.ireturn, 1) := by decide +kernel
theorem dX8_wish_10 : decode cX8_wish 10 = .ok (.iload_n 2, 1) := by decide +kernel
theorem dX8_wish_11 : decode cX8_wish 11 = .ok (.tableswitch 76 0 6 #[41, 41, 41, 41, 41, 52, 70], 41) := by decide +kernel
theorem dX8_wish_52 : decode cX8_wish 52 = .ok (.aload_n 0, 1) := by decide +kernel
theorem dX8_wish_53 : decode cX8_wish 53 = .ok (.getfield 16, 3) := by decide +kernel
theorem dX8_wish_56 : decode cX8_wish 56 = .ok (.iconst 5, 1) := by decide +kernel
theorem dX8_wish_57 : decode cX8_wish 57 = .ok (.iload_n 1, 1) := by decide +kernel
theorem dX8_wish_58 : decode cX8_wish 58 = .ok (.imul, 1) := by decide +kernel
theorem dX8_wish_59 : decode cX8_wish 59 = .ok (.iload_n 2, 1) := by decide +kernel
theorem dX8_wish_60 : decode cX8_wish 60 = .ok (.iadd, 1) := by decide +kernel
theorem dX8_wish_61 : decode cX8_wish 61 = .ok (.iaload, 1) := by decide +kernel
theorem dX8_wish_62 : decode cX8_wish 62 = .ok (.ireturn, 1) := by decide +kernel
theorem dX8_wish_63 : decode cX8_wish 63 = .ok (.aload_n 0, 1) := by decide +kernel
theorem dX8_wish_64 : decode cX8_wish 64 = .ok (.aload_n 0, 1) := by decide +kernel
theorem dX8_wish_65 : decode cX8_wish 65 = .ok (.getfield 107, 3) := by decide +kernel
theorem dX8_wish_68 : decode cX8_wish 68 = .ok (.iload_n 1, 1) := by decide +kernel
theorem dX8_wish_69 : decode cX8_wish 69 = .ok (.invokevirtual 132, 3) := by decide +kernel
theorem dX8_wish_72 : decode cX8_wish 72 = .ok (.ifCond .eq 7, 3) := by decide +kernel
theorem dX8_wish_75 : decode cX8_wish 75 = .ok (.iconst 1, 1) := by decide +kernel
theorem dX8_wish_76 : decode cX8_wish 76 = .ok (.goto 4, 3) := by decide +kernel
theorem dX8_wish_79 : decode cX8_wish 79 = .ok (.iconst 0, 1) := by decide +kernel
theorem dX8_wish_80 : decode cX8_wish 80 = .ok (.ireturn, 1) := by decide +kernel
theorem dX8_wish_81 : decode cX8_wish 81 = .ok (.aload_n 0, 1) := by decide +kernel
theorem dX8_wish_82 : decode cX8_wish 82 = .ok (.iload_n 1, 1) := by decide +kernel
theorem dX8_wish_83 : decode cX8_wish 83 = .ok (.invokevirtual 129, 3) := by decide +kernel
theorem dX8_wish_86 : decode cX8_wish 86 = .ok (.ireturn, 1) := by decide +kernel
theorem dX8_wish_87 : decode cX8_wish 87 = .ok (.bipush (-2), 2) := by decide +kernel
theorem dX8_wish_89 : decode cX8_wish 89 = .ok (.ireturn, 1) := by decide +kernel
set_option maxRecDepth 20000 in
theorem ggX8_place_X8_isCell : GoodIn wsX8_place wsX8_isCell := goodIn_r _ [7, 8, 9, 10, 6, 11] (by decide +kernel) (by decide +kernel)
set_option maxRecDepth 20000 in
theorem gX8_place_X8_isCell : GoodIn wsX8_place (va_wsS RX8 140 yX8_isCell wsX8_isCell) := goodIn_app (goodIn_of _ (by decide +kernel)) ggX8_place_X8_isCell
set_option maxRecDepth 20000 in
theorem ggX8_place_X8_isDark : GoodIn wsX8_place wsX8_isDark := goodIn_r _ [14, 15, 16, 6, 17] (by decide +kernel) (by decide +kernel)
set_option maxRecDepth 20000 in
theorem gX8_place_X8_isDark : GoodIn wsX8_place (va_wsS RX8 122 yX8_isDark wsX8_isDark) := goodIn_app (goodIn_of _ (by decide +kernel)) ggX8_place_X8_isDark
set_option maxRecDepth 20000 in
theorem ggX8_place_X8_darkHours : GoodIn wsX8_place wsX8_darkHours := goodIn_r _ [20, 12, 13, 6, 14, 15, 16, 17] (by decide +kernel) (by decide +kernel)
set_option maxRecDepth 20000 in
theorem gX8_place_X8_darkHours : GoodIn wsX8_place (va_wsS RX8 126 yX8_darkHours wsX8_darkHours) := goodIn_app (goodIn_of _ (by decide +kernel)) ggX8_place_X8_darkHours
set_option maxRecDepth 20000 in
theorem ggX8_place_X8_above : GoodIn wsX8_place wsX8_above := goodIn_r _ [17] (by decide +kernel) (by decide +kernel)
set_option maxRecDepth 20000 in
theorem gX8_place_X8_above : GoodIn wsX8_place (va_wsS RX8 118 yX8_above wsX8_above) := goodIn_app (goodIn_of _ (by decide +kernel)) ggX8_place_X8_above
theorem dX8_place_0 : decode cX8_place 0 = .ok (.iload_n 1, 1) := by decide +kernel
theorem dX8_place_1 : decode cX8_place 1 = .ok (.invokestatic 140, 3) := by decide +kernel
theorem dX8_place_4 : decode cX8_place 4 = .ok (.ifCond .ne 5, 3) := by decide +kernel
theorem dX8_place_7 : decode cX8_place 7 = .ok (.iconst (-1), 1) := by decide +kernel
theorem dX8_place_8 : decode cX8_place 8 = .ok (.ireturn, 1) := by decide +kernel
theorem dX8_place_9 : decode cX8_place 9 = .ok (.iload_n 2, 1) := by decide +kernel
theorem dX8_place_10 : decode cX8_place 10 = .ok (.tableswitch 76 0 3 #[30, 51, 60, 67], 30) := by decide +kernel
theorem dX8_place_40 : decode cX8_place 40 = .ok (.aload_n 0, 1) := by decide +kernel
theorem dX8_place_41 : decode cX8_place 41 = .ok (.getfield 107, 3) := by decide +kernel
theorem dX8_place_44 : decode cX8_place 44 = .ok (.iload_n 1, 1) := by decide +kernel
theorem dX8_place_45 : decode cX8_place 45 = .ok (.aload_n 0, 1) := by decide +kernel
theorem dX8_place_46 : decode cX8_place 46 = .ok (.getfield 110, 3) := by decide +kernel
theorem dX8_place_49 : decode cX8_place 49 = .ok (.invokestatic 122, 3) := by decide +kernel
theorem dX8_place_52 : decode cX8_place 52 = .ok (.ifCond .eq 7, 3) := by decide +kernel
theorem dX8_place_55 : decode cX8_place 55 = .ok (.iconst 1, 1) := by decide +kernel
theorem dX8_place_56 : decode cX8_place 56 = .ok (.goto 4, 3) := by decide +kernel
theorem dX8_place_59 : decode cX8_place 59 = .ok (.iconst 0, 1) := by decide +kernel
theorem dX8_place_60 : decode cX8_place 60 = .ok (.ireturn, 1) := by decide +kernel
theorem dX8_place_61 : decode cX8_place 61 = .ok (.aload_n 0, 1) := by decide +kernel
theorem dX8_place_62 : decode cX8_place 62 = .ok (.getfield 107, 3) := by decide +kernel
theorem dX8_place_65 : decode cX8_place 65 = .ok (.iload_n 1, 1) := by decide +kernel
theorem dX8_place_66 : decode cX8_place 66 = .ok (.invokestatic 126, 3) := by decide +kernel
theorem dX8_place_69 : decode cX8_place 69 = .ok (.ireturn, 1) := by decide +kernel
theorem dX8_place_70 : decode cX8_place 70 = .ok (.aload_n 0, 1) := by decide +kernel
theorem dX8_place_71 : decode cX8_place 71 = .ok (.getfield 19, 3) := by decide +kernel
theorem dX8_place_74 : decode cX8_place 74 = .ok (.iload_n 1, 1) := by decide +kernel
theorem dX8_place_75 : decode cX8_place 75 = .ok (.iaload, 1) := by decide +kernel
theorem dX8_place_76 : decode cX8_place 76 = .ok (.ireturn, 1) := by decide +kernel
theorem dX8_place_77 : decode cX8_place 77 = .ok (.iload_n 1, 1) := by decide +kernel
theorem dX8_place_78 : decode cX8_place 78 = .ok (.aload_n 0, 1) := by decide +kernel
theorem dX8_place_79 : decode cX8_place 79 = .ok (.getfield 110, 3) := by decide +kernel
theorem dX8_place_82 : decode cX8_place 82 = .ok (.invokestatic 118, 3) := by decide +kernel
theorem dX8_place_85 : decode cX8_place 85 = .ok (.ireturn, 1) := by decide +kernel
theorem dX8_place_86 : decode cX8_place 86 = .ok (.bipush (-2), 2) := by decide +kernel
theorem dX8_place_88 : decode cX8_place 88 = .ok (.ireturn, 1) := by decide +kernel
set_option maxRecDepth 20000 in
theorem ggX8_dark_X8_isCell : GoodIn wsX8_dark wsX8_isCell := goodIn_r _ [6, 7, 8, 9, 5, 10] (by decide +kernel) (by decide +kernel)
set_option maxRecDepth 20000 in
theorem gX8_dark_X8_isCell : GoodIn wsX8_dark (va_wsS RX8 140 yX8_isCell wsX8_isCell) := goodIn_app (goodIn_of _ (by decide +kernel)) ggX8_dark_X8_isCell
set_option maxRecDepth 20000 in
theorem ggX8_dark_X8_in : GoodIn wsX8_dark wsX8_in := goodIn_r _ [10] (by decide +kernel) (by decide +kernel)
set_option maxRecDepth 20000 in
theorem gX8_dark_X8_in : GoodIn wsX8_dark (va_wsS RX8 56 yX8_in wsX8_in) := goodIn_app (goodIn_of _ (by decide +kernel)) ggX8_dark_X8_in
set_option maxRecDepth 20000 in
theorem ggX8_dark_X8_isDark : GoodIn wsX8_dark wsX8_isDark := goodIn_r _ [13, 14, 15, 5, 16] (by decide +kernel) (by decide +kernel)
set_option maxRecDepth 20000 in
theorem gX8_dark_X8_isDark : GoodIn wsX8_dark (va_wsS RX8 122 yX8_isDark wsX8_isDark) := goodIn_app (goodIn_of _ (by decide +kernel)) ggX8_dark_X8_isDark
theorem dX8_dark_0 : decode cX8_dark 0 = .ok (.iload_n 1, 1) := by decide +kernel
theorem dX8_dark_1 : decode cX8_dark 1 = .ok (.invokestatic 140, 3) := by decide +kernel
theorem dX8_dark_4 : decode cX8_dark 4 = .ok (.ifCond .ne 5, 3) := by decide +kernel
theorem dX8_dark_7 : decode cX8_dark 7 = .ok (.iconst (-1), 1) := by decide +kernel
theorem dX8_dark_8 : decode cX8_dark 8 = .ok (.ireturn, 1) := by decide +kernel
theorem dX8_dark_9 : decode cX8_dark 9 = .ok (.iload_n 2, 1) := by decide +kernel
theorem dX8_dark_10 : decode cX8_dark 10 = .ok (.i2l, 1) := by decide +kernel
theorem dX8_dark_11 : decode cX8_dark 11 = .ok (.lconst 0, 1) := by decide +kernel
theorem dX8_dark_12 : decode cX8_dark 12 = .ok (.ldc2_w 143, 3) := by decide +kernel
theorem dX8_dark_15 : decode cX8_dark 15 = .ok (.invokestatic 56, 3) := by decide +kernel
theorem dX8_dark_18 : decode cX8_dark 18 = .ok (.ifCond .ne 8, 3) := by decide +kernel
theorem dX8_dark_21 : decode cX8_dark 21 = .ok (.bipush (-2), 2) := by decide +kernel
theorem dX8_dark_23 : decode cX8_dark 23 = .ok (.goto 20, 3) := by decide +kernel
theorem dX8_dark_26 : decode cX8_dark 26 = .ok (.aload_n 0, 1) := by decide +kernel
theorem dX8_dark_27 : decode cX8_dark 27 = .ok (.getfield 107, 3) := by decide +kernel
theorem dX8_dark_30 : decode cX8_dark 30 = .ok (.iload_n 1, 1) := by decide +kernel
theorem dX8_dark_31 : decode cX8_dark 31 = .ok (.iload_n 2, 1) := by decide +kernel
theorem dX8_dark_32 : decode cX8_dark 32 = .ok (.invokestatic 122, 3) := by decide +kernel
theorem dX8_dark_35 : decode cX8_dark 35 = .ok (.ifCond .eq 7, 3) := by decide +kernel
theorem dX8_dark_38 : decode cX8_dark 38 = .ok (.iconst 1, 1) := by decide +kernel
theorem dX8_dark_39 : decode cX8_dark 39 = .ok (.goto 4, 3) := by decide +kernel
theorem dX8_dark_42 : decode cX8_dark 42 = .ok (.iconst 0, 1) := by decide +kernel
theorem dX8_dark_43 : decode cX8_dark 43 = .ok (.ireturn, 1) := by decide +kernel
set_option maxRecDepth 20000 in
theorem ggX8_read_X8_isCell : GoodIn wsX8_read wsX8_isCell := goodIn_r _ [6, 7, 8, 9, 5, 10] (by decide +kernel) (by decide +kernel)
set_option maxRecDepth 20000 in
theorem gX8_read_X8_isCell : GoodIn wsX8_read (va_wsS RX8 140 yX8_isCell wsX8_isCell) := goodIn_app (goodIn_of _ (by decide +kernel)) ggX8_read_X8_isCell
set_option maxRecDepth 20000 in
theorem ggX8_read_X8_above : GoodIn wsX8_read wsX8_above := goodIn_r _ [13] (by decide +kernel) (by decide +kernel)
set_option maxRecDepth 20000 in
theorem gX8_read_X8_above : GoodIn wsX8_read (va_wsS RX8 118 yX8_above wsX8_above) := goodIn_app (goodIn_of _ (by decide +kernel)) ggX8_read_X8_above
theorem dX8_read_0 : decode cX8_read 0 = .ok (.iload_n 1, 1) := by decide +kernel
theorem dX8_read_1 : decode cX8_read 1 = .ok (.invokestatic 140, 3) := by decide +kernel
theorem dX8_read_4 : decode cX8_read 4 = .ok (.ifCond .ne 5, 3) := by decide +kernel
theorem dX8_read_7 : decode cX8_read 7 = .ok (.iconst (-1), 1) := by decide +kernel
theorem dX8_read_8 : decode cX8_read 8 = .ok (.ireturn, 1) := by decide +kernel
theorem dX8_read_9 : decode cX8_read 9 = .ok (.iconst 0, 1) := by decide +kernel
theorem dX8_read_10 : decode cX8_read 10 = .ok (.istore_n 2, 1) := by decide +kernel
theorem dX8_read_11 : decode cX8_read 11 = .ok (.iload_n 1, 1) := by decide +kernel
theorem dX8_read_12 : decode cX8_read 12 = .ok (.aload_n 0, 1) := by decide +kernel
theorem dX8_read_13 : decode cX8_read 13 = .ok (.getfield 110, 3) := by decide +kernel
theorem dX8_read_16 : decode cX8_read 16 = .ok (.invokestatic 118, 3) := by decide +kernel
theorem dX8_read_19 : decode cX8_read 19 = .ok (.istore_n 3, 1) := by decide +kernel
theorem dX8_read_20 : decode cX8_read 20 = .ok (.iconst 0, 1) := by decide +kernel
theorem dX8_read_21 : decode cX8_read 21 = .ok (.istore 4, 2) := by decide +kernel
theorem dX8_read_23 : decode cX8_read 23 = .ok (.iload 4, 2) := by decide +kernel
theorem dX8_read_25 : decode cX8_read 25 = .ok (.bipush 6, 2) := by decide +kernel
theorem dX8_read_27 : decode cX8_read 27 = .ok (.if_icmp .ge 39, 3) := by decide +kernel
theorem dX8_read_30 : decode cX8_read 30 = .ok (.iconst 2, 1) := by decide +kernel
theorem dX8_read_31 : decode cX8_read 31 = .ok (.iload_n 2, 1) := by decide +kernel
theorem dX8_read_32 : decode cX8_read 32 = .ok (.imul, 1) := by decide +kernel
theorem dX8_read_33 : decode cX8_read 33 = .ok (.aload_n 0, 1) := by decide +kernel
theorem dX8_read_34 : decode cX8_read 34 = .ok (.getfield 107, 3) := by decide +kernel
theorem dX8_read_37 : decode cX8_read 37 = .ok (.iload_n 3, 1) := by decide +kernel
theorem dX8_read_38 : decode cX8_read 38 = .ok (.bipush 6, 2) := by decide +kernel
theorem dX8_read_40 : decode cX8_read 40 = .ok (.idiv, 1) := by decide +kernel
theorem dX8_read_41 : decode cX8_read 41 = .ok (.bipush 6, 2) := by decide +kernel
theorem dX8_read_43 : decode cX8_read 43 = .ok (.imul, 1) := by decide +kernel
theorem dX8_read_44 : decode cX8_read 44 = .ok (.iload_n 3, 1) := by decide +kernel
theorem dX8_read_45 : decode cX8_read 45 = .ok (.bipush 6, 2) := by decide +kernel
theorem dX8_read_47 : decode cX8_read 47 = .ok (.irem, 1) := by decide +kernel
theorem dX8_read_48 : decode cX8_read 48 = .ok (.iload 4, 2) := by decide +kernel
theorem dX8_read_50 : decode cX8_read 50 = .ok (.iadd, 1) := by decide +kernel
theorem dX8_read_51 : decode cX8_read 51 = .ok (.bipush 6, 2) := by decide +kernel
theorem dX8_read_53 : decode cX8_read 53 = .ok (.irem, 1) := by decide +kernel
theorem dX8_read_54 : decode cX8_read 54 = .ok (.iadd, 1) := by decide +kernel
theorem dX8_read_55 : decode cX8_read 55 = .ok (.ishr, 1) := by decide +kernel
theorem dX8_read_56 : decode cX8_read 56 = .ok (.iconst 1, 1) := by decide +kernel
theorem dX8_read_57 : decode cX8_read 57 = .ok (.iand, 1) := by decide +kernel
theorem dX8_read_58 : decode cX8_read 58 = .ok (.iadd, 1) := by decide +kernel
theorem dX8_read_59 : decode cX8_read 59 = .ok (.istore_n 2, 1) := by decide +kernel
theorem dX8_read_60 : decode cX8_read 60 = .ok (.iinc 4 1, 3) := by decide +kernel
theorem dX8_read_63 : decode cX8_read 63 = .ok (.goto (-40), 3) := by decide +kernel
theorem dX8_read_66 : decode cX8_read 66 = .ok (.iload_n 2, 1) := by decide +kernel
theorem dX8_read_67 : decode cX8_read 67 = .ok (.ireturn, 1) := by decide +kernel
theorem dX8_keepAct_0 : decode cX8_keepAct 0 = .ok (.aload_n 0, 1) := by decide +kernel
theorem dX8_keepAct_1 : decode cX8_keepAct 1 = .ok (.getfield 25, 3) := by decide +kernel
theorem dX8_keepAct_4 : decode cX8_keepAct 4 = .ok (.aload_n 0, 1) := by decide +kernel
theorem dX8_keepAct_5 : decode cX8_keepAct 5 = .ok (.getfield 145, 3) := by decide +kernel
theorem dX8_keepAct_8 : decode cX8_keepAct 8 = .ok (.aload_n 0, 1) := by decide +kernel
theorem dX8_keepAct_9 : decode cX8_keepAct 9 = .ok (.getfield 107, 3) := by decide +kernel
theorem dX8_keepAct_12 : decode cX8_keepAct 12 = .ok (.sipush 4096, 3) := by decide +kernel
theorem dX8_keepAct_15 : decode cX8_keepAct 15 = .ok (.aload_n 0, 1) := by decide +kernel
theorem dX8_keepAct_16 : decode cX8_keepAct 16 = .ok (.getfield 110, 3) := by decide +kernel
theorem dX8_keepAct_19 : decode cX8_keepAct 19 = .ok (.imul, 1) := by decide +kernel
theorem dX8_keepAct_20 : decode cX8_keepAct 20 = .ok (.iadd, 1) := by decide +kernel
theorem dX8_keepAct_21 : decode cX8_keepAct 21 = .ok (.iastore, 1) := by decide +kernel
theorem dX8_keepAct_22 : decode cX8_keepAct 22 = .ok (.aload_n 0, 1) := by decide +kernel
theorem dX8_keepAct_23 : decode cX8_keepAct 23 = .ok (.aload_n 0, 1) := by decide +kernel
theorem dX8_keepAct_24 : decode cX8_keepAct 24 = .ok (.getfield 145, 3) := by decide +kernel
theorem dX8_keepAct_27 : decode cX8_keepAct 27 = .ok (.iconst 1, 1) := by decide +kernel
theorem dX8_keepAct_28 : decode cX8_keepAct 28 = .ok (.iadd, 1) := by decide +kernel
theorem dX8_keepAct_29 : decode cX8_keepAct 29 = .ok (.bipush 16, 2) := by decide +kernel
theorem dX8_keepAct_31 : decode cX8_keepAct 31 = .ok (.irem, 1) := by decide +kernel
theorem dX8_keepAct_32 : decode cX8_keepAct 32 = .ok (.putfield 145, 3) := by decide +kernel
theorem dX8_keepAct_35 : decode cX8_keepAct 35 = .ok (.aload_n 0, 1) := by decide +kernel
theorem dX8_keepAct_36 : decode cX8_keepAct 36 = .ok (.aload_n 0, 1) := by decide +kernel
theorem dX8_keepAct_37 : decode cX8_keepAct 37 = .ok (.getfield 113, 3) := by decide +kernel
theorem dX8_keepAct_40 : decode cX8_keepAct 40 = .ok (.bipush 16, 2) := by decide +kernel
theorem dX8_keepAct_42 : decode cX8_keepAct 42 = .ok (.if_icmp .ge 12, 3) := by decide +kernel
theorem dX8_keepAct_45 : decode cX8_keepAct 45 = .ok (.aload_n 0, 1) := by decide +kernel
theorem dX8_keepAct_46 : decode cX8_keepAct 46 = .ok (.getfield 113, 3) := by decide +kernel
theorem dX8_keepAct_49 : decode cX8_keepAct 49 = .ok (.iconst 1, 1) := by decide +kernel
theorem dX8_keepAct_50 : decode cX8_keepAct 50 = .ok (.iadd, 1) := by decide +kernel
theorem dX8_keepAct_51 : decode cX8_keepAct 51 = .ok (.goto 5, 3) := by decide +kernel
theorem dX8_keepAct_54 : decode cX8_keepAct 54 = .ok (.bipush 16, 2) := by decide +kernel
theorem dX8_keepAct_56 : decode cX8_keepAct 56 = .ok (.putfield 113, 3) := by decide +kernel
theorem dX8_keepAct_59 : decode cX8_keepAct 59 = .ok (.return_, 1) := by decide +kernel
theorem dX8_has_0 : decode cX8_has 0 = .ok (.iload_n 0, 1) := by decide +kernel
theorem dX8_has_1 : decode cX8_has 1 = .ok (.iload_n 1, 1) := by decide +kernel
theorem dX8_has_2 : decode cX8_has 2 = .ok (.ishr, 1) := by decide +kernel
theorem dX8_has_3 : decode cX8_has 3 = .ok (.iconst 1, 1) := by decide +kernel
theorem dX8_has_4 : decode cX8_has 4 = .ok (.iand, 1) := by decide +kernel
theorem dX8_has_5 : decode cX8_has 5 = .ok (.iconst 1, 1) := by decide +kernel
theorem dX8_has_6 : decode cX8_has 6 = .ok (.if_icmp .ne 7, 3) := by decide +kernel
theorem dX8_has_9 : decode cX8_has 9 = .ok (.iconst 1, 1) := by decide +kernel
theorem dX8_has_10 : decode cX8_has 10 = .ok (.goto 4, 3) := by decide +kernel
theorem dX8_has_13 : decode cX8_has 13 = .ok (.iconst 0, 1) := by decide +kernel
theorem dX8_has_14 : decode cX8_has 14 = .ok (.ireturn, 1) := by decide +kernel
set_option maxRecDepth 20000 in
theorem ggX8_hang_X8_isCell : GoodIn wsX8_hang wsX8_isCell := goodIn_r _ [5, 6, 7, 8, 4, 9] (by decide +kernel) (by decide +kernel)
set_option maxRecDepth 20000 in
theorem gX8_hang_X8_isCell : GoodIn wsX8_hang (va_wsS RX8 140 yX8_isCell wsX8_isCell) := goodIn_app (goodIn_of _ (by decide +kernel)) ggX8_hang_X8_isCell
set_option maxRecDepth 20000 in
theorem ggX8_hang_X8_has : GoodIn wsX8_hang wsX8_has := goodIn_r _ [12] (by decide +kernel) (by decide +kernel)
set_option maxRecDepth 20000 in
theorem gX8_hang_X8_has : GoodIn wsX8_hang (va_wsS RX8 148 yX8_has wsX8_has) := goodIn_app (goodIn_of _ (by decide +kernel)) ggX8_hang_X8_has
set_option maxRecDepth 20000 in
theorem ggX8_hang_X8_ones : GoodIn wsX8_hang wsX8_ones := goodIn_r _ [15] (by decide +kernel) (by decide +kernel)
set_option maxRecDepth 20000 in
theorem gX8_hang_X8_ones : GoodIn wsX8_hang (va_wsS RX8 91 yX8_ones wsX8_ones) := goodIn_app (goodIn_of _ (by decide +kernel)) ggX8_hang_X8_ones
set_option maxRecDepth 20000 in
theorem ggX8_hang_X8_keepAct : GoodIn wsX8_hang wsX8_keepAct := goodIn_r _ [19, 20, 21, 1, 22, 23, 24, 25, 26, 27, 28, 29, 30, 31, 32, 33, 34, 35, 36, 37, 38, 39, 40, 41, 42, 43, 44, 45, 46, 47, 48, 49] (by decide +kernel) (by decide +kernel)
set_option maxRecDepth 20000 in
theorem gX8_hang_X8_keepAct : GoodIn wsX8_hang (wsV RX8 151 RX8 yX8_keepAct wsX8_keepAct) := goodIn_app (goodIn_of _ (by decide +kernel)) ggX8_hang_X8_keepAct
theorem dX8_hang_0 : decode cX8_hang 0 = .ok (.iload_n 1, 1) := by decide +kernel
theorem dX8_hang_1 : decode cX8_hang 1 = .ok (.invokestatic 140, 3) := by decide +kernel
theorem dX8_hang_4 : decode cX8_hang 4 = .ok (.ifCond .ne 5, 3) := by decide +kernel
theorem dX8_hang_7 : decode cX8_hang 7 = .ok (.iconst (-1), 1) := by decide +kernel
theorem dX8_hang_8 : decode cX8_hang 8 = .ok (.ireturn, 1) := by decide +kernel
theorem dX8_hang_9 : decode cX8_hang 9 = .ok (.aload_n 0, 1) := by decide +kernel
theorem dX8_hang_10 : decode cX8_hang 10 = .ok (.getfield 107, 3) := by decide +kernel
theorem dX8_hang_13 : decode cX8_hang 13 = .ok (.iload_n 1, 1) := by decide +kernel
theorem dX8_hang_14 : decode cX8_hang 14 = .ok (.invokestatic 148, 3) := by decide +kernel
theorem dX8_hang_17 : decode cX8_hang 17 = .ok (.ifCond .eq 6, 3) := by decide +kernel
theorem dX8_hang_20 : decode cX8_hang 20 = .ok (.bipush (-3), 2) := by decide +kernel
theorem dX8_hang_22 : decode cX8_hang 22 = .ok (.ireturn, 1) := by decide +kernel
theorem dX8_hang_23 : decode cX8_hang 23 = .ok (.aload_n 0, 1) := by decide +kernel
theorem dX8_hang_24 : decode cX8_hang 24 = .ok (.getfield 107, 3) := by decide +kernel
theorem dX8_hang_27 : decode cX8_hang 27 = .ok (.invokestatic 91, 3) := by decide +kernel
theorem dX8_hang_30 : decode cX8_hang 30 = .ok (.iconst 5, 1) := by decide +kernel
theorem dX8_hang_31 : decode cX8_hang 31 = .ok (.if_icmp .ne 6, 3) := by decide +kernel
theorem dX8_hang_34 : decode cX8_hang 34 = .ok (.bipush (-4), 2) := by decide +kernel
theorem dX8_hang_36 : decode cX8_hang 36 = .ok (.ireturn, 1) := by decide +kernel
theorem dX8_hang_37 : decode cX8_hang 37 = .ok (.aload_n 0, 1) := by decide +kernel
theorem dX8_hang_38 : decode cX8_hang 38 = .ok (.invokevirtual 151, 3) := by decide +kernel
theorem dX8_hang_41 : decode cX8_hang 41 = .ok (.aload_n 0, 1) := by decide +kernel
theorem dX8_hang_42 : decode cX8_hang 42 = .ok (.dup, 1) := by decide +kernel
theorem dX8_hang_43 : decode cX8_hang 43 = .ok (.getfield 107, 3) := by decide +kernel
theorem dX8_hang_46 : decode cX8_hang 46 = .ok (.iconst 1, 1) := by decide +kernel
theorem dX8_hang_47 : decode cX8_hang 47 = .ok (.iload_n 1, 1) := by decide +kernel
theorem dX8_hang_48 : decode cX8_hang 48 = .ok (.ishl, 1) := by decide +kernel
theorem dX8_hang_49 : decode cX8_hang 49 = .ok (.ior, 1) := by decide +kernel
theorem dX8_hang_50 : decode cX8_hang 50 = .ok (.putfield 107, 3) := by decide +kernel
theorem dX8_hang_53 : decode cX8_hang 53 = .ok (.aload_n 0, 1) := by decide +kernel
theorem dX8_hang_54 : decode cX8_hang 54 = .ok (.getfield 107, 3) := by decide +kernel
theorem dX8_hang_57 : decode cX8_hang 57 = .ok (.invokestatic 91, 3) := by decide +kernel
theorem dX8_hang_60 : decode cX8_hang 60 = .ok (.ireturn, 1) := by decide +kernel
set_option maxRecDepth 20000 in
theorem ggX8_take_X8_isCell : GoodIn wsX8_take wsX8_isCell := goodIn_r _ [5, 6, 7, 8, 4, 9] (by decide +kernel) (by decide +kernel)
set_option maxRecDepth 20000 in
theorem gX8_take_X8_isCell : GoodIn wsX8_take (va_wsS RX8 140 yX8_isCell wsX8_isCell) := goodIn_app (goodIn_of _ (by decide +kernel)) ggX8_take_X8_isCell
set_option maxRecDepth 20000 in
theorem ggX8_take_X8_has : GoodIn wsX8_take wsX8_has := goodIn_r _ [12] (by decide +kernel) (by decide +kernel)
set_option maxRecDepth 20000 in
theorem gX8_take_X8_has : GoodIn wsX8_take (va_wsS RX8 148 yX8_has wsX8_has) := goodIn_app (goodIn_of _ (by decide +kernel)) ggX8_take_X8_has
set_option maxRecDepth 20000 in
theorem ggX8_take_X8_keepAct : GoodIn wsX8_take wsX8_keepAct := goodIn_r _ [16, 17, 18, 1, 19, 20, 24, 25, 26, 27, 28, 29, 30, 31, 32, 33, 34, 35, 36, 37, 38, 39, 40, 41, 42, 43, 44, 45, 46, 47, 48, 49] (by decide +kernel) (by decide +kernel)
set_option maxRecDepth 20000 in
theorem gX8_take_X8_keepAct : GoodIn wsX8_take (wsV RX8 151 RX8 yX8_keepAct wsX8_keepAct) := goodIn_app (goodIn_of _ (by decide +kernel)) ggX8_take_X8_keepAct
set_option maxRecDepth 20000 in
theorem ggX8_take_X8_ones : GoodIn wsX8_take wsX8_ones := goodIn_r _ [23] (by decide +kernel) (by decide +kernel)
set_option maxRecDepth 20000 in
theorem gX8_take_X8_ones : GoodIn wsX8_take (va_wsS RX8 91 yX8_ones wsX8_ones) := goodIn_app (goodIn_of _ (by decide +kernel)) ggX8_take_X8_ones
theorem dX8_take_0 : decode cX8_take 0 = .ok (.iload_n 1, 1) := by decide +kernel
theorem dX8_take_1 : decode cX8_take 1 = .ok (.invokestatic 140, 3) := by decide +kernel
theorem dX8_take_4 : decode cX8_take 4 = .ok (.ifCond .ne 5, 3) := by decide +kernel
theorem dX8_take_7 : decode cX8_take 7 = .ok (.iconst (-1), 1) := by decide +kernel
theorem dX8_take_8 : decode cX8_take 8 = .ok (.ireturn, 1) := by decide +kernel
theorem dX8_take_9 : decode cX8_take 9 = .ok (.aload_n 0, 1) := by decide +kernel
theorem dX8_take_10 : decode cX8_take 10 = .ok (.getfield 107, 3) := by decide +kernel
theorem dX8_take_13 : decode cX8_take 13 = .ok (.iload_n 1, 1) := by decide +kernel
theorem dX8_take_14 : decode cX8_take 14 = .ok (.invokestatic 148, 3) := by decide +kernel
theorem dX8_take_17 : decode cX8_take 17 = .ok (.ifCond .ne 6, 3) := by decide +kernel
theorem dX8_take_20 : decode cX8_take 20 = .ok (.bipush (-3), 2) := by decide +kernel
theorem dX8_take_22 : decode cX8_take 22 = .ok (.ireturn, 1) := by decide +kernel
theorem dX8_take_23 : decode cX8_take 23 = .ok (.aload_n 0, 1) := by decide +kernel
theorem dX8_take_24 : decode cX8_take 24 = .ok (.invokevirtual 151, 3) := by decide +kernel
theorem dX8_take_27 : decode cX8_take 27 = .ok (.aload_n 0, 1) := by decide +kernel
theorem dX8_take_28 : decode cX8_take 28 = .ok (.dup, 1) := by decide +kernel
theorem dX8_take_29 : decode cX8_take 29 = .ok (.getfield 107, 3) := by decide +kernel
theorem dX8_take_32 : decode cX8_take 32 = .ok (.iconst 1, 1) := by decide +kernel
theorem dX8_take_33 : decode cX8_take 33 = .ok (.iload_n 1, 1) := by decide +kernel
theorem dX8_take_34 : decode cX8_take 34 = .ok (.ishl, 1) := by decide +kernel
theorem dX8_take_35 : decode cX8_take 35 = .ok (.iconst (-1), 1) := by decide +kernel
theorem dX8_take_36 : decode cX8_take 36 = .ok (.ixor, 1) := by decide +kernel
theorem dX8_take_37 : decode cX8_take 37 = .ok (.iand, 1) := by decide +kernel
theorem dX8_take_38 : decode cX8_take 38 = .ok (.putfield 107, 3) := by decide +kernel
theorem dX8_take_41 : decode cX8_take 41 = .ok (.aload_n 0, 1) := by decide +kernel
theorem dX8_take_42 : decode cX8_take 42 = .ok (.getfield 107, 3) := by decide +kernel
theorem dX8_take_45 : decode cX8_take 45 = .ok (.invokestatic 91, 3) := by decide +kernel
theorem dX8_take_48 : decode cX8_take 48 = .ok (.ireturn, 1) := by decide +kernel
theorem dX8_moved_0 : decode cX8_moved 0 = .ok (.iload_n 1, 1) := by decide +kernel
theorem dX8_moved_1 : decode cX8_moved 1 = .ok (.ifCond .ne 13, 3) := by decide +kernel
theorem dX8_moved_4 : decode cX8_moved 4 = .ok (.iload_n 0, 1) := by decide +kernel
theorem dX8_moved_5 : decode cX8_moved 5 = .ok (.bipush 6, 2) := by decide +kernel
theorem dX8_moved_7 : decode cX8_moved 7 = .ok (.iadd, 1) := by decide +kernel
theorem dX8_moved_8 : decode cX8_moved 8 = .ok (.bipush 12, 2) := by decide +kernel
theorem dX8_moved_10 : decode cX8_moved 10 = .ok (.irem, 1) := by decide +kernel
theorem dX8_moved_11 : decode cX8_moved 11 = .ok (.goto 23, 3) := by decide +kernel
theorem dX8_moved_14 : decode cX8_moved 14 = .ok (.iload_n 0, 1) := by decide +kernel
theorem dX8_moved_15 : decode cX8_moved 15 = .ok (.bipush 6, 2) := by decide +kernel
theorem dX8_moved_17 : decode cX8_moved 17 = .ok (.idiv, 1) := by decide +kernel
theorem dX8_moved_18 : decode cX8_moved 18 = .ok (.bipush 6, 2) := by decide +kernel
theorem dX8_moved_20 : decode cX8_moved 20 = .ok (.imul, 1) := by decide +kernel
theorem dX8_moved_21 : decode cX8_moved 21 = .ok (.iload_n 0, 1) := by decide +kernel
theorem dX8_moved_22 : decode cX8_moved 22 = .ok (.bipush 6, 2) := by decide +kernel
theorem dX8_moved_24 : decode cX8_moved 24 = .ok (.irem, 1) := by decide +kernel
theorem dX8_moved_25 : decode cX8_moved 25 = .ok (.bipush 6, 2) := by decide +kernel
theorem dX8_moved_27 : decode cX8_moved 27 = .ok (.iadd, 1) := by decide +kernel
theorem dX8_moved_28 : decode cX8_moved 28 = .ok (.iload_n 1, 1) := by decide +kernel
theorem dX8_moved_29 : decode cX8_moved 29 = .ok (.iadd, 1) := by decide +kernel
theorem dX8_moved_30 : decode cX8_moved 30 = .ok (.bipush 6, 2) := by decide +kernel
theorem dX8_moved_32 : decode cX8_moved 32 = .ok (.irem, 1) := by decide +kernel
theorem dX8_moved_33 : decode cX8_moved 33 = .ok (.iadd, 1) := by decide +kernel
theorem dX8_moved_34 : decode cX8_moved 34 = .ok (.ireturn, 1) := by decide +kernel
set_option maxRecDepth 20000 in
theorem ggX8_canMove_X8_has : GoodIn wsX8_canMove wsX8_has := goodIn_r _ [4] (by decide +kernel) (by decide +kernel)
set_option maxRecDepth 20000 in
theorem gX8_canMove_X8_has : GoodIn wsX8_canMove (va_wsS RX8 148 yX8_has wsX8_has) := goodIn_app (goodIn_of _ (by decide +kernel)) ggX8_canMove_X8_has
set_option maxRecDepth 20000 in
theorem ggX8_canMove_X8_moved : GoodIn wsX8_canMove wsX8_moved := goodIn_r _ [7] (by decide +kernel) (by decide +kernel)
set_option maxRecDepth 20000 in
theorem gX8_canMove_X8_moved : GoodIn wsX8_canMove (va_wsS RX8 154 yX8_moved wsX8_moved) := goodIn_app (goodIn_of _ (by decide +kernel)) ggX8_canMove_X8_moved
theorem dX8_canMove_0 : decode cX8_canMove 0 = .ok (.iload_n 0, 1) := by decide +kernel
theorem dX8_canMove_1 : decode cX8_canMove 1 = .ok (.iload_n 1, 1) := by decide +kernel
theorem dX8_canMove_2 : decode cX8_canMove 2 = .ok (.invokestatic 148, 3) := by decide +kernel
theorem dX8_canMove_5 : decode cX8_canMove 5 = .ok (.ifCond .eq 19, 3) := by decide +kernel
theorem dX8_canMove_8 : decode cX8_canMove 8 = .ok (.iload_n 0, 1) := by decide +kernel
theorem dX8_canMove_9 : decode cX8_canMove 9 = .ok (.iload_n 1, 1) := by decide +kernel
theorem dX8_canMove_10 : decode cX8_canMove 10 = .ok (.iload_n 2, 1) := by decide +kernel
theorem dX8_canMove_11 : decode cX8_canMove 11 = .ok (.invokestatic 154, 3) := by decide +kernel
theorem dX8_canMove_14 : decode cX8_canMove 14 = .ok (.invokestatic 148, 3) := by decide +kernel
theorem dX8_canMove_17 : decode cX8_canMove 17 = .ok (.ifCond .ne 7, 3) := by decide +kernel
theorem dX8_canMove_20 : decode cX8_canMove 20 = .ok (.iconst 1, 1) := by decide +kernel
theorem dX8_canMove_21 : decode cX8_canMove 21 = .ok (.goto 4, 3) := by decide +kernel
theorem dX8_canMove_24 : decode cX8_canMove 24 = .ok (.iconst 0, 1) := by decide +kernel
theorem dX8_canMove_25 : decode cX8_canMove 25 = .ok (.ireturn, 1) := by decide +kernel
set_option maxRecDepth 20000 in
theorem ggX8_movedHanging_X8_moved : GoodIn wsX8_movedHanging wsX8_moved := goodIn_r _ [4] (by decide +kernel) (by decide +kernel)
set_option maxRecDepth 20000 in
theorem gX8_movedHanging_X8_moved : GoodIn wsX8_movedHanging (va_wsS RX8 154 yX8_moved wsX8_moved) := goodIn_app (goodIn_of _ (by decide +kernel)) ggX8_movedHanging_X8_moved
theorem dX8_movedHanging_0 : decode cX8_movedHanging 0 = .ok (.iload_n 0, 1) := by decide +kernel
theorem dX8_movedHanging_1 : decode cX8_movedHanging 1 = .ok (.iconst 1, 1) := by decide +kernel
theorem dX8_movedHanging_2 : decode cX8_movedHanging 2 = .ok (.iload_n 1, 1) := by decide +kernel
theorem dX8_movedHanging_3 : decode cX8_movedHanging 3 = .ok (.ishl, 1) := by decide +kernel
theorem dX8_movedHanging_4 : decode cX8_movedHanging 4 = .ok (.iconst (-1), 1) := by decide +kernel
theorem dX8_movedHanging_5 : decode cX8_movedHanging 5 = .ok (.ixor, 1) := by decide +kernel
theorem dX8_movedHanging_6 : decode cX8_movedHanging 6 = .ok (.iand, 1) := by decide +kernel
theorem dX8_movedHanging_7 : decode cX8_movedHanging 7 = .ok (.iconst 1, 1) := by decide +kernel
theorem dX8_movedHanging_8 : decode cX8_movedHanging 8 = .ok (.iload_n 1, 1) := by decide +kernel
theorem dX8_movedHanging_9 : decode cX8_movedHanging 9 = .ok (.iload_n 2, 1) := by decide +kernel
theorem dX8_movedHanging_10 : decode cX8_movedHanging 10 = .ok (.invokestatic 154, 3) := by decide +kernel
theorem dX8_movedHanging_13 : decode cX8_movedHanging 13 = .ok (.ishl, 1) := by decide +kernel
theorem dX8_movedHanging_14 : decode cX8_movedHanging 14 = .ok (.ior, 1) := by decide +kernel
theorem dX8_movedHanging_15 : decode cX8_movedHanging 15 = .ok (.ireturn, 1) := by decide +kernel
set_option maxRecDepth 20000 in
theorem ggX8_move_X8_isCell : GoodIn wsX8_move wsX8_isCell := goodIn_r _ [6, 7, 8, 9, 5, 10] (by decide +kernel) (by decide +kernel)
set_option maxRecDepth 20000 in
theorem gX8_move_X8_isCell : GoodIn wsX8_move (va_wsS RX8 140 yX8_isCell wsX8_isCell) := goodIn_app (goodIn_of _ (by decide +kernel)) ggX8_move_X8_isCell
set_option maxRecDepth 20000 in
theorem ggX8_move_X8_in : GoodIn wsX8_move wsX8_in := goodIn_r _ [10] (by decide +kernel) (by decide +kernel)
set_option maxRecDepth 20000 in
theorem gX8_move_X8_in : GoodIn wsX8_move (va_wsS RX8 56 yX8_in wsX8_in) := goodIn_app (goodIn_of _ (by decide +kernel)) ggX8_move_X8_in
set_option maxRecDepth 20000 in
theorem ggX8_move_X8_canMove : GoodIn wsX8_move wsX8_canMove := goodIn_r _ [13, 14, 15, 5, 16, 17, 18, 19] (by decide +kernel) (by decide +kernel)
set_option maxRecDepth 20000 in
theorem gX8_move_X8_canMove : GoodIn wsX8_move (va_wsS RX8 159 yX8_canMove wsX8_canMove) := goodIn_app (goodIn_of _ (by decide +kernel)) ggX8_move_X8_canMove
set_option maxRecDepth 20000 in
theorem ggX8_move_X8_keepAct : GoodIn wsX8_move wsX8_keepAct := goodIn_r _ [23, 24, 25, 2, 26, 27, 31, 32, 33, 34, 35, 36, 37, 38, 39, 40, 41, 42, 43, 44, 45, 46, 47, 48, 49, 50, 51, 52, 53, 54, 55, 56] (by decide +kernel) (by decide +kernel)
set_option maxRecDepth 20000 in
theorem gX8_move_X8_keepAct : GoodIn wsX8_move (wsV RX8 151 RX8 yX8_keepAct wsX8_keepAct) := goodIn_app (goodIn_of _ (by decide +kernel)) ggX8_move_X8_keepAct
set_option maxRecDepth 20000 in
theorem ggX8_move_X8_movedHanging : GoodIn wsX8_move wsX8_movedHanging := goodIn_r _ [30, 17, 18, 5, 19] (by decide +kernel) (by decide +kernel)
set_option maxRecDepth 20000 in
theorem gX8_move_X8_movedHanging : GoodIn wsX8_move (va_wsS RX8 162 yX8_movedHanging wsX8_movedHanging) := goodIn_app (goodIn_of _ (by decide +kernel)) ggX8_move_X8_movedHanging
set_option maxRecDepth 20000 in
theorem ggX8_move_X8_moved : GoodIn wsX8_move wsX8_moved := goodIn_r _ [19] (by decide +kernel) (by decide +kernel)
set_option maxRecDepth 20000 in
theorem gX8_move_X8_moved : GoodIn wsX8_move (va_wsS RX8 154 yX8_moved wsX8_moved) := goodIn_app (goodIn_of _ (by decide +kernel)) ggX8_move_X8_moved
theorem dX8_move_0 : decode cX8_move 0 = .ok (.iload_n 1, 1) := by decide +kernel
theorem dX8_move_1 : decode cX8_move 1 = .ok (.invokestatic 140, 3) := by decide +kernel
theorem dX8_move_4 : decode cX8_move 4 = .ok (.ifCond .ne 5, 3) := by decide +kernel
theorem dX8_move_7 : decode cX8_move 7 = .ok (.iconst (-1), 1) := by decide +kernel
theorem dX8_move_8 : decode cX8_move 8 = .ok (.ireturn, 1) := by decide +kernel
theorem dX8_move_9 : decode cX8_move 9 = .ok (.iload_n 2, 1) := by decide +kernel
theorem dX8_move_10 : decode cX8_move 10 = .ok (.i2l, 1) := by decide +kernel
theorem dX8_move_11 : decode cX8_move 11 = .ok (.ldc2_w 157, 3) := by decide +kernel
theorem dX8_move_14 : decode cX8_move 14 = .ok (.lconst 1, 1) := by decide +kernel
theorem dX8_move_15 : decode cX8_move 15 = .ok (.invokestatic 56, 3) := by decide +kernel
theorem dX8_move_18 : decode cX8_move 18 = .ok (.ifCond .ne 6, 3) := by decide +kernel
theorem dX8_move_21 : decode cX8_move 21 = .ok (.bipush (-2), 2) := by decide +kernel
theorem dX8_move_23 : decode cX8_move 23 = .ok (.ireturn, 1) := by decide +kernel
theorem dX8_move_24 : decode cX8_move 24 = .ok (.aload_n 0, 1) := by decide +kernel
theorem dX8_move_25 : decode cX8_move 25 = .ok (.getfield 107, 3) := by decide +kernel
theorem dX8_move_28 : decode cX8_move 28 = .ok (.iload_n 1, 1) := by decide +kernel
theorem dX8_move_29 : decode cX8_move 29 = .ok (.iload_n 2, 1) := by decide +kernel
theorem dX8_move_30 : decode cX8_move 30 = .ok (.invokestatic 159, 3) := by decide +kernel
theorem dX8_move_33 : decode cX8_move 33 = .ok (.ifCond .ne 6, 3) := by decide +kernel
theorem dX8_move_36 : decode cX8_move 36 = .ok (.bipush (-3), 2) := by decide +kernel
theorem dX8_move_38 : decode cX8_move 38 = .ok (.ireturn, 1) := by decide +kernel
theorem dX8_move_39 : decode cX8_move 39 = .ok (.aload_n 0, 1) := by decide +kernel
theorem dX8_move_40 : decode cX8_move 40 = .ok (.invokevirtual 151, 3) := by decide +kernel
theorem dX8_move_43 : decode cX8_move 43 = .ok (.aload_n 0, 1) := by decide +kernel
theorem dX8_move_44 : decode cX8_move 44 = .ok (.aload_n 0, 1) := by decide +kernel
theorem dX8_move_45 : decode cX8_move 45 = .ok (.getfield 107, 3) := by decide +kernel
theorem dX8_move_48 : decode cX8_move 48 = .ok (.iload_n 1, 1) := by decide +kernel
theorem dX8_move_49 : decode cX8_move 49 = .ok (.iload_n 2, 1) := by decide +kernel
theorem dX8_move_50 : decode cX8_move 50 = .ok (.invokestatic 162, 3) := by decide +kernel
theorem dX8_move_53 : decode cX8_move 53 = .ok (.putfield 107, 3) := by decide +kernel
theorem dX8_move_56 : decode cX8_move 56 = .ok (.iload_n 1, 1) := by decide +kernel
theorem dX8_move_57 : decode cX8_move 57 = .ok (.iload_n 2, 1) := by decide +kernel
theorem dX8_move_58 : decode cX8_move 58 = .ok (.invokestatic 154, 3) := by decide +kernel
theorem dX8_move_61 : decode cX8_move 61 = .ok (.ireturn, 1) := by decide +kernel
set_option maxRecDepth 20000 in
theorem ggX8_hour_X8_keepAct : GoodIn wsX8_hour wsX8_keepAct := goodIn_r _ [6, 7, 8, 9, 1, 10, 11, 12, 13, 14, 15, 16, 17, 18, 19, 20, 21, 22, 23, 24, 25, 26, 27, 28, 29, 30, 31, 32, 33, 34, 35, 36] (by decide +kernel) (by decide +kernel)
set_option maxRecDepth 20000 in
theorem gX8_hour_X8_keepAct : GoodIn wsX8_hour (wsV RX8 151 RX8 yX8_keepAct wsX8_keepAct) := goodIn_app (goodIn_of _ (by decide +kernel)) ggX8_hour_X8_keepAct
theorem dX8_hour_0 : decode cX8_hour 0 = .ok (.aload_n 0, 1) := by decide +kernel
theorem dX8_hour_1 : decode cX8_hour 1 = .ok (.invokevirtual 151, 3) := by decide +kernel
theorem dX8_hour_4 : decode cX8_hour 4 = .ok (.aload_n 0, 1) := by decide +kernel
theorem dX8_hour_5 : decode cX8_hour 5 = .ok (.aload_n 0, 1) := by decide +kernel
theorem dX8_hour_6 : decode cX8_hour 6 = .ok (.getfield 110, 3) := by decide +kernel
theorem dX8_hour_9 : decode cX8_hour 9 = .ok (.iconst 1, 1) := by decide +kernel
theorem dX8_hour_10 : decode cX8_hour 10 = .ok (.iadd, 1) := by decide +kernel
theorem dX8_hour_11 : decode cX8_hour 11 = .ok (.bipush 6, 2) := by decide +kernel
theorem dX8_hour_13 : decode cX8_hour 13 = .ok (.irem, 1) := by decide +kernel
theorem dX8_hour_14 : decode cX8_hour 14 = .ok (.putfield 110, 3) := by decide +kernel
theorem dX8_hour_17 : decode cX8_hour 17 = .ok (.aload_n 0, 1) := by decide +kernel
theorem dX8_hour_18 : decode cX8_hour 18 = .ok (.getfield 110, 3) := by decide +kernel
theorem dX8_hour_21 : decode cX8_hour 21 = .ok (.ireturn, 1) := by decide +kernel
theorem dX8_undo_0 : decode cX8_undo 0 = .ok (.aload_n 0, 1) := by decide +kernel
theorem dX8_undo_1 : decode cX8_undo 1 = .ok (.getfield 113, 3) := by decide +kernel
theorem dX8_undo_4 : decode cX8_undo 4 = .ok (.ifCond .ne 6, 3) := by decide +kernel
theorem dX8_undo_7 : decode cX8_undo 7 = .ok (.bipush (-3), 2) := by decide +kernel
theorem dX8_undo_9 : decode cX8_undo 9 = .ok (.ireturn, 1) := by decide +kernel
theorem dX8_undo_10 : decode cX8_undo 10 = .ok (.aload_n 0, 1) := by decide +kernel
theorem dX8_undo_11 : decode cX8_undo 11 = .ok (.dup, 1) := by decide +kernel
theorem dX8_undo_12 : decode cX8_undo 12 = .ok (.getfield 113, 3) := by decide +kernel
theorem dX8_undo_15 : decode cX8_undo 15 = .ok (.iconst 1, 1) := by decide +kernel
theorem dX8_undo_16 : decode cX8_undo 16 = .ok (.isub, 1) := by decide +kernel
theorem dX8_undo_17 : decode cX8_undo 17 = .ok (.putfield 113, 3) := by decide +kernel
theorem dX8_undo_20 : decode cX8_undo 20 = .ok (.aload_n 0, 1) := by decide +kernel
theorem dX8_undo_21 : decode cX8_undo 21 = .ok (.aload_n 0, 1) := by decide +kernel
theorem dX8_undo_22 : decode cX8_undo 22 = .ok (.getfield 145, 3) := by decide +kernel
theorem dX8_undo_25 : decode cX8_undo 25 = .ok (.bipush 15, 2) := by decide +kernel
theorem dX8_undo_27 : decode cX8_undo 27 = .ok (.iadd, 1) := by decide +kernel
theorem dX8_undo_28 : decode cX8_undo 28 = .ok (.bipush 16, 2) := by decide +kernel
theorem dX8_undo_30 : decode cX8_undo 30 = .ok (.irem, 1) := by decide +kernel
theorem dX8_undo_31 : decode cX8_undo 31 = .ok (.putfield 145, 3) := by decide +kernel
theorem dX8_undo_34 : decode cX8_undo 34 = .ok (.aload_n 0, 1) := by decide +kernel
theorem dX8_undo_35 : decode cX8_undo 35 = .ok (.aload_n 0, 1) := by decide +kernel
theorem dX8_undo_36 : decode cX8_undo 36 = .ok (.getfield 25, 3) := by decide +kernel
theorem dX8_undo_39 : decode cX8_undo 39 = .ok (.aload_n 0, 1) := by decide +kernel
theorem dX8_undo_40 : decode cX8_undo 40 = .ok (.getfield 145, 3) := by decide +kernel
theorem dX8_undo_43 : decode cX8_undo 43 = .ok (.iaload, 1) := by decide +kernel
theorem dX8_undo_44 : decode cX8_undo 44 = .ok (.sipush 4096, 3) := by decide +kernel
theorem dX8_undo_47 : decode cX8_undo 47 = .ok (.irem, 1) := by decide +kernel
theorem dX8_undo_48 : decode cX8_undo 48 = .ok (.putfield 107, 3) := by decide +kernel
theorem dX8_undo_51 : decode cX8_undo 51 = .ok (.aload_n 0, 1) := by decide +kernel
theorem dX8_undo_52 : decode cX8_undo 52 = .ok (.aload_n 0, 1) := by decide +kernel
theorem dX8_undo_53 : decode cX8_undo 53 = .ok (.getfield 25, 3) := by decide +kernel
theorem dX8_undo_56 : decode cX8_undo 56 = .ok (.aload_n 0, 1) := by decide +kernel
theorem dX8_undo_57 : decode cX8_undo 57 = .ok (.getfield 145, 3) := by decide +kernel
theorem dX8_undo_60 : decode cX8_undo 60 = .ok (.iaload, 1) := by decide +kernel
theorem dX8_undo_61 : decode cX8_undo 61 = .ok (.sipush 4096, 3) := by decide +kernel
theorem dX8_undo_64 : decode cX8_undo 64 = .ok (.idiv, 1) := by decide +kernel
theorem dX8_undo_65 : decode cX8_undo 65 = .ok (.putfield 110, 3) := by decide +kernel
theorem dX8_undo_68 : decode cX8_undo 68 = .ok (.aload_n 0, 1) := by decide +kernel
theorem dX8_undo_69 : decode cX8_undo 69 = .ok (.getfield 113, 3) := by decide +kernel
theorem dX8_undo_72 : decode cX8_undo 72 = .ok (.ireturn, 1) := by decide +kernel
theorem dX8_how_0 : decode cX8_how 0 = .ok (.iload_n 0, 1) := by decide +kernel
theorem dX8_how_1 : decode cX8_how 1 = .ok (.ifCond .ne 7, 3) := by decide +kernel
theorem dX8_how_4 : decode cX8_how 4 = .ok (.iconst 1, 1) := by decide +kernel
theorem dX8_how_5 : decode cX8_how 5 = .ok (.goto 13, 3) := by decide +kernel
theorem dX8_how_8 : decode cX8_how 8 = .ok (.iload_n 0, 1) := by decide +kernel
theorem dX8_how_9 : decode cX8_how 9 = .ok (.iconst 1, 1) := by decide +kernel
theorem dX8_how_10 : decode cX8_how 10 = .ok (.if_icmp .ne 7, 3) := by decide +kernel
theorem dX8_how_13 : decode cX8_how 13 = .ok (.iconst (-1), 1) := by decide +kernel
theorem dX8_how_14 : decode cX8_how 14 = .ok (.goto 4, 3) := by decide +kernel
theorem dX8_how_17 : decode cX8_how 17 = .ok (.iconst 0, 1) := by decide +kernel
theorem dX8_how_18 : decode cX8_how 18 = .ok (.ireturn, 1) := by decide +kernel
set_option maxRecDepth 20000 in
theorem ggX8_judge_X8_in : GoodIn wsX8_judge wsX8_in := goodIn_r _ [8] (by decide +kernel) (by decide +kernel)
set_option maxRecDepth 20000 in
theorem gX8_judge_X8_in : GoodIn wsX8_judge (va_wsS RX8 56 yX8_in wsX8_in) := goodIn_app (goodIn_of _ (by decide +kernel)) ggX8_judge_X8_in
set_option maxRecDepth 20000 in
theorem ggX8_judge_X8_isCell : GoodIn wsX8_judge wsX8_isCell := goodIn_r _ [11, 12, 5, 6, 7, 8] (by decide +kernel) (by decide +kernel)
set_option maxRecDepth 20000 in
theorem gX8_judge_X8_isCell : GoodIn wsX8_judge (va_wsS RX8 140 yX8_isCell wsX8_isCell) := goodIn_app (goodIn_of _ (by decide +kernel)) ggX8_judge_X8_isCell
set_option maxRecDepth 20000 in
theorem ggX8_judge_X8_how : GoodIn wsX8_judge wsX8_how := goodIn_r _ [15] (by decide +kernel) (by decide +kernel)
set_option maxRecDepth 20000 in
theorem gX8_judge_X8_how : GoodIn wsX8_judge (va_wsS RX8 172 yX8_how wsX8_how) := goodIn_app (goodIn_of _ (by decide +kernel)) ggX8_judge_X8_how
set_option maxRecDepth 20000 in
theorem ggX8_judge_X8_canMove : GoodIn wsX8_judge wsX8_canMove := goodIn_r _ [18, 19, 20, 7, 21, 22, 23, 24] (by decide +kernel) (by decide +kernel)
set_option maxRecDepth 20000 in
theorem gX8_judge_X8_canMove : GoodIn wsX8_judge (va_wsS RX8 159 yX8_canMove wsX8_canMove) := goodIn_app (goodIn_of _ (by decide +kernel)) ggX8_judge_X8_canMove
set_option maxRecDepth 20000 in
theorem ggX8_judge_X8_movedHanging : GoodIn wsX8_judge wsX8_movedHanging := goodIn_r _ [27, 22, 23, 7, 24] (by decide +kernel) (by decide +kernel)
set_option maxRecDepth 20000 in
theorem gX8_judge_X8_movedHanging : GoodIn wsX8_judge (va_wsS RX8 162 yX8_movedHanging wsX8_movedHanging) := goodIn_app (goodIn_of _ (by decide +kernel)) ggX8_judge_X8_movedHanging
theorem dX8_judge_0 : decode cX8_judge 0 = .ok (.iload_n 1, 1) := by decide +kernel
theorem dX8_judge_1 : decode cX8_judge 1 = .ok (.i2l, 1) := by decide +kernel
theorem dX8_judge_2 : decode cX8_judge 2 = .ok (.lconst 1, 1) := by decide +kernel
theorem dX8_judge_3 : decode cX8_judge 3 = .ok (.ldc2_w 166, 3) := by decide +kernel
theorem dX8_judge_6 : decode cX8_judge 6 = .ok (.invokestatic 56, 3) := by decide +kernel
theorem dX8_judge_9 : decode cX8_judge 9 = .ok (.ifCond .eq 26, 3) := by decide +kernel
theorem dX8_judge_12 : decode cX8_judge 12 = .ok (.iload_n 2, 1) := by decide +kernel
theorem dX8_judge_13 : decode cX8_judge 13 = .ok (.i2l, 1) := by decide +kernel
theorem dX8_judge_14 : decode cX8_judge 14 = .ok (.lconst 0, 1) := by decide +kernel
theorem dX8_judge_15 : decode cX8_judge 15 = .ok (.iload_n 1, 1) := by decide +kernel
theorem dX8_judge_16 : decode cX8_judge 16 = .ok (.iconst 1, 1) := by decide +kernel
theorem dX8_judge_17 : decode cX8_judge 17 = .ok (.if_icmp .ne 9, 3) := by decide +kernel
theorem dX8_judge_20 : decode cX8_judge 20 = .ok (.ldc2_w 168, 3) := by decide +kernel
theorem dX8_judge_23 : decode cX8_judge 23 = .ok (.goto 6, 3) := by decide +kernel
theorem dX8_judge_26 : decode cX8_judge 26 = .ok (.ldc2_w 170, 3) := by decide +kernel
theorem dX8_judge_29 : decode cX8_judge 29 = .ok (.invokestatic 56, 3) := by decide +kernel
theorem dX8_judge_32 : decode cX8_judge 32 = .ok (.ifCond .ne 6, 3) := by decide +kernel
theorem dX8_judge_35 : decode cX8_judge 35 = .ok (.bipush (-2), 2) := by decide +kernel
theorem dX8_judge_37 : decode cX8_judge 37 = .ok (.ireturn, 1) := by decide +kernel
theorem dX8_judge_38 : decode cX8_judge 38 = .ok (.aload_n 0, 1) := by decide +kernel
theorem dX8_judge_39 : decode cX8_judge 39 = .ok (.getfield 107, 3) := by decide +kernel
theorem dX8_judge_42 : decode cX8_judge 42 = .ok (.istore_n 3, 1) := by decide +kernel
theorem dX8_judge_43 : decode cX8_judge 43 = .ok (.iconst 0, 1) := by decide +kernel
theorem dX8_judge_44 : decode cX8_judge 44 = .ok (.istore 4, 2) := by decide +kernel
theorem dX8_judge_46 : decode cX8_judge 46 = .ok (.iload 4, 2) := by decide +kernel
theorem dX8_judge_48 : decode cX8_judge 48 = .ok (.iload_n 1, 1) := by decide +kernel
theorem dX8_judge_49 : decode cX8_judge 49 = .ok (.if_icmp .ge 91, 3) := by decide +kernel
theorem dX8_judge_52 : decode cX8_judge 52 = .ok (.iload 4, 2) := by decide +kernel
theorem dX8_judge_54 : decode cX8_judge 54 = .ok (.iload_n 1, 1) := by decide +kernel
theorem dX8_judge_55 : decode cX8_judge 55 = .ok (.iconst 1, 1) := by decide +kernel
theorem dX8_judge_56 : decode cX8_judge 56 = .ok (.isub, 1) := by decide +kernel
theorem dX8_judge_57 : decode cX8_judge 57 = .ok (.if_icmp .ne 11, 3) := by decide +kernel
theorem dX8_judge_60 : decode cX8_judge 60 = .ok (.iload_n 2, 1) := by decide +kernel
theorem dX8_judge_61 : decode cX8_judge 61 = .ok (.sipush 1000, 3) := by decide +kernel
theorem dX8_judge_64 : decode cX8_judge 64 = .ok (.irem, 1) := by decide +kernel
theorem dX8_judge_65 : decode cX8_judge 65 = .ok (.goto 8, 3) := by decide +kernel
theorem dX8_judge_68 : decode cX8_judge 68 = .ok (.iload_n 2, 1) := by decide +kernel
theorem dX8_judge_69 : decode cX8_judge 69 = .ok (.sipush 1000, 3) := by decide +kernel
theorem dX8_judge_72 : decode cX8_judge 72 = .ok (.idiv, 1) := by decide +kernel
theorem dX8_judge_73 : decode cX8_judge 73 = .ok (.istore 5, 2) := by decide +kernel
theorem dX8_judge_75 : decode cX8_judge 75 = .ok (.iload 5, 2) := by decide +kernel
theorem dX8_judge_77 : decode cX8_judge 77 = .ok (.bipush 10, 2) := by decide +kernel
theorem dX8_judge_79 : decode cX8_judge 79 = .ok (.idiv, 1) := by decide +kernel
theorem dX8_judge_80 : decode cX8_judge 80 = .ok (.istore 6, 2) := by decide +kernel
theorem dX8_judge_82 : decode cX8_judge 82 = .ok (.iload 6, 2) := by decide +kernel
theorem dX8_judge_84 : decode cX8_judge 84 = .ok (.invokestatic 140, 3) := by decide +kernel
theorem dX8_judge_87 : decode cX8_judge 87 = .ok (.ifCond .eq 29, 3) := by decide +kernel
theorem dX8_judge_90 : decode cX8_judge 90 = .ok (.iload 5, 2) := by decide +kernel
theorem dX8_judge_92 : decode cX8_judge 92 = .ok (.bipush 10, 2) := by decide +kernel
theorem dX8_judge_94 : decode cX8_judge 94 = .ok (.irem, 1) := by decide +kernel
theorem dX8_judge_95 : decode cX8_judge 95 = .ok (.iconst 2, 1) := by decide +kernel
theorem dX8_judge_96 : decode cX8_judge 96 = .ok (.if_icmp .gt 20, 3) := by decide +kernel
theorem dX8_judge_99 : decode cX8_judge 99 = .ok (.iload_n 3, 1) := by decide +kernel
theorem dX8_judge_100 : decode cX8_judge 100 = .ok (.iload 6, 2) := by decide +kernel
theorem dX8_judge_102 : decode cX8_judge 102 = .ok (.iload 5, 2) := by decide +kernel
theorem dX8_judge_104 : decode cX8_judge 104 = .ok (.bipush 10, 2) := by decide +kernel
theorem dX8_judge_106 : decode cX8_judge 106 = .ok (.irem, 1) := by decide +kernel
theorem dX8_judge_107 : decode cX8_judge 107 = .ok (.invokestatic 172, 3) := by decide +kernel
theorem dX8_judge_110 : decode cX8_judge 110 = .ok (.invokestatic 159, 3) := by decide +kernel
theorem dX8_judge_113 : decode cX8_judge 113 = .ok (.ifCond .ne 6, 3) := by decide +kernel
theorem dX8_judge_116 : decode cX8_judge 116 = .ok (.iload 4, 2) := by decide +kernel
theorem dX8_judge_118 : decode cX8_judge 118 = .ok (.ireturn, 1) := by decide +kernel
theorem dX8_judge_119 : decode cX8_judge 119 = .ok (.iload_n 3, 1) := by decide +kernel
theorem dX8_judge_120 : decode cX8_judge 120 = .ok (.iload 6, 2) := by decide +kernel
theorem dX8_judge_122 : decode cX8_judge 122 = .ok (.iload 5, 2) := by decide +kernel
theorem dX8_judge_124 : decode cX8_judge 124 = .ok (.bipush 10, 2) := by decide +kernel
theorem dX8_judge_126 : decode cX8_judge 126 = .ok (.irem, 1) := by decide +kernel
theorem dX8_judge_127 : decode cX8_judge 127 = .ok (.invokestatic 172, 3) := by decide +kernel
theorem dX8_judge_130 : decode cX8_judge 130 = .ok (.invokestatic 162, 3) := by decide +kernel
theorem dX8_judge_133 : decode cX8_judge 133 = .ok (.istore_n 3, 1) := by decide +kernel
theorem dX8_judge_134 : decode cX8_judge 134 = .ok (.iinc 4 1, 3) := by decide +kernel
theorem dX8_judge_137 : decode cX8_judge 137 = .ok (.goto (-91), 3) := by decide +kernel
theorem dX8_judge_140 : decode cX8_judge 140 = .ok (.bipush (-9), 2) := by decide +kernel
theorem dX8_judge_142 : decode cX8_judge 142 = .ok (.ireturn, 1) := by decide +kernel
set_option maxRecDepth 20000 in
theorem ggX8_isHanging_X8_in : GoodIn wsX8_isHanging wsX8_in := goodIn_r _ [5] (by decide +kernel) (by decide +kernel)
set_option maxRecDepth 20000 in
theorem gX8_isHanging_X8_in : GoodIn wsX8_isHanging (va_wsS RX8 56 yX8_in wsX8_in) := goodIn_app (goodIn_of _ (by decide +kernel)) ggX8_isHanging_X8_in
set_option maxRecDepth 20000 in
theorem ggX8_isHanging_X8_ones : GoodIn wsX8_isHanging wsX8_ones := goodIn_r _ [8] (by decide +kernel) (by decide +kernel)
set_option maxRecDepth 20000 in
theorem gX8_isHanging_X8_ones : GoodIn wsX8_isHanging (va_wsS RX8 91 yX8_ones wsX8_ones) := goodIn_app (goodIn_of _ (by decide +kernel)) ggX8_isHanging_X8_ones
theorem dX8_isHanging_0 : decode cX8_isHanging 0 = .ok (.iload_n 0, 1) := by decide +kernel
theorem dX8_isHanging_1 : decode cX8_isHanging 1 = .ok (.i2l, 1) := by decide +kernel
theorem dX8_isHanging_2 : decode cX8_isHanging 2 = .ok (.lconst 0, 1) := by decide +kernel
theorem dX8_isHanging_3 : decode cX8_isHanging 3 = .ok (.ldc2_w 175, 3) := by decide +kernel
theorem dX8_isHanging_6 : decode cX8_isHanging 6 = .ok (.invokestatic 56, 3) := by decide +kernel
theorem dX8_isHanging_9 : decode cX8_isHanging 9 = .ok (.ifCond .eq 15, 3) := by decide +kernel
theorem dX8_isHanging_12 : decode cX8_isHanging 12 = .ok (.iload_n 0, 1) := by decide +kernel
theorem dX8_isHanging_13 : decode cX8_isHanging 13 = .ok (.invokestatic 91, 3) := by decide +kernel
theorem dX8_isHanging_16 : decode cX8_isHanging 16 = .ok (.iconst 5, 1) := by decide +kernel
theorem dX8_isHanging_17 : decode cX8_isHanging 17 = .ok (.if_icmp .gt 7, 3) := by decide +kernel
theorem dX8_isHanging_20 : decode cX8_isHanging 20 = .ok (.iconst 1, 1) := by decide +kernel
theorem dX8_isHanging_21 : decode cX8_isHanging 21 = .ok (.goto 4, 3) := by decide +kernel
theorem dX8_isHanging_24 : decode cX8_isHanging 24 = .ok (.iconst 0, 1) := by decide +kernel
theorem dX8_isHanging_25 : decode cX8_isHanging 25 = .ok (.ireturn, 1) := by decide +kernel
set_option maxRecDepth 20000 in
theorem ggX8_worth_X8_isHanging : GoodIn wsX8_worth wsX8_isHanging := goodIn_r _ [4, 5, 6, 7, 3, 8, 9, 10, 11] (by decide +kernel) (by decide +kernel)
set_option maxRecDepth 20000 in
theorem gX8_worth_X8_isHanging : GoodIn wsX8_worth (va_wsS RX8 177 yX8_isHanging wsX8_isHanging) := goodIn_app (goodIn_of _ (by decide +kernel)) ggX8_worth_X8_isHanging
set_option maxRecDepth 20000 in
theorem ggX8_worth_X8_granted : GoodIn wsX8_worth wsX8_granted := goodIn_r _ [15, 16, 17, 18, 19, 3, 20, 21, 22, 23, 24, 25, 26, 27, 28, 29, 30, 31, 32, 33, 34, 39, 40, 41, 42, 43, 44, 45, 46, 47, 48, 49, 50, 51, 52, 53, 54, 55, 56, 57, 58, 59, 60, 61, 62, 63, 64] (by decide +kernel) (by decide +kernel)
set_option maxRecDepth 20000 in
theorem gX8_worth_X8_granted : GoodIn wsX8_worth (wsV RX8 180 RX8 yX8_granted wsX8_granted) := goodIn_app (goodIn_of _ (by decide +kernel)) ggX8_worth_X8_granted
set_option maxRecDepth 20000 in
theorem ggX8_worth_X8_worthOf : GoodIn wsX8_worth wsX8_worthOf := goodIn_r _ [38, 16, 21, 39, 40, 41, 42, 43, 44, 45, 46, 47, 48, 49, 50, 51, 52, 53, 54, 55, 56, 57, 58, 59, 60, 61, 62, 63, 64] (by decide +kernel) (by decide +kernel)
set_option maxRecDepth 20000 in
theorem gX8_worth_X8_worthOf : GoodIn wsX8_worth (wsV RX8 183 RX8 yX8_worthOf wsX8_worthOf) := goodIn_app (goodIn_of _ (by decide +kernel)) ggX8_worth_X8_worthOf
theorem dX8_worth_0 : decode cX8_worth 0 = .ok (.iload_n 1, 1) := by decide +kernel
theorem dX8_worth_1 : decode cX8_worth 1 = .ok (.invokestatic 177, 3) := by decide +kernel
theorem dX8_worth_4 : decode cX8_worth 4 = .ok (.ifCond .eq 15, 3) := by decide +kernel
theorem dX8_worth_7 : decode cX8_worth 7 = .ok (.aload_n 0, 1) := by decide +kernel
theorem dX8_worth_8 : decode cX8_worth 8 = .ok (.aload_n 0, 1) := by decide +kernel
theorem dX8_worth_9 : decode cX8_worth 9 = .ok (.iload_n 1, 1) := by decide +kernel
theorem dX8_worth_10 : decode cX8_worth 10 = .ok (.invokevirtual 180, 3) := by decide +kernel
theorem dX8_worth_13 : decode cX8_worth 13 = .ok (.invokevirtual 183, 3) := by decide +kernel
theorem dX8_worth_16 : decode cX8_worth 16 = .ok (.goto 5, 3) := by decide +kernel
theorem dX8_worth_19 : decode cX8_worth 19 = .ok (.bipush (-2), 2) := by decide +kernel
theorem dX8_worth_21 : decode cX8_worth 21 = .ok (.ireturn, 1) := by decide +kernel
set_option maxRecDepth 20000 in
theorem ggX8_lawful_X8_isHanging : GoodIn wsX8_lawful wsX8_isHanging := goodIn_r _ [4, 5, 6, 7, 3, 8, 9, 10, 11] (by decide +kernel) (by decide +kernel)
set_option maxRecDepth 20000 in
theorem gX8_lawful_X8_isHanging : GoodIn wsX8_lawful (va_wsS RX8 177 yX8_isHanging wsX8_isHanging) := goodIn_app (goodIn_of _ (by decide +kernel)) ggX8_lawful_X8_isHanging
set_option maxRecDepth 20000 in
theorem ggX8_lawful_X8_isLawful : GoodIn wsX8_lawful wsX8_isLawful := goodIn_r _ [15, 16, 17, 18, 3, 19, 20, 21, 22, 23, 24, 25, 9, 10, 11, 26, 27, 28, 29, 30, 31, 32, 33, 34, 35, 36, 37, 38, 39, 40, 41, 42, 43, 44, 45, 46, 47, 48, 49, 50, 51] (by decide +kernel) (by decide +kernel)
set_option maxRecDepth 20000 in
theorem gX8_lawful_X8_isLawful : GoodIn wsX8_lawful (wsV RX8 186 RX8 yX8_isLawful wsX8_isLawful) := goodIn_app (goodIn_of _ (by decide +kernel)) ggX8_lawful_X8_isLawful
theorem dX8_lawful_0 : decode cX8_lawful 0 = .ok (.iload_n 1, 1) := by decide +kernel
theorem dX8_lawful_1 : decode cX8_lawful 1 = .ok (.invokestatic 177, 3) := by decide +kernel
theorem dX8_lawful_4 : decode cX8_lawful 4 = .ok (.ifCond .ne 8, 3) := by decide +kernel
theorem dX8_lawful_7 : decode cX8_lawful 7 = .ok (.bipush (-2), 2) := by decide +kernel
theorem dX8_lawful_9 : decode cX8_lawful 9 = .ok (.goto 16, 3) := by decide +kernel
theorem dX8_lawful_12 : decode cX8_lawful 12 = .ok (.aload_n 0, 1) := by decide +kernel
theorem dX8_lawful_13 : decode cX8_lawful 13 = .ok (.iload_n 1, 1) := by decide +kernel
theorem dX8_lawful_14 : decode cX8_lawful 14 = .ok (.invokevirtual 186, 3) := by decide +kernel
theorem dX8_lawful_17 : decode cX8_lawful 17 = .ok (.ifCond .eq 7, 3) := by decide +kernel
theorem dX8_lawful_20 : decode cX8_lawful 20 = .ok (.iconst 1, 1) := by decide +kernel
theorem dX8_lawful_21 : decode cX8_lawful 21 = .ok (.goto 4, 3) := by decide +kernel
theorem dX8_lawful_24 : decode cX8_lawful 24 = .ok (.iconst 0, 1) := by decide +kernel
theorem dX8_lawful_25 : decode cX8_lawful 25 = .ok (.ireturn, 1) := by decide +kernel
set_option maxRecDepth 20000 in
theorem ggX8_bestHanging_X8_ones : GoodIn wsX8_bestHanging wsX8_ones := goodIn_r _ [4] (by decide +kernel) (by decide +kernel)
set_option maxRecDepth 20000 in
theorem gX8_bestHanging_X8_ones : GoodIn wsX8_bestHanging (va_wsS RX8 91 yX8_ones wsX8_ones) := goodIn_app (goodIn_of _ (by decide +kernel)) ggX8_bestHanging_X8_ones
set_option maxRecDepth 20000 in
theorem ggX8_bestHanging_X8_isLawful : GoodIn wsX8_bestHanging wsX8_isLawful := goodIn_r _ [8, 9, 10, 11, 3, 12, 13, 14, 15, 16, 17, 18, 1, 2, 4, 37, 38, 39, 40, 41, 42, 43, 44, 45, 46, 47, 48, 49, 50, 51, 52, 53, 54, 55, 56, 57, 58, 59, 60, 61, 62] (by decide +kernel) (by decide +kernel)
set_option maxRecDepth 20000 in
theorem gX8_bestHanging_X8_isLawful : GoodIn wsX8_bestHanging (wsV RX8 186 RX8 yX8_isLawful wsX8_isLawful) := goodIn_app (goodIn_of _ (by decide +kernel)) ggX8_bestHanging_X8_isLawful
set_option maxRecDepth 20000 in
theorem ggX8_bestHanging_X8_granted : GoodIn wsX8_bestHanging wsX8_granted := goodIn_r _ [22, 23, 24, 25, 26, 3, 27, 28, 10, 11, 12, 13, 14, 15, 16, 17, 18, 29, 30, 31, 32, 37, 38, 39, 40, 41, 42, 43, 44, 45, 46, 47, 48, 49, 50, 51, 52, 53, 54, 55, 56, 57, 58, 59, 60, 61, 62] (by decide +kernel) (by decide +kernel)
set_option maxRecDepth 20000 in
theorem gX8_bestHanging_X8_granted : GoodIn wsX8_bestHanging (wsV RX8 180 RX8 yX8_granted wsX8_granted) := goodIn_app (goodIn_of _ (by decide +kernel)) ggX8_bestHanging_X8_granted
set_option maxRecDepth 20000 in
theorem ggX8_bestHanging_X8_worthOf : GoodIn wsX8_bestHanging wsX8_worthOf := goodIn_r _ [36, 23, 28, 37, 38, 39, 40, 41, 42, 43, 44, 45, 46, 47, 48, 49, 50, 51, 52, 53, 54, 55, 56, 57, 58, 59, 60, 61, 62] (by decide +kernel) (by decide +kernel)
set_option maxRecDepth 20000 in
theorem gX8_bestHanging_X8_worthOf : GoodIn wsX8_bestHanging (wsV RX8 183 RX8 yX8_worthOf wsX8_worthOf) := goodIn_app (goodIn_of _ (by decide +kernel)) ggX8_bestHanging_X8_worthOf
theorem dX8_bestHanging_0 : decode cX8_bestHanging 0 = .ok (.bipush (-9), 2) := by decide +kernel
theorem dX8_bestHanging_2 : decode cX8_bestHanging 2 = .ok (.istore_n 2, 1) := by decide +kernel
theorem dX8_bestHanging_3 : decode cX8_bestHanging 3 = .ok (.bipush (-9), 2) := by decide +kernel
theorem dX8_bestHanging_5 : decode cX8_bestHanging 5 = .ok (.istore_n 3, 1) := by decide +kernel
theorem dX8_bestHanging_6 : decode cX8_bestHanging 6 = .ok (.iconst 0, 1) := by decide +kernel
theorem dX8_bestHanging_7 : decode cX8_bestHanging 7 = .ok (.istore 4, 2) := by decide +kernel
theorem dX8_bestHanging_9 : decode cX8_bestHanging 9 = .ok (.iload 4, 2) := by decide +kernel
theorem dX8_bestHanging_11 : decode cX8_bestHanging 11 = .ok (.sipush 4096, 3) := by decide +kernel
theorem dX8_bestHanging_14 : decode cX8_bestHanging 14 = .ok (.if_icmp .ge 95, 3) := by decide +kernel
theorem dX8_bestHanging_17 : decode cX8_bestHanging 17 = .ok (.iload 4, 2) := by decide +kernel
theorem dX8_bestHanging_19 : decode cX8_bestHanging 19 = .ok (.invokestatic 91, 3) := by decide +kernel
theorem dX8_bestHanging_22 : decode cX8_bestHanging 22 = .ok (.istore 5, 2) := by decide +kernel
theorem dX8_bestHanging_24 : decode cX8_bestHanging 24 = .ok (.iload 5, 2) := by decide +kernel
theorem dX8_bestHanging_26 : decode cX8_bestHanging 26 = .ok (.iload_n 1, 1) := by decide +kernel
theorem dX8_bestHanging_27 : decode cX8_bestHanging 27 = .ok (.if_icmp .gt 76, 3) := by decide +kernel
theorem dX8_bestHanging_30 : decode cX8_bestHanging 30 = .ok (.aload_n 0, 1) := by decide +kernel
theorem dX8_bestHanging_31 : decode cX8_bestHanging 31 = .ok (.iload 4, 2) := by decide +kernel
theorem dX8_bestHanging_33 : decode cX8_bestHanging 33 = .ok (.invokevirtual 186, 3) := by decide +kernel
theorem dX8_bestHanging_36 : decode cX8_bestHanging 36 = .ok (.ifCond .eq 67, 3) := by decide +kernel
theorem dX8_bestHanging_39 : decode cX8_bestHanging 39 = .ok (.aload_n 0, 1) := by decide +kernel
theorem dX8_bestHanging_40 : decode cX8_bestHanging 40 = .ok (.aload_n 0, 1) := by decide +kernel
theorem dX8_bestHanging_41 : decode cX8_bestHanging 41 = .ok (.iload 4, 2) := by decide +kernel
theorem dX8_bestHanging_43 : decode cX8_bestHanging 43 = .ok (.invokevirtual 180, 3) := by decide +kernel
theorem dX8_bestHanging_46 : decode cX8_bestHanging 46 = .ok (.invokevirtual 183, 3) := by decide +kernel
theorem dX8_bestHanging_49 : decode cX8_bestHanging 49 = .ok (.istore 6, 2) := by decide +kernel
theorem dX8_bestHanging_51 : decode cX8_bestHanging 51 = .ok (.iload 6, 2) := by decide +kernel
theorem dX8_bestHanging_53 : decode cX8_bestHanging 53 = .ok (.iload_n 3, 1) := by decide +kernel
theorem dX8_bestHanging_54 : decode cX8_bestHanging 54 = .ok (.if_icmp .gt 18, 3) := by decide +kernel
theorem dX8_bestHanging_57 : decode cX8_bestHanging 57 = .ok (.iload 6, 2) := by decide +kernel
theorem dX8_bestHanging_59 : decode cX8_bestHanging 59 = .ok (.iload_n 3, 1) := by decide +kernel
theorem dX8_bestHanging_60 : decode cX8_bestHanging 60 = .ok (.if_icmp .ne 16, 3) := by decide +kernel
theorem dX8_bestHanging_63 : decode cX8_bestHanging 63 = .ok (.iload 5, 2) := by decide +kernel
theorem dX8_bestHanging_65 : decode cX8_bestHanging 65 = .ok (.iload_n 2, 1) := by decide +kernel
theorem dX8_bestHanging_66 : decode cX8_bestHanging 66 = .ok (.invokestatic 91, 3) := by decide +kernel
theorem dX8_bestHanging_69 : decode cX8_bestHanging 69 = .ok (.if_icmp .ge 7, 3) := by decide +kernel
theorem dX8_bestHanging_72 : decode cX8_bestHanging 72 = .ok (.iconst 1, 1) := by decide +kernel
theorem dX8_bestHanging_73 : decode cX8_bestHanging 73 = .ok (.goto 4, 3) := by decide +kernel
theorem dX8_bestHanging_76 : decode cX8_bestHanging 76 = .ok (.iconst 0, 1) := by decide +kernel
theorem dX8_bestHanging_77 : decode cX8_bestHanging 77 = .ok (.istore 7, 2) := by decide +kernel
theorem dX8_bestHanging_79 : decode cX8_bestHanging 79 = .ok (.iload 7, 2) := by decide +kernel
theorem dX8_bestHanging_81 : decode cX8_bestHanging 81 = .ok (.ifCond .eq 8, 3) := by decide +kernel
theorem dX8_bestHanging_84 : decode cX8_bestHanging 84 = .ok (.iload 4, 2) := by decide +kernel
theorem dX8_bestHanging_86 : decode cX8_bestHanging 86 = .ok (.goto 4, 3) := by decide +kernel
theorem dX8_bestHanging_89 : decode cX8_bestHanging 89 = .ok (.iload_n 2, 1) := by decide +kernel
theorem dX8_bestHanging_90 : decode cX8_bestHanging 90 = .ok (.istore_n 2, 1) := by decide +kernel
theorem dX8_bestHanging_91 : decode cX8_bestHanging 91 = .ok (.iload 7, 2) := by decide +kernel
theorem dX8_bestHanging_93 : decode cX8_bestHanging 93 = .ok (.ifCond .eq 8, 3) := by decide +kernel
theorem dX8_bestHanging_96 : decode cX8_bestHanging 96 = .ok (.iload 6, 2) := by decide +kernel
theorem dX8_bestHanging_98 : decode cX8_bestHanging 98 = .ok (.goto 4, 3) := by decide +kernel
theorem dX8_bestHanging_101 : decode cX8_bestHanging 101 = .ok (.iload_n 3, 1) := by decide +kernel
theorem dX8_bestHanging_102 : decode cX8_bestHanging 102 = .ok (.istore_n 3, 1) := by decide +kernel
theorem dX8_bestHanging_103 : decode cX8_bestHanging 103 = .ok (.iinc 4 1, 3) := by decide +kernel
theorem dX8_bestHanging_106 : decode cX8_bestHanging 106 = .ok (.goto (-97), 3) := by decide +kernel
theorem dX8_bestHanging_109 : decode cX8_bestHanging 109 = .ok (.iload_n 2, 1) := by decide +kernel
theorem dX8_bestHanging_110 : decode cX8_bestHanging 110 = .ok (.ireturn, 1) := by decide +kernel
set_option maxRecDepth 20000 in
theorem ggX8_best_X8_in : GoodIn wsX8_best wsX8_in := goodIn_r _ [6] (by decide +kernel) (by decide +kernel)
set_option maxRecDepth 20000 in
theorem gX8_best_X8_in : GoodIn wsX8_best (va_wsS RX8 56 yX8_in wsX8_in) := goodIn_app (goodIn_of _ (by decide +kernel)) ggX8_best_X8_in
set_option maxRecDepth 20000 in
theorem ggX8_best_X8_bestHanging : GoodIn wsX8_best wsX8_bestHanging := goodIn_r _ [10, 11, 12, 5, 13, 14, 15, 16, 17, 18, 19, 20, 21, 22, 23, 24, 25, 26, 27, 28, 29, 30, 31, 32, 33, 34, 35, 36, 37, 38, 39, 40, 41, 42, 43, 44, 45, 46, 47, 48, 49, 50, 51, 52, 53, 54, 55, 56, 57, 58, 59, 60, 61, 62, 63, 64, 65, 66, 67, 68, 69, 70, 71] (by decide +kernel) (by decide +kernel)
set_option maxRecDepth 20000 in
theorem gX8_best_X8_bestHanging : GoodIn wsX8_best (wsV RX8 189 RX8 yX8_bestHanging wsX8_bestHanging) := goodIn_app (goodIn_of _ (by decide +kernel)) ggX8_best_X8_bestHanging
set_option maxRecDepth 20000 in
theorem ggX8_best_X8_granted : GoodIn wsX8_best wsX8_granted := goodIn_r _ [31, 32, 33, 34, 35, 5, 36, 37, 19, 20, 21, 22, 23, 24, 25, 26, 27, 38, 39, 40, 41, 46, 47, 48, 49, 50, 51, 52, 53, 54, 55, 56, 57, 58, 59, 60, 61, 62, 63, 64, 65, 66, 67, 68, 69, 70, 71] (by decide +kernel) (by decide +kernel)
set_option maxRecDepth 20000 in
theorem gX8_best_X8_granted : GoodIn wsX8_best (wsV RX8 180 RX8 yX8_granted wsX8_granted) := goodIn_app (goodIn_of _ (by decide +kernel)) ggX8_best_X8_granted
set_option maxRecDepth 20000 in
theorem ggX8_best_X8_worthOf : GoodIn wsX8_best wsX8_worthOf := goodIn_r _ [45, 32, 37, 46, 47, 48, 49, 50, 51, 52, 53, 54, 55, 56, 57, 58, 59, 60, 61, 62, 63, 64, 65, 66, 67, 68, 69, 70, 71] (by decide +kernel) (by decide +kernel)
set_option maxRecDepth 20000 in
theorem gX8_best_X8_worthOf : GoodIn wsX8_best (wsV RX8 183 RX8 yX8_worthOf wsX8_worthOf) := goodIn_app (goodIn_of _ (by decide +kernel)) ggX8_best_X8_worthOf
theorem dX8_best_0 : decode cX8_best 0 = .ok (.iload_n 1, 1) := by decide +kernel
theorem dX8_best_1 : decode cX8_best 1 = .ok (.i2l, 1) := by decide +kernel
theorem dX8_best_2 : decode cX8_best 2 = .ok (.lconst 0, 1) := by decide +kernel
theorem dX8_best_3 : decode cX8_best 3 = .ok (.ldc2_w 143, 3) := by decide +kernel
theorem dX8_best_6 : decode cX8_best 6 = .ok (.invokestatic 56, 3) := by decide +kernel
theorem dX8_best_9 : decode cX8_best 9 = .ok (.ifCond .eq 15, 3) := by decide +kernel
theorem dX8_best_12 : decode cX8_best 12 = .ok (.iload_n 2, 1) := by decide +kernel
theorem dX8_best_13 : decode cX8_best 13 = .ok (.i2l, 1) := by decide +kernel
theorem dX8_best_14 : decode cX8_best 14 = .ok (.lconst 0, 1) := by decide +kernel
theorem dX8_best_15 : decode cX8_best 15 = .ok (.ldc2_w 166, 3) := by decide +kernel
theorem dX8_best_18 : decode cX8_best 18 = .ok (.invokestatic 56, 3) := by decide +kernel
theorem dX8_best_21 : decode cX8_best 21 = .ok (.ifCond .ne 6, 3) := by decide +kernel
theorem dX8_best_24 : decode cX8_best 24 = .ok (.bipush (-2), 2) := by decide +kernel
theorem dX8_best_26 : decode cX8_best 26 = .ok (.ireturn, 1) := by decide +kernel
theorem dX8_best_27 : decode cX8_best 27 = .ok (.aload_n 0, 1) := by decide +kernel
theorem dX8_best_28 : decode cX8_best 28 = .ok (.iload_n 1, 1) := by decide +kernel
theorem dX8_best_29 : decode cX8_best 29 = .ok (.invokevirtual 189, 3) := by decide +kernel
theorem dX8_best_32 : decode cX8_best 32 = .ok (.istore_n 3, 1) := by decide +kernel
theorem dX8_best_33 : decode cX8_best 33 = .ok (.iload_n 3, 1) := by decide +kernel
theorem dX8_best_34 : decode cX8_best 34 = .ok (.bipush (-9), 2) := by decide +kernel
theorem dX8_best_36 : decode cX8_best 36 = .ok (.if_icmp .ne 6, 3) := by decide +kernel
theorem dX8_best_39 : decode cX8_best 39 = .ok (.bipush (-9), 2) := by decide +kernel
theorem dX8_best_41 : decode cX8_best 41 = .ok (.ireturn, 1) := by decide +kernel
theorem dX8_best_42 : decode cX8_best 42 = .ok (.iload_n 2, 1) := by decide +kernel
theorem dX8_best_43 : decode cX8_best 43 = .ok (.ifCond .ne 15, 3) := by decide +kernel
theorem dX8_best_46 : decode cX8_best 46 = .ok (.aload_n 0, 1) := by decide +kernel
theorem dX8_best_47 : decode cX8_best 47 = .ok (.aload_n 0, 1) := by decide +kernel
theorem dX8_best_48 : decode cX8_best 48 = .ok (.iload_n 3, 1) := by decide +kernel
theorem dX8_best_49 : decode cX8_best 49 = .ok (.invokevirtual 180, 3) := by decide +kernel
theorem dX8_best_52 : decode cX8_best 52 = .ok (.invokevirtual 183, 3) := by decide +kernel
theorem dX8_best_55 : decode cX8_best 55 = .ok (.goto 17, 3) := by decide +kernel
theorem dX8_best_58 : decode cX8_best 58 = .ok (.iload_n 2, 1) := by decide +kernel
theorem dX8_best_59 : decode cX8_best 59 = .ok (.iconst 1, 1) := by decide +kernel
theorem dX8_best_60 : decode cX8_best 60 = .ok (.if_icmp .ne 7, 3) := by decide +kernel
theorem dX8_best_63 : decode cX8_best 63 = .ok (.iload_n 3, 1) := by decide +kernel
theorem dX8_best_64 : decode cX8_best 64 = .ok (.goto 8, 3) := by decide +kernel
theorem dX8_best_67 : decode cX8_best 67 = .ok (.aload_n 0, 1) := by decide +kernel
theorem dX8_best_68 : decode cX8_best 68 = .ok (.iload_n 3, 1) := by decide +kernel
theorem dX8_best_69 : decode cX8_best 69 = .ok (.invokevirtual 180, 3) := by decide +kernel
theorem dX8_best_72 : decode cX8_best 72 = .ok (.ireturn, 1) := by decide +kernel
set_option maxRecDepth 20000 in
theorem ggX8_many_X8_in : GoodIn wsX8_many wsX8_in := goodIn_r _ [5] (by decide +kernel) (by decide +kernel)
set_option maxRecDepth 20000 in
theorem gX8_many_X8_in : GoodIn wsX8_many (va_wsS RX8 56 yX8_in wsX8_in) := goodIn_app (goodIn_of _ (by decide +kernel)) ggX8_many_X8_in
set_option maxRecDepth 20000 in
theorem ggX8_many_X8_ones : GoodIn wsX8_many wsX8_ones := goodIn_r _ [8] (by decide +kernel) (by decide +kernel)
set_option maxRecDepth 20000 in
theorem gX8_many_X8_ones : GoodIn wsX8_many (va_wsS RX8 91 yX8_ones wsX8_ones) := goodIn_app (goodIn_of _ (by decide +kernel)) ggX8_many_X8_ones
set_option maxRecDepth 20000 in
theorem ggX8_many_X8_isLawful : GoodIn wsX8_many wsX8_isLawful := goodIn_r _ [12, 13, 14, 15, 4, 16, 17, 18, 19, 20, 21, 22, 6, 7, 8, 23, 24, 25, 26, 27, 28, 29, 30, 31, 32, 33, 34, 35, 36, 37, 38, 39, 40, 41, 42, 43, 44, 45, 46, 47, 48] (by decide +kernel) (by decide +kernel)
set_option maxRecDepth 20000 in
theorem gX8_many_X8_isLawful : GoodIn wsX8_many (wsV RX8 186 RX8 yX8_isLawful wsX8_isLawful) := goodIn_app (goodIn_of _ (by decide +kernel)) ggX8_many_X8_isLawful
theorem dX8_many_0 : decode cX8_many 0 = .ok (.iload_n 1, 1) := by decide +kernel
theorem dX8_many_1 : decode cX8_many 1 = .ok (.i2l, 1) := by decide +kernel
theorem dX8_many_2 : decode cX8_many 2 = .ok (.lconst 0, 1) := by decide +kernel
theorem dX8_many_3 : decode cX8_many 3 = .ok (.ldc2_w 143, 3) := by decide +kernel
theorem dX8_many_6 : decode cX8_many 6 = .ok (.invokestatic 56, 3) := by decide +kernel
theorem dX8_many_9 : decode cX8_many 9 = .ok (.ifCond .ne 6, 3) := by decide +kernel
theorem dX8_many_12 : decode cX8_many 12 = .ok (.bipush (-2), 2) := by decide +kernel
theorem dX8_many_14 : decode cX8_many 14 = .ok (.ireturn, 1) := by decide +kernel
theorem dX8_many_15 : decode cX8_many 15 = .ok (.iconst 0, 1) := by decide +kernel
theorem dX8_many_16 : decode cX8_many 16 = .ok (.istore_n 2, 1) := by decide +kernel
theorem dX8_many_17 : decode cX8_many 17 = .ok (.iconst 0, 1) := by decide +kernel
theorem dX8_many_18 : decode cX8_many 18 = .ok (.istore_n 3, 1) := by decide +kernel
theorem dX8_many_19 : decode cX8_many 19 = .ok (.iload_n 3, 1) := by decide +kernel
theorem dX8_many_20 : decode cX8_many 20 = .ok (.sipush 4096, 3) := by decide +kernel
theorem dX8_many_23 : decode cX8_many 23 = .ok (.if_icmp .ge 33, 3) := by decide +kernel
theorem dX8_many_26 : decode cX8_many 26 = .ok (.iload_n 2, 1) := by decide +kernel
theorem dX8_many_27 : decode cX8_many 27 = .ok (.iload_n 3, 1) := by decide +kernel
theorem dX8_many_28 : decode cX8_many 28 = .ok (.invokestatic 91, 3) := by decide +kernel
theorem dX8_many_31 : decode cX8_many 31 = .ok (.iload_n 1, 1) := by decide +kernel
theorem dX8_many_32 : decode cX8_many 32 = .ok (.if_icmp .ne 15, 3) := by decide +kernel
theorem dX8_many_35 : decode cX8_many 35 = .ok (.aload_n 0, 1) := by decide +kernel
theorem dX8_many_36 : decode cX8_many 36 = .ok (.iload_n 3, 1) := by decide +kernel
theorem dX8_many_37 : decode cX8_many 37 = .ok (.invokevirtual 186, 3) := by decide +kernel
theorem dX8_many_40 : decode cX8_many 40 = .ok (.ifCond .eq 7, 3) := by decide +kernel
theorem dX8_many_43 : decode cX8_many 43 = .ok (.iconst 1, 1) := by decide +kernel
theorem dX8_many_44 : decode cX8_many 44 = .ok (.goto 4, 3) := by decide +kernel
theorem dX8_many_47 : decode cX8_many 47 = .ok (.iconst 0, 1) := by decide +kernel
theorem dX8_many_48 : decode cX8_many 48 = .ok (.iadd, 1) := by decide +kernel
theorem dX8_many_49 : decode cX8_many 49 = .ok (.istore_n 2, 1) := by decide +kernel
theorem dX8_many_50 : decode cX8_many 50 = .ok (.iinc 3 1, 3) := by decide +kernel
theorem dX8_many_53 : decode cX8_many 53 = .ok (.goto (-34), 3) := by decide +kernel
theorem dX8_many_56 : decode cX8_many 56 = .ok (.iload_n 2, 1) := by decide +kernel
theorem dX8_many_57 : decode cX8_many 57 = .ok (.ireturn, 1) := by decide +kernel
set_option maxRecDepth 20000 in
theorem ggX8_bars_X8_isWish : GoodIn wsX8_bars wsX8_isWish := goodIn_r _ [6, 7, 8, 9, 5, 10, 41, 42, 43, 44, 45, 46, 47, 48, 49, 50, 51, 52, 53, 54, 55, 56, 57, 58, 59, 60, 61, 62, 63, 64, 65, 66] (by decide +kernel) (by decide +kernel)
set_option maxRecDepth 20000 in
theorem gX8_bars_X8_isWish : GoodIn wsX8_bars (wsV RX8 136 RX8 yX8_isWish wsX8_isWish) := goodIn_app (goodIn_of _ (by decide +kernel)) ggX8_bars_X8_isWish
set_option maxRecDepth 20000 in
theorem ggX8_bars_X8_in : GoodIn wsX8_bars wsX8_in := goodIn_r _ [10] (by decide +kernel) (by decide +kernel)
set_option maxRecDepth 20000 in
theorem gX8_bars_X8_in : GoodIn wsX8_bars (va_wsS RX8 56 yX8_in wsX8_in) := goodIn_app (goodIn_of _ (by decide +kernel)) ggX8_bars_X8_in
set_option maxRecDepth 20000 in
theorem ggX8_bars_X8_ones : GoodIn wsX8_bars wsX8_ones := goodIn_r _ [13] (by decide +kernel) (by decide +kernel)
set_option maxRecDepth 20000 in
theorem gX8_bars_X8_ones : GoodIn wsX8_bars (va_wsS RX8 91 yX8_ones wsX8_ones) := goodIn_app (goodIn_of _ (by decide +kernel)) ggX8_bars_X8_ones
set_option maxRecDepth 20000 in
theorem ggX8_bars_X8_isLawful : GoodIn wsX8_bars wsX8_isLawful := goodIn_r _ [17, 18, 19, 20, 5, 21, 22, 23, 24, 25, 26, 27, 11, 12, 13, 41, 42, 43, 44, 45, 46, 47, 48, 49, 50, 51, 52, 53, 54, 55, 56, 57, 58, 59, 60, 61, 62, 63, 64, 65, 66] (by decide +kernel) (by decide +kernel)
set_option maxRecDepth 20000 in
theorem gX8_bars_X8_isLawful : GoodIn wsX8_bars (wsV RX8 186 RX8 yX8_isLawful wsX8_isLawful) := goodIn_app (goodIn_of _ (by decide +kernel)) ggX8_bars_X8_isLawful
set_option maxRecDepth 20000 in
theorem ggX8_bars_X8_granted : GoodIn wsX8_bars wsX8_granted := goodIn_r _ [31, 7, 32, 33, 34, 5, 35, 36, 19, 20, 21, 22, 23, 24, 25, 26, 27, 37, 38, 39, 40, 41, 42, 43, 44, 45, 46, 47, 48, 49, 50, 51, 52, 53, 54, 55, 56, 57, 58, 59, 60, 61, 62, 63, 64, 65, 66] (by decide +kernel) (by decide +kernel)
set_option maxRecDepth 20000 in
theorem gX8_bars_X8_granted : GoodIn wsX8_bars (wsV RX8 180 RX8 yX8_granted wsX8_granted) := goodIn_app (goodIn_of _ (by decide +kernel)) ggX8_bars_X8_granted
theorem dX8_bars_0 : decode cX8_bars 0 = .ok (.aload_n 0, 1) := by decide +kernel
theorem dX8_bars_1 : decode cX8_bars 1 = .ok (.iload_n 1, 1) := by decide +kernel
theorem dX8_bars_2 : decode cX8_bars 2 = .ok (.invokevirtual 136, 3) := by decide +kernel
theorem dX8_bars_5 : decode cX8_bars 5 = .ok (.ifCond .ne 5, 3) := by decide +kernel
theorem dX8_bars_8 : decode cX8_bars 8 = .ok (.iconst (-1), 1) := by decide +kernel
theorem dX8_bars_9 : decode cX8_bars 9 = .ok (.ireturn, 1) := by decide +kernel
theorem dX8_bars_10 : decode cX8_bars 10 = .ok (.iload_n 2, 1) := by decide +kernel
theorem dX8_bars_11 : decode cX8_bars 11 = .ok (.i2l, 1) := by decide +kernel
theorem dX8_bars_12 : decode cX8_bars 12 = .ok (.lconst 0, 1) := by decide +kernel
theorem dX8_bars_13 : decode cX8_bars 13 = .ok (.ldc2_w 143, 3) := by decide +kernel
theorem dX8_bars_16 : decode cX8_bars 16 = .ok (.invokestatic 56, 3) := by decide +kernel
theorem dX8_bars_19 : decode cX8_bars 19 = .ok (.ifCond .ne 6, 3) := by decide +kernel
theorem dX8_bars_22 : decode cX8_bars 22 = .ok (.bipush (-2), 2) := by decide +kernel
theorem dX8_bars_24 : decode cX8_bars 24 = .ok (.ireturn, 1) := by decide +kernel
theorem dX8_bars_25 : decode cX8_bars 25 = .ok (.iconst 0, 1) := by decide +kernel
theorem dX8_bars_26 : decode cX8_bars 26 = .ok (.istore_n 3, 1) := by decide +kernel
theorem dX8_bars_27 : decode cX8_bars 27 = .ok (.iconst 0, 1) := by decide +kernel
theorem dX8_bars_28 : decode cX8_bars 28 = .ok (.istore 4, 2) := by decide +kernel
theorem dX8_bars_30 : decode cX8_bars 30 = .ok (.iconst 0, 1) := by decide +kernel
theorem dX8_bars_31 : decode cX8_bars 31 = .ok (.istore 5, 2) := by decide +kernel
theorem dX8_bars_33 : decode cX8_bars 33 = .ok (.iload 5, 2) := by decide +kernel
theorem dX8_bars_35 : decode cX8_bars 35 = .ok (.sipush 4096, 3) := by decide +kernel
theorem dX8_bars_38 : decode cX8_bars 38 = .ok (.if_icmp .ge 61, 3) := by decide +kernel
theorem dX8_bars_41 : decode cX8_bars 41 = .ok (.iload 5, 2) := by decide +kernel
theorem dX8_bars_43 : decode cX8_bars 43 = .ok (.invokestatic 91, 3) := by decide +kernel
theorem dX8_bars_46 : decode cX8_bars 46 = .ok (.iload_n 2, 1) := by decide +kernel
theorem dX8_bars_47 : decode cX8_bars 47 = .ok (.if_icmp .gt 46, 3) := by decide +kernel
theorem dX8_bars_50 : decode cX8_bars 50 = .ok (.aload_n 0, 1) := by decide +kernel
theorem dX8_bars_51 : decode cX8_bars 51 = .ok (.iload 5, 2) := by decide +kernel
theorem dX8_bars_53 : decode cX8_bars 53 = .ok (.invokevirtual 186, 3) := by decide +kernel
theorem dX8_bars_56 : decode cX8_bars 56 = .ok (.ifCond .eq 37, 3) := by decide +kernel
theorem dX8_bars_59 : decode cX8_bars 59 = .ok (.aload_n 0, 1) := by decide +kernel
theorem dX8_bars_60 : decode cX8_bars 60 = .ok (.iload 5, 2) := by decide +kernel
theorem dX8_bars_62 : decode cX8_bars 62 = .ok (.invokevirtual 180, 3) := by decide +kernel
theorem dX8_bars_65 : decode cX8_bars 65 = .ok (.istore 6, 2) := by decide +kernel
theorem dX8_bars_67 : decode cX8_bars 67 = .ok (.iload_n 3, 1) := by decide +kernel
theorem dX8_bars_68 : decode cX8_bars 68 = .ok (.iload 6, 2) := by decide +kernel
theorem dX8_bars_70 : decode cX8_bars 70 = .ok (.ior, 1) := by decide +kernel
theorem dX8_bars_71 : decode cX8_bars 71 = .ok (.istore_n 3, 1) := by decide +kernel
theorem dX8_bars_72 : decode cX8_bars 72 = .ok (.iload 4, 2) := by decide +kernel
theorem dX8_bars_74 : decode cX8_bars 74 = .ok (.iload 6, 2) := by decide +kernel
theorem dX8_bars_76 : decode cX8_bars 76 = .ok (.iload_n 1, 1) := by decide +kernel
theorem dX8_bars_77 : decode cX8_bars 77 = .ok (.ishr, 1) := by decide +kernel
theorem dX8_bars_78 : decode cX8_bars 78 = .ok (.iconst 1, 1) := by decide +kernel
theorem dX8_bars_79 : decode cX8_bars 79 = .ok (.iand, 1) := by decide +kernel
theorem dX8_bars_80 : decode cX8_bars 80 = .ok (.iconst 1, 1) := by decide +kernel
theorem dX8_bars_81 : decode cX8_bars 81 = .ok (.if_icmp .ne 8, 3) := by decide +kernel
theorem dX8_bars_84 : decode cX8_bars 84 = .ok (.iload 6, 2) := by decide +kernel
theorem dX8_bars_86 : decode cX8_bars 86 = .ok (.goto 4, 3) := by decide +kernel
theorem dX8_bars_89 : decode cX8_bars 89 = .ok (.iconst 0, 1) := by decide +kernel
theorem dX8_bars_90 : decode cX8_bars 90 = .ok (.ior, 1) := by decide +kernel
theorem dX8_bars_91 : decode cX8_bars 91 = .ok (.istore 4, 2) := by decide +kernel
theorem dX8_bars_93 : decode cX8_bars 93 = .ok (.iinc 5 1, 3) := by decide +kernel
theorem dX8_bars_96 : decode cX8_bars 96 = .ok (.goto (-63), 3) := by decide +kernel
theorem dX8_bars_99 : decode cX8_bars 99 = .ok (.iload_n 3, 1) := by decide +kernel
theorem dX8_bars_100 : decode cX8_bars 100 = .ok (.iload_n 1, 1) := by decide +kernel
theorem dX8_bars_101 : decode cX8_bars 101 = .ok (.ishr, 1) := by decide +kernel
theorem dX8_bars_102 : decode cX8_bars 102 = .ok (.iconst 1, 1) := by decide +kernel
theorem dX8_bars_103 : decode cX8_bars 103 = .ok (.iand, 1) := by decide +kernel
theorem dX8_bars_104 : decode cX8_bars 104 = .ok (.iconst 1, 1) := by decide +kernel
theorem dX8_bars_105 : decode cX8_bars 105 = .ok (.if_icmp .ne 12, 3) := by decide +kernel
theorem dX8_bars_108 : decode cX8_bars 108 = .ok (.iload_n 3, 1) := by decide +kernel
theorem dX8_bars_109 : decode cX8_bars 109 = .ok (.iload 4, 2) := by decide +kernel
theorem dX8_bars_111 : decode cX8_bars 111 = .ok (.iconst (-1), 1) := by decide +kernel
theorem dX8_bars_112 : decode cX8_bars 112 = .ok (.ixor, 1) := by decide +kernel
theorem dX8_bars_113 : decode cX8_bars 113 = .ok (.iand, 1) := by decide +kernel
theorem dX8_bars_114 : decode cX8_bars 114 = .ok (.goto 4, 3) := by decide +kernel
theorem dX8_bars_117 : decode cX8_bars 117 = .ok (.iconst 0, 1) := by decide +kernel
theorem dX8_bars_118 : decode cX8_bars 118 = .ok (.ireturn, 1) := by decide +kernel
set_option maxRecDepth 20000 in
theorem ggX8_loss_X8_isCell : GoodIn wsX8_loss wsX8_isCell := goodIn_r _ [5, 6, 7, 8, 4, 9] (by decide +kernel) (by decide +kernel)
set_option maxRecDepth 20000 in
theorem gX8_loss_X8_isCell : GoodIn wsX8_loss (va_wsS RX8 140 yX8_isCell wsX8_isCell) := goodIn_app (goodIn_of _ (by decide +kernel)) ggX8_loss_X8_isCell
set_option maxRecDepth 20000 in
theorem ggX8_loss_X8_has : GoodIn wsX8_loss wsX8_has := goodIn_r _ [12] (by decide +kernel) (by decide +kernel)
set_option maxRecDepth 20000 in
theorem gX8_loss_X8_has : GoodIn wsX8_loss (va_wsS RX8 148 yX8_has wsX8_has) := goodIn_app (goodIn_of _ (by decide +kernel)) ggX8_loss_X8_has
set_option maxRecDepth 20000 in
theorem ggX8_loss_X8_granted : GoodIn wsX8_loss wsX8_granted := goodIn_r _ [16, 17, 18, 19, 20, 4, 21, 22, 23, 24, 25, 26, 27, 28, 29, 30, 31, 32, 33, 34, 35, 40, 41, 42, 43, 44, 45, 46, 47, 48, 49, 50, 51, 52, 53, 54, 55, 56, 57, 58, 59, 60, 61, 62, 63, 64, 65] (by decide +kernel) (by decide +kernel)
set_option maxRecDepth 20000 in
theorem gX8_loss_X8_granted : GoodIn wsX8_loss (wsV RX8 180 RX8 yX8_granted wsX8_granted) := goodIn_app (goodIn_of _ (by decide +kernel)) ggX8_loss_X8_granted
set_option maxRecDepth 20000 in
theorem ggX8_loss_X8_worthOf : GoodIn wsX8_loss wsX8_worthOf := goodIn_r _ [39, 17, 22, 40, 41, 42, 43, 44, 45, 46, 47, 48, 49, 50, 51, 52, 53, 54, 55, 56, 57, 58, 59, 60, 61, 62, 63, 64, 65] (by decide +kernel) (by decide +kernel)
set_option maxRecDepth 20000 in
theorem gX8_loss_X8_worthOf : GoodIn wsX8_loss (wsV RX8 183 RX8 yX8_worthOf wsX8_worthOf) := goodIn_app (goodIn_of _ (by decide +kernel)) ggX8_loss_X8_worthOf
theorem dX8_loss_0 : decode cX8_loss 0 = .ok (.iload_n 1, 1) := by decide +kernel
theorem dX8_loss_1 : decode cX8_loss 1 = .ok (.invokestatic 140, 3) := by decide +kernel
theorem dX8_loss_4 : decode cX8_loss 4 = .ok (.ifCond .ne 5, 3) := by decide +kernel
theorem dX8_loss_7 : decode cX8_loss 7 = .ok (.iconst (-1), 1) := by decide +kernel
theorem dX8_loss_8 : decode cX8_loss 8 = .ok (.ireturn, 1) := by decide +kernel
theorem dX8_loss_9 : decode cX8_loss 9 = .ok (.aload_n 0, 1) := by decide +kernel
theorem dX8_loss_10 : decode cX8_loss 10 = .ok (.getfield 107, 3) := by decide +kernel
theorem dX8_loss_13 : decode cX8_loss 13 = .ok (.iload_n 1, 1) := by decide +kernel
theorem dX8_loss_14 : decode cX8_loss 14 = .ok (.invokestatic 148, 3) := by decide +kernel
theorem dX8_loss_17 : decode cX8_loss 17 = .ok (.ifCond .ne 6, 3) := by decide +kernel
theorem dX8_loss_20 : decode cX8_loss 20 = .ok (.bipush (-3), 2) := by decide +kernel
theorem dX8_loss_22 : decode cX8_loss 22 = .ok (.ireturn, 1) := by decide +kernel
theorem dX8_loss_23 : decode cX8_loss 23 = .ok (.aload_n 0, 1) := by decide +kernel
theorem dX8_loss_24 : decode cX8_loss 24 = .ok (.aload_n 0, 1) := by decide +kernel
theorem dX8_loss_25 : decode cX8_loss 25 = .ok (.aload_n 0, 1) := by decide +kernel
theorem dX8_loss_26 : decode cX8_loss 26 = .ok (.getfield 107, 3) := by decide +kernel
theorem dX8_loss_29 : decode cX8_loss 29 = .ok (.invokevirtual 180, 3) := by decide +kernel
theorem dX8_loss_32 : decode cX8_loss 32 = .ok (.invokevirtual 183, 3) := by decide +kernel
theorem dX8_loss_35 : decode cX8_loss 35 = .ok (.aload_n 0, 1) := by decide +kernel
theorem dX8_loss_36 : decode cX8_loss 36 = .ok (.aload_n 0, 1) := by decide +kernel
theorem dX8_loss_37 : decode cX8_loss 37 = .ok (.aload_n 0, 1) := by decide +kernel
theorem dX8_loss_38 : decode cX8_loss 38 = .ok (.getfield 107, 3) := by decide +kernel
theorem dX8_loss_41 : decode cX8_loss 41 = .ok (.iconst 1, 1) := by decide +kernel
theorem dX8_loss_42 : decode cX8_loss 42 = .ok (.iload_n 1, 1) := by decide +kernel
theorem dX8_loss_43 : decode cX8_loss 43 = .ok (.ishl, 1) := by decide +kernel
theorem dX8_loss_44 : decode cX8_loss 44 = .ok (.iconst (-1), 1) := by decide +kernel
theorem dX8_loss_45 : decode cX8_loss 45 = .ok (.ixor, 1) := by decide +kernel
theorem dX8_loss_46 : decode cX8_loss 46 = .ok (.iand, 1) := by decide +kernel
theorem dX8_loss_47 : decode cX8_loss 47 = .ok (.invokevirtual 180, 3) := by decide +kernel
theorem dX8_loss_50 : decode cX8_loss 50 = .ok (.invokevirtual 183, 3) := by decide +kernel
theorem dX8_loss_53 : decode cX8_loss 53 = .ok (.isub, 1) := by decide +kernel
theorem dX8_loss_54 : decode cX8_loss 54 = .ok (.sipush 1000, 3) := by decide +kernel
theorem dX8_loss_57 : decode cX8_loss 57 = .ok (.iadd, 1) := by decide +kernel
theorem dX8_loss_58 : decode cX8_loss 58 = .ok (.ireturn, 1) := by decide +kernel
theorem dX8_far_0 : decode cX8_far 0 = .ok (.iload_n 0, 1) := by decide +kernel
theorem dX8_far_1 : decode cX8_far 1 = .ok (.bipush 6, 2) := by decide +kernel
theorem dX8_far_3 : decode cX8_far 3 = .ok (.irem, 1) := by decide +kernel
theorem dX8_far_4 : decode cX8_far 4 = .ok (.iload_n 1, 1) := by decide +kernel
theorem dX8_far_5 : decode cX8_far 5 = .ok (.bipush 6, 2) := by decide +kernel
theorem dX8_far_7 : decode cX8_far 7 = .ok (.irem, 1) := by decide +kernel
theorem dX8_far_8 : decode cX8_far 8 = .ok (.isub, 1) := by decide +kernel
theorem dX8_far_9 : decode cX8_far 9 = .ok (.istore_n 2, 1) := by decide +kernel
theorem dX8_far_10 : decode cX8_far 10 = .ok (.iload_n 2, 1) := by decide +kernel
theorem dX8_far_11 : decode cX8_far 11 = .ok (.ifCond .ge 10, 3) := by decide +kernel
theorem dX8_far_14 : decode cX8_far 14 = .ok (.iload_n 2, 1) := by decide +kernel
theorem dX8_far_15 : decode cX8_far 15 = .ok (.bipush 6, 2) := by decide +kernel
theorem dX8_far_17 : decode cX8_far 17 = .ok (.iadd, 1) := by decide +kernel
theorem dX8_far_18 : decode cX8_far 18 = .ok (.goto 4, 3) := by decide +kernel
theorem dX8_far_21 : decode cX8_far 21 = .ok (.iload_n 2, 1) := by decide +kernel
theorem dX8_far_22 : decode cX8_far 22 = .ok (.istore_n 2, 1) := by decide +kernel
theorem dX8_far_23 : decode cX8_far 23 = .ok (.iload_n 2, 1) := by decide +kernel
theorem dX8_far_24 : decode cX8_far 24 = .ok (.iconst 3, 1) := by decide +kernel
theorem dX8_far_25 : decode cX8_far 25 = .ok (.if_icmp .le 10, 3) := by decide +kernel
theorem dX8_far_28 : decode cX8_far 28 = .ok (.bipush 6, 2) := by decide +kernel
theorem dX8_far_30 : decode cX8_far 30 = .ok (.iload_n 2, 1) := by decide +kernel
theorem dX8_far_31 : decode cX8_far 31 = .ok (.isub, 1) := by decide +kernel
theorem dX8_far_32 : decode cX8_far 32 = .ok (.goto 4, 3) := by decide +kernel
theorem dX8_far_35 : decode cX8_far 35 = .ok (.iload_n 2, 1) := by decide +kernel
theorem dX8_far_36 : decode cX8_far 36 = .ok (.iload_n 0, 1) := by decide +kernel
theorem dX8_far_37 : decode cX8_far 37 = .ok (.bipush 6, 2) := by decide +kernel
theorem dX8_far_39 : decode cX8_far 39 = .ok (.idiv, 1) := by decide +kernel
theorem dX8_far_40 : decode cX8_far 40 = .ok (.iload_n 1, 1) := by decide +kernel
theorem dX8_far_41 : decode cX8_far 41 = .ok (.bipush 6, 2) := by decide +kernel
theorem dX8_far_43 : decode cX8_far 43 = .ok (.idiv, 1) := by decide +kernel
theorem dX8_far_44 : decode cX8_far 44 = .ok (.if_icmp .ne 7, 3) := by decide +kernel
theorem dX8_far_47 : decode cX8_far 47 = .ok (.iconst 0, 1) := by decide +kernel
theorem dX8_far_48 : decode cX8_far 48 = .ok (.goto 4, 3) := by decide +kernel
theorem dX8_far_51 : decode cX8_far 51 = .ok (.iconst 1, 1) := by decide +kernel
theorem dX8_far_52 : decode cX8_far 52 = .ok (.iadd, 1) := by decide +kernel
theorem dX8_far_53 : decode cX8_far 53 = .ok (.ireturn, 1) := by decide +kernel
set_option maxRecDepth 20000 in
theorem ggX8_ofSet_X8_has : GoodIn wsX8_ofSet wsX8_has := goodIn_r _ [4] (by decide +kernel) (by decide +kernel)
set_option maxRecDepth 20000 in
theorem gX8_ofSet_X8_has : GoodIn wsX8_ofSet (va_wsS RX8 148 yX8_has wsX8_has) := goodIn_app (goodIn_of _ (by decide +kernel)) ggX8_ofSet_X8_has
theorem dX8_ofSet_0 : decode cX8_ofSet 0 = .ok (.iload_n 1, 1) := by decide +kernel
theorem dX8_ofSet_1 : decode cX8_ofSet 1 = .ok (.istore_n 2, 1) := by decide +kernel
theorem dX8_ofSet_2 : decode cX8_ofSet 2 = .ok (.iconst 0, 1) := by decide +kernel
theorem dX8_ofSet_3 : decode cX8_ofSet 3 = .ok (.istore_n 3, 1) := by decide +kernel
theorem dX8_ofSet_4 : decode cX8_ofSet 4 = .ok (.iload_n 3, 1) := by decide +kernel
theorem dX8_ofSet_5 : decode cX8_ofSet 5 = .ok (.bipush 12, 2) := by decide +kernel
theorem dX8_ofSet_7 : decode cX8_ofSet 7 = .ok (.if_icmp .ge 26, 3) := by decide +kernel
theorem dX8_ofSet_10 : decode cX8_ofSet 10 = .ok (.iload_n 0, 1) := by decide +kernel
theorem dX8_ofSet_11 : decode cX8_ofSet 11 = .ok (.iload_n 3, 1) := by decide +kernel
theorem dX8_ofSet_12 : decode cX8_ofSet 12 = .ok (.invokestatic 148, 3) := by decide +kernel
theorem dX8_ofSet_15 : decode cX8_ofSet 15 = .ok (.ifCond .eq 12, 3) := by decide +kernel
theorem dX8_ofSet_18 : decode cX8_ofSet 18 = .ok (.iload_n 2, 1) := by decide +kernel
theorem dX8_ofSet_19 : decode cX8_ofSet 19 = .ok (.ifCond .ne 5, 3) := by decide +kernel
theorem dX8_ofSet_22 : decode cX8_ofSet 22 = .ok (.iload_n 3, 1) := by decide +kernel
theorem dX8_ofSet_23 : decode cX8_ofSet 23 = .ok (.ireturn, 1) := by decide +kernel
theorem dX8_ofSet_24 : decode cX8_ofSet 24 = .ok (.iinc 2 (-1), 3) := by decide +kernel
theorem dX8_ofSet_27 : decode cX8_ofSet 27 = .ok (.iinc 3 1, 3) := by decide +kernel
theorem dX8_ofSet_30 : decode cX8_ofSet 30 = .ok (.goto (-26), 3) := by decide +kernel
theorem dX8_ofSet_33 : decode cX8_ofSet 33 = .ok (.bipush (-9), 2) := by decide +kernel
theorem dX8_ofSet_35 : decode cX8_ofSet 35 = .ok (.ireturn, 1) := by decide +kernel
set_option maxRecDepth 20000 in
theorem ggX8_flow_X8_isHanging : GoodIn wsX8_flow wsX8_isHanging := goodIn_r _ [6, 7, 8, 9, 5, 10, 11, 12, 13] (by decide +kernel) (by decide +kernel)
set_option maxRecDepth 20000 in
theorem gX8_flow_X8_isHanging : GoodIn wsX8_flow (va_wsS RX8 177 yX8_isHanging wsX8_isHanging) := goodIn_app (goodIn_of _ (by decide +kernel)) ggX8_flow_X8_isHanging
set_option maxRecDepth 20000 in
theorem ggX8_flow_X8_ones : GoodIn wsX8_flow wsX8_ones := goodIn_r _ [13] (by decide +kernel) (by decide +kernel)
set_option maxRecDepth 20000 in
theorem gX8_flow_X8_ones : GoodIn wsX8_flow (va_wsS RX8 91 yX8_ones wsX8_ones) := goodIn_app (goodIn_of _ (by decide +kernel)) ggX8_flow_X8_ones
set_option maxRecDepth 20000 in
theorem ggX8_flow_X8_has : GoodIn wsX8_flow wsX8_has := goodIn_r _ [16] (by decide +kernel) (by decide +kernel)
set_option maxRecDepth 20000 in
theorem gX8_flow_X8_has : GoodIn wsX8_flow (va_wsS RX8 148 yX8_has wsX8_has) := goodIn_app (goodIn_of _ (by decide +kernel)) ggX8_flow_X8_has
set_option maxRecDepth 20000 in
theorem ggX8_flow_X8_ofSet : GoodIn wsX8_flow wsX8_ofSet := goodIn_r _ [19, 14, 15, 5, 16] (by decide +kernel) (by decide +kernel)
set_option maxRecDepth 20000 in
theorem gX8_flow_X8_ofSet : GoodIn wsX8_flow (va_wsS RX8 192 yX8_ofSet wsX8_ofSet) := goodIn_app (goodIn_of _ (by decide +kernel)) ggX8_flow_X8_ofSet
set_option maxRecDepth 20000 in
theorem ggX8_flow_X8_far : GoodIn wsX8_flow wsX8_far := goodIn_r _ [22] (by decide +kernel) (by decide +kernel)
set_option maxRecDepth 20000 in
theorem gX8_flow_X8_far : GoodIn wsX8_flow (va_wsS RX8 195 yX8_far wsX8_far) := goodIn_app (goodIn_of _ (by decide +kernel)) ggX8_flow_X8_far
theorem dX8_flow_0 : decode cX8_flow 0 = .ok (.iload_n 1, 1) := by decide +kernel
theorem dX8_flow_1 : decode cX8_flow 1 = .ok (.invokestatic 177, 3) := by decide +kernel
theorem dX8_flow_4 : decode cX8_flow 4 = .ok (.ifCond .ne 6, 3) := by decide +kernel
theorem dX8_flow_7 : decode cX8_flow 7 = .ok (.bipush (-2), 2) := by decide +kernel
theorem dX8_flow_9 : decode cX8_flow 9 = .ok (.ireturn, 1) := by decide +kernel
theorem dX8_flow_10 : decode cX8_flow 10 = .ok (.aload_n 0, 1) := by decide +kernel
theorem dX8_flow_11 : decode cX8_flow 11 = .ok (.getfield 107, 3) := by decide +kernel
theorem dX8_flow_14 : decode cX8_flow 14 = .ok (.invokestatic 91, 3) := by decide +kernel
theorem dX8_flow_17 : decode cX8_flow 17 = .ok (.istore_n 2, 1) := by decide +kernel
theorem dX8_flow_18 : decode cX8_flow 18 = .ok (.iload_n 1, 1) := by decide +kernel
theorem dX8_flow_19 : decode cX8_flow 19 = .ok (.invokestatic 91, 3) := by decide +kernel
theorem dX8_flow_22 : decode cX8_flow 22 = .ok (.iload_n 2, 1) := by decide +kernel
theorem dX8_flow_23 : decode cX8_flow 23 = .ok (.if_icmp .eq 6, 3) := by decide +kernel
theorem dX8_flow_26 : decode cX8_flow 26 = .ok (.bipush (-3), 2) := by decide +kernel
theorem dX8_flow_28 : decode cX8_flow 28 = .ok (.ireturn, 1) := by decide +kernel
theorem dX8_flow_29 : decode cX8_flow 29 = .ok (.iconst 0, 1) := by decide +kernel
theorem dX8_flow_30 : decode cX8_flow 30 = .ok (.istore_n 3, 1) := by decide +kernel
theorem dX8_flow_31 : decode cX8_flow 31 = .ok (.iload_n 3, 1) := by decide +kernel
theorem dX8_flow_32 : decode cX8_flow 32 = .ok (.iconst 1, 1) := by decide +kernel
theorem dX8_flow_33 : decode cX8_flow 33 = .ok (.iload_n 2, 1) := by decide +kernel
theorem dX8_flow_34 : decode cX8_flow 34 = .ok (.ishl, 1) := by decide +kernel
theorem dX8_flow_35 : decode cX8_flow 35 = .ok (.if_icmp .ge 120, 3) := by decide +kernel
theorem dX8_flow_38 : decode cX8_flow 38 = .ok (.iload_n 3, 1) := by decide +kernel
theorem dX8_flow_39 : decode cX8_flow 39 = .ok (.invokestatic 91, 3) := by decide +kernel
theorem dX8_flow_42 : decode cX8_flow 42 = .ok (.iconst 1, 1) := by decide +kernel
theorem dX8_flow_43 : decode cX8_flow 43 = .ok (.isub, 1) := by decide +kernel
theorem dX8_flow_44 : decode cX8_flow 44 = .ok (.istore 4, 2) := by decide +kernel
theorem dX8_flow_46 : decode cX8_flow 46 = .ok (.aload_n 0, 1) := by decide +kernel
theorem dX8_flow_47 : decode cX8_flow 47 = .ok (.getfield 28, 3) := by decide +kernel
theorem dX8_flow_50 : decode cX8_flow 50 = .ok (.iload_n 3, 1) := by decide +kernel
theorem dX8_flow_51 : decode cX8_flow 51 = .ok (.iload_n 3, 1) := by decide +kernel
theorem dX8_flow_52 : decode cX8_flow 52 = .ok (.ifCond .ne 7, 3) := by decide +kernel
theorem dX8_flow_55 : decode cX8_flow 55 = .ok (.iconst 0, 1) := by decide +kernel
theorem dX8_flow_56 : decode cX8_flow 56 = .ok (.goto 6, 3) := by decide +kernel
theorem dX8_flow_59 : decode cX8_flow 59 = .ok (.sipush 999, 3) := by decide +kernel
theorem dX8_flow_62 : decode cX8_flow 62 = .ok (.iastore, 1) := by decide +kernel
theorem dX8_flow_63 : decode cX8_flow 63 = .ok (.iconst 0, 1) := by decide +kernel
theorem dX8_flow_64 : decode cX8_flow 64 = .ok (.istore 5, 2) := by decide +kernel
theorem dX8_flow_66 : decode cX8_flow 66 = .ok (.iload 5, 2) := by decide +kernel
theorem dX8_flow_68 : decode cX8_flow 68 = .ok (.iload_n 2, 1) := by decide +kernel
theorem dX8_flow_69 : decode cX8_flow 69 = .ok (.if_icmp .ge 80, 3) := by decide +kernel
theorem dX8_flow_72 : decode cX8_flow 72 = .ok (.iload_n 3, 1) := by decide +kernel
theorem dX8_flow_73 : decode cX8_flow 73 = .ok (.iload 5, 2) := by decide +kernel
theorem dX8_flow_75 : decode cX8_flow 75 = .ok (.invokestatic 148, 3) := by decide +kernel
theorem dX8_flow_78 : decode cX8_flow 78 = .ok (.ifCond .eq 65, 3) := by decide +kernel
theorem dX8_flow_81 : decode cX8_flow 81 = .ok (.aload_n 0, 1) := by decide +kernel
theorem dX8_flow_82 : decode cX8_flow 82 = .ok (.getfield 28, 3) := by decide +kernel
theorem dX8_flow_85 : decode cX8_flow 85 = .ok (.iload_n 3, 1) := by decide +kernel
theorem dX8_flow_86 : decode cX8_flow 86 = .ok (.iconst 1, 1) := by decide +kernel
theorem dX8_flow_87 : decode cX8_flow 87 = .ok (.iload 5, 2) := by decide +kernel
theorem dX8_flow_89 : decode cX8_flow 89 = .ok (.ishl, 1) := by decide +kernel
theorem dX8_flow_90 : decode cX8_flow 90 = .ok (.iconst (-1), 1) := by decide +kernel
theorem dX8_flow_91 : decode cX8_flow 91 = .ok (.ixor, 1) := by decide +kernel
theorem dX8_flow_92 : decode cX8_flow 92 = .ok (.iand, 1) := by decide +kernel
theorem dX8_flow_93 : decode cX8_flow 93 = .ok (.iaload, 1) := by decide +kernel
theorem dX8_flow_94 : decode cX8_flow 94 = .ok (.aload_n 0, 1) := by decide +kernel
theorem dX8_flow_95 : decode cX8_flow 95 = .ok (.getfield 107, 3) := by decide +kernel
theorem dX8_flow_98 : decode cX8_flow 98 = .ok (.iload 4, 2) := by decide +kernel
theorem dX8_flow_100 : decode cX8_flow 100 = .ok (.invokestatic 192, 3) := by decide +kernel
theorem dX8_flow_103 : decode cX8_flow 103 = .ok (.iload_n 1, 1) := by decide +kernel
theorem dX8_flow_104 : decode cX8_flow 104 = .ok (.iload 5, 2) := by decide +kernel
theorem dX8_flow_106 : decode cX8_flow 106 = .ok (.invokestatic 192, 3) := by decide +kernel
theorem dX8_flow_109 : decode cX8_flow 109 = .ok (.invokestatic 195, 3) := by decide +kernel
theorem dX8_flow_112 : decode cX8_flow 112 = .ok (.iadd, 1) := by decide +kernel
theorem dX8_flow_113 : decode cX8_flow 113 = .ok (.istore 6, 2) := by decide +kernel
theorem dX8_flow_115 : decode cX8_flow 115 = .ok (.aload_n 0, 1) := by decide +kernel
theorem dX8_flow_116 : decode cX8_flow 116 = .ok (.getfield 28, 3) := by decide +kernel
theorem dX8_flow_119 : decode cX8_flow 119 = .ok (.iload_n 3, 1) := by decide +kernel
theorem dX8_flow_120 : decode cX8_flow 120 = .ok (.iload 6, 2) := by decide +kernel
theorem dX8_flow_122 : decode cX8_flow 122 = .ok (.aload_n 0, 1) := by decide +kernel
theorem dX8_flow_123 : decode cX8_flow 123 = .ok (.getfield 28, 3) := by decide +kernel
theorem dX8_flow_126 : decode cX8_flow 126 = .ok (.iload_n 3, 1) := by decide +kernel
theorem dX8_flow_127 : decode cX8_flow 127 = .ok (.iaload, 1) := by decide +kernel
theorem dX8_flow_128 : decode cX8_flow 128 = .ok (.if_icmp .ge 8, 3) := by decide +kernel
theorem dX8_flow_131 : decode cX8_flow 131 = .ok (.iload 6, 2) := by decide +kernel
theorem dX8_flow_133 : decode cX8_flow 133 = .ok (.goto 9, 3) := by decide +kernel
theorem dX8_flow_136 : decode cX8_flow 136 = .ok (.aload_n 0, 1) := by decide +kernel
theorem dX8_flow_137 : decode cX8_flow 137 = .ok (.getfield 28, 3) := by decide +kernel
theorem dX8_flow_140 : decode cX8_flow 140 = .ok (.iload_n 3, 1) := by decide +kernel
theorem dX8_flow_141 : decode cX8_flow 141 = .ok (.iaload, 1) := by decide +kernel
theorem dX8_flow_142 : decode cX8_flow 142 = .ok (.iastore, 1) := by decide +kernel
theorem dX8_flow_143 : decode cX8_flow 143 = .ok (.iinc 5 1, 3) := by decide +kernel
theorem dX8_flow_146 : decode cX8_flow 146 = .ok (.goto (-80), 3) := by decide +kernel
theorem dX8_flow_149 : decode cX8_flow 149 = .ok (.iinc 3 1, 3) := by decide +kernel
theorem dX8_flow_152 : decode cX8_flow 152 = .ok (.goto (-121), 3) := by decide +kernel
theorem dX8_flow_155 : decode cX8_flow 155 = .ok (.aload_n 0, 1) := by decide +kernel
theorem dX8_flow_156 : decode cX8_flow 156 = .ok (.getfield 28, 3) := by decide +kernel
theorem dX8_flow_159 : decode cX8_flow 159 = .ok (.iconst 1, 1) := by decide +kernel
theorem dX8_flow_160 : decode cX8_flow 160 = .ok (.iload_n 2, 1) := by decide +kernel
theorem dX8_flow_161 : decode cX8_flow 161 = .ok (.ishl, 1) := by decide +kernel
theorem dX8_flow_162 : decode cX8_flow 162 = .ok (.iconst 1, 1) := by decide +kernel
theorem dX8_flow_163 : decode cX8_flow 163 = .ok (.isub, 1) := by decide +kernel
theorem dX8_flow_164 : decode cX8_flow 164 = .ok (.iaload, 1) := by decide +kernel
theorem dX8_flow_165 : decode cX8_flow 165 = .ok (.ireturn, 1) := by decide +kernel
set_option maxRecDepth 20000 in
theorem ggX8_mostOf_X8_ones : GoodIn wsX8_mostOf wsX8_ones := goodIn_r _ [4] (by decide +kernel) (by decide +kernel)
set_option maxRecDepth 20000 in
theorem gX8_mostOf_X8_ones : GoodIn wsX8_mostOf (va_wsS RX8 91 yX8_ones wsX8_ones) := goodIn_app (goodIn_of _ (by decide +kernel)) ggX8_mostOf_X8_ones
set_option maxRecDepth 20000 in
theorem ggX8_mostOf_X8_isLawful : GoodIn wsX8_mostOf wsX8_isLawful := goodIn_r _ [8, 9, 10, 11, 3, 12, 13, 14, 15, 16, 17, 18, 1, 2, 4, 37, 38, 39, 40, 41, 42, 43, 44, 45, 46, 47, 48, 49, 50, 51, 52, 53, 54, 55, 56, 57, 58, 59, 60, 61, 62] (by decide +kernel) (by decide +kernel)
set_option maxRecDepth 20000 in
theorem gX8_mostOf_X8_isLawful : GoodIn wsX8_mostOf (wsV RX8 186 RX8 yX8_isLawful wsX8_isLawful) := goodIn_app (goodIn_of _ (by decide +kernel)) ggX8_mostOf_X8_isLawful
set_option maxRecDepth 20000 in
theorem ggX8_mostOf_X8_granted : GoodIn wsX8_mostOf wsX8_granted := goodIn_r _ [22, 23, 24, 25, 26, 3, 27, 28, 10, 11, 12, 13, 14, 15, 16, 17, 18, 29, 30, 31, 32, 37, 38, 39, 40, 41, 42, 43, 44, 45, 46, 47, 48, 49, 50, 51, 52, 53, 54, 55, 56, 57, 58, 59, 60, 61, 62] (by decide +kernel) (by decide +kernel)
set_option maxRecDepth 20000 in
theorem gX8_mostOf_X8_granted : GoodIn wsX8_mostOf (wsV RX8 180 RX8 yX8_granted wsX8_granted) := goodIn_app (goodIn_of _ (by decide +kernel)) ggX8_mostOf_X8_granted
set_option maxRecDepth 20000 in
theorem ggX8_mostOf_X8_worthOf : GoodIn wsX8_mostOf wsX8_worthOf := goodIn_r _ [36, 23, 28, 37, 38, 39, 40, 41, 42, 43, 44, 45, 46, 47, 48, 49, 50, 51, 52, 53, 54, 55, 56, 57, 58, 59, 60, 61, 62] (by decide +kernel) (by decide +kernel)
set_option maxRecDepth 20000 in
theorem gX8_mostOf_X8_worthOf : GoodIn wsX8_mostOf (wsV RX8 183 RX8 yX8_worthOf wsX8_worthOf) := goodIn_app (goodIn_of _ (by decide +kernel)) ggX8_mostOf_X8_worthOf
theorem dX8_mostOf_0 : decode cX8_mostOf 0 = .ok (.bipush (-9), 2) := by decide +kernel
theorem dX8_mostOf_2 : decode cX8_mostOf 2 = .ok (.istore_n 3, 1) := by decide +kernel
theorem dX8_mostOf_3 : decode cX8_mostOf 3 = .ok (.iconst 0, 1) := by decide +kernel
theorem dX8_mostOf_4 : decode cX8_mostOf 4 = .ok (.istore 4, 2) := by decide +kernel
theorem dX8_mostOf_6 : decode cX8_mostOf 6 = .ok (.iload 4, 2) := by decide +kernel
theorem dX8_mostOf_8 : decode cX8_mostOf 8 = .ok (.sipush 4096, 3) := by decide +kernel
theorem dX8_mostOf_11 : decode cX8_mostOf 11 = .ok (.if_icmp .ge 54, 3) := by decide +kernel
theorem dX8_mostOf_14 : decode cX8_mostOf 14 = .ok (.iload 4, 2) := by decide +kernel
theorem dX8_mostOf_16 : decode cX8_mostOf 16 = .ok (.invokestatic 91, 3) := by decide +kernel
theorem dX8_mostOf_19 : decode cX8_mostOf 19 = .ok (.iload_n 2, 1) := by decide +kernel
theorem dX8_mostOf_20 : decode cX8_mostOf 20 = .ok (.if_icmp .gt 39, 3) := by decide +kernel
theorem dX8_mostOf_23 : decode cX8_mostOf 23 = .ok (.aload_n 0, 1) := by decide +kernel
theorem dX8_mostOf_24 : decode cX8_mostOf 24 = .ok (.iload 4, 2) := by decide +kernel
theorem dX8_mostOf_26 : decode cX8_mostOf 26 = .ok (.invokevirtual 186, 3) := by decide +kernel
theorem dX8_mostOf_29 : decode cX8_mostOf 29 = .ok (.ifCond .eq 30, 3) := by decide +kernel
theorem dX8_mostOf_32 : decode cX8_mostOf 32 = .ok (.aload_n 0, 1) := by decide +kernel
theorem dX8_mostOf_33 : decode cX8_mostOf 33 = .ok (.aload_n 0, 1) := by decide +kernel
theorem dX8_mostOf_34 : decode cX8_mostOf 34 = .ok (.iload 4, 2) := by decide +kernel
theorem dX8_mostOf_36 : decode cX8_mostOf 36 = .ok (.invokevirtual 180, 3) := by decide +kernel
theorem dX8_mostOf_39 : decode cX8_mostOf 39 = .ok (.iload_n 1, 1) := by decide +kernel
theorem dX8_mostOf_40 : decode cX8_mostOf 40 = .ok (.iand, 1) := by decide +kernel
theorem dX8_mostOf_41 : decode cX8_mostOf 41 = .ok (.invokevirtual 183, 3) := by decide +kernel
theorem dX8_mostOf_44 : decode cX8_mostOf 44 = .ok (.istore 5, 2) := by decide +kernel
theorem dX8_mostOf_46 : decode cX8_mostOf 46 = .ok (.iload 5, 2) := by decide +kernel
theorem dX8_mostOf_48 : decode cX8_mostOf 48 = .ok (.iload_n 3, 1) := by decide +kernel
theorem dX8_mostOf_49 : decode cX8_mostOf 49 = .ok (.if_icmp .le 8, 3) := by decide +kernel
theorem dX8_mostOf_52 : decode cX8_mostOf 52 = .ok (.iload 5, 2) := by decide +kernel
theorem dX8_mostOf_54 : decode cX8_mostOf 54 = .ok (.goto 4, 3) := by decide +kernel
theorem dX8_mostOf_57 : decode cX8_mostOf 57 = .ok (.iload_n 3, 1) := by decide +kernel
theorem dX8_mostOf_58 : decode cX8_mostOf 58 = .ok (.istore_n 3, 1) := by decide +kernel
theorem dX8_mostOf_59 : decode cX8_mostOf 59 = .ok (.iinc 4 1, 3) := by decide +kernel
theorem dX8_mostOf_62 : decode cX8_mostOf 62 = .ok (.goto (-56), 3) := by decide +kernel
theorem dX8_mostOf_65 : decode cX8_mostOf 65 = .ok (.iload_n 3, 1) := by decide +kernel
theorem dX8_mostOf_66 : decode cX8_mostOf 66 = .ok (.ireturn, 1) := by decide +kernel
set_option maxRecDepth 20000 in
theorem ggX8_due_X8_isWish : GoodIn wsX8_due wsX8_isWish := goodIn_r _ [7, 2, 8, 9, 6, 10, 56, 57, 58, 59, 60, 61, 62, 63, 64, 65, 66, 67, 68, 69, 70, 71, 72, 73, 74, 75, 76, 77, 78, 79, 80, 81] (by decide +kernel) (by decide +kernel)
set_option maxRecDepth 20000 in
theorem gX8_due_X8_isWish : GoodIn wsX8_due (wsV RX8 136 RX8 yX8_isWish wsX8_isWish) := goodIn_app (goodIn_of _ (by decide +kernel)) ggX8_due_X8_isWish
set_option maxRecDepth 20000 in
theorem ggX8_due_X8_in : GoodIn wsX8_due wsX8_in := goodIn_r _ [10] (by decide +kernel) (by decide +kernel)
set_option maxRecDepth 20000 in
theorem gX8_due_X8_in : GoodIn wsX8_due (va_wsS RX8 56 yX8_in wsX8_in) := goodIn_app (goodIn_of _ (by decide +kernel)) ggX8_due_X8_in
set_option maxRecDepth 20000 in
theorem ggX8_due_X8_bestHanging : GoodIn wsX8_due wsX8_bestHanging := goodIn_r _ [14, 15, 16, 6, 17, 18, 19, 20, 21, 22, 23, 24, 25, 26, 27, 28, 29, 30, 31, 32, 33, 34, 35, 2, 36, 37, 38, 39, 40, 41, 42, 43, 44, 45, 46, 47, 48, 56, 57, 58, 59, 60, 61, 62, 63, 64, 65, 66, 67, 68, 69, 70, 71, 72, 73, 74, 75, 76, 77, 78, 79, 80, 81] (by decide +kernel) (by decide +kernel)
set_option maxRecDepth 20000 in
theorem gX8_due_X8_bestHanging : GoodIn wsX8_due (wsV RX8 189 RX8 yX8_bestHanging wsX8_bestHanging) := goodIn_app (goodIn_of _ (by decide +kernel)) ggX8_due_X8_bestHanging
set_option maxRecDepth 20000 in
theorem ggX8_due_X8_granted : GoodIn wsX8_due wsX8_granted := goodIn_r _ [35, 2, 36, 37, 38, 6, 39, 40, 23, 24, 25, 26, 27, 28, 29, 30, 31, 41, 42, 43, 44, 56, 57, 58, 59, 60, 61, 62, 63, 64, 65, 66, 67, 68, 69, 70, 71, 72, 73, 74, 75, 76, 77, 78, 79, 80, 81] (by decide +kernel) (by decide +kernel)
set_option maxRecDepth 20000 in
theorem gX8_due_X8_granted : GoodIn wsX8_due (wsV RX8 180 RX8 yX8_granted wsX8_granted) := goodIn_app (goodIn_of _ (by decide +kernel)) ggX8_due_X8_granted
set_option maxRecDepth 20000 in
theorem ggX8_due_X8_has : GoodIn wsX8_due wsX8_has := goodIn_r _ [51] (by decide +kernel) (by decide +kernel)
set_option maxRecDepth 20000 in
theorem gX8_due_X8_has : GoodIn wsX8_due (va_wsS RX8 148 yX8_has wsX8_has) := goodIn_app (goodIn_of _ (by decide +kernel)) ggX8_due_X8_has
set_option maxRecDepth 20000 in
theorem ggX8_due_X8_mostOf : GoodIn wsX8_due wsX8_mostOf := goodIn_r _ [55, 15, 16, 6, 17, 18, 19, 20, 21, 22, 23, 24, 25, 26, 27, 28, 29, 30, 31, 32, 33, 34, 35, 2, 36, 37, 38, 39, 40, 41, 42, 43, 44, 45, 46, 47, 48, 56, 57, 58, 59, 60, 61, 62, 63, 64, 65, 66, 67, 68, 69, 70, 71, 72, 73, 74, 75, 76, 77, 78, 79, 80, 81] (by decide +kernel) (by decide +kernel)
set_option maxRecDepth 20000 in
theorem gX8_due_X8_mostOf : GoodIn wsX8_due (wsV RX8 198 RX8 yX8_mostOf wsX8_mostOf) := goodIn_app (goodIn_of _ (by decide +kernel)) ggX8_due_X8_mostOf
set_option maxRecDepth 20000 in
theorem ggX8_due_X8_worthOf : GoodIn wsX8_due wsX8_worthOf := goodIn_r _ [48, 2, 40, 56, 57, 58, 59, 60, 61, 62, 63, 64, 65, 66, 67, 68, 69, 70, 71, 72, 73, 74, 75, 76, 77, 78, 79, 80, 81] (by decide +kernel) (by decide +kernel)
set_option maxRecDepth 20000 in
theorem gX8_due_X8_worthOf : GoodIn wsX8_due (wsV RX8 183 RX8 yX8_worthOf wsX8_worthOf) := goodIn_app (goodIn_of _ (by decide +kernel)) ggX8_due_X8_worthOf
theorem dX8_due_0 : decode cX8_due 0 = .ok (.aload_n 0, 1) := by decide +kernel
theorem dX8_due_1 : decode cX8_due 1 = .ok (.iload_n 1, 1) := by decide +kernel
theorem dX8_due_2 : decode cX8_due 2 = .ok (.invokevirtual 136, 3) := by decide +kernel
theorem dX8_due_5 : decode cX8_due 5 = .ok (.ifCond .ne 5, 3) := by decide +kernel
theorem dX8_due_8 : decode cX8_due 8 = .ok (.iconst (-1), 1) := by decide +kernel
theorem dX8_due_9 : decode cX8_due 9 = .ok (.ireturn, 1) := by decide +kernel
theorem dX8_due_10 : decode cX8_due 10 = .ok (.iload_n 2, 1) := by decide +kernel
theorem dX8_due_11 : decode cX8_due 11 = .ok (.i2l, 1) := by decide +kernel
theorem dX8_due_12 : decode cX8_due 12 = .ok (.lconst 0, 1) := by decide +kernel
theorem dX8_due_13 : decode cX8_due 13 = .ok (.ldc2_w 143, 3) := by decide +kernel
theorem dX8_due_16 : decode cX8_due 16 = .ok (.invokestatic 56, 3) := by decide +kernel
theorem dX8_due_19 : decode cX8_due 19 = .ok (.ifCond .ne 6, 3) := by decide +kernel
theorem dX8_due_22 : decode cX8_due 22 = .ok (.bipush (-2), 2) := by decide +kernel
theorem dX8_due_24 : decode cX8_due 24 = .ok (.ireturn, 1) := by decide +kernel
theorem dX8_due_25 : decode cX8_due 25 = .ok (.aload_n 0, 1) := by decide +kernel
theorem dX8_due_26 : decode cX8_due 26 = .ok (.iload_n 2, 1) := by decide +kernel
theorem dX8_due_27 : decode cX8_due 27 = .ok (.invokevirtual 189, 3) := by decide +kernel
theorem dX8_due_30 : decode cX8_due 30 = .ok (.istore_n 3, 1) := by decide +kernel
theorem dX8_due_31 : decode cX8_due 31 = .ok (.iload_n 3, 1) := by decide +kernel
theorem dX8_due_32 : decode cX8_due 32 = .ok (.bipush (-9), 2) := by decide +kernel
theorem dX8_due_34 : decode cX8_due 34 = .ok (.if_icmp .ne 6, 3) := by decide +kernel
theorem dX8_due_37 : decode cX8_due 37 = .ok (.bipush (-9), 2) := by decide +kernel
theorem dX8_due_39 : decode cX8_due 39 = .ok (.ireturn, 1) := by decide +kernel
theorem dX8_due_40 : decode cX8_due 40 = .ok (.iconst 1, 1) := by decide +kernel
theorem dX8_due_41 : decode cX8_due 41 = .ok (.aload_n 0, 1) := by decide +kernel
theorem dX8_due_42 : decode cX8_due 42 = .ok (.getfield 50, 3) := by decide +kernel
theorem dX8_due_45 : decode cX8_due 45 = .ok (.ishl, 1) := by decide +kernel
theorem dX8_due_46 : decode cX8_due 46 = .ok (.iconst 1, 1) := by decide +kernel
theorem dX8_due_47 : decode cX8_due 47 = .ok (.isub, 1) := by decide +kernel
theorem dX8_due_48 : decode cX8_due 48 = .ok (.iconst 1, 1) := by decide +kernel
theorem dX8_due_49 : decode cX8_due 49 = .ok (.iload_n 1, 1) := by decide +kernel
theorem dX8_due_50 : decode cX8_due 50 = .ok (.ishl, 1) := by decide +kernel
theorem dX8_due_51 : decode cX8_due 51 = .ok (.iconst (-1), 1) := by decide +kernel
theorem dX8_due_52 : decode cX8_due 52 = .ok (.ixor, 1) := by decide +kernel
theorem dX8_due_53 : decode cX8_due 53 = .ok (.iand, 1) := by decide +kernel
theorem dX8_due_54 : decode cX8_due 54 = .ok (.istore 4, 2) := by decide +kernel
theorem dX8_due_56 : decode cX8_due 56 = .ok (.aload_n 0, 1) := by decide +kernel
theorem dX8_due_57 : decode cX8_due 57 = .ok (.iload_n 3, 1) := by decide +kernel
theorem dX8_due_58 : decode cX8_due 58 = .ok (.invokevirtual 180, 3) := by decide +kernel
theorem dX8_due_61 : decode cX8_due 61 = .ok (.iload_n 1, 1) := by decide +kernel
theorem dX8_due_62 : decode cX8_due 62 = .ok (.invokestatic 148, 3) := by decide +kernel
theorem dX8_due_65 : decode cX8_due 65 = .ok (.ifCond .eq 26, 3) := by decide +kernel
theorem dX8_due_68 : decode cX8_due 68 = .ok (.aload_n 0, 1) := by decide +kernel
theorem dX8_due_69 : decode cX8_due 69 = .ok (.iload 4, 2) := by decide +kernel
theorem dX8_due_71 : decode cX8_due 71 = .ok (.iload_n 2, 1) := by decide +kernel
theorem dX8_due_72 : decode cX8_due 72 = .ok (.invokevirtual 198, 3) := by decide +kernel
theorem dX8_due_75 : decode cX8_due 75 = .ok (.aload_n 0, 1) := by decide +kernel
theorem dX8_due_76 : decode cX8_due 76 = .ok (.aload_n 0, 1) := by decide +kernel
theorem dX8_due_77 : decode cX8_due 77 = .ok (.iload_n 3, 1) := by decide +kernel
theorem dX8_due_78 : decode cX8_due 78 = .ok (.invokevirtual 180, 3) := by decide +kernel
theorem dX8_due_81 : decode cX8_due 81 = .ok (.iload 4, 2) := by decide +kernel
theorem dX8_due_83 : decode cX8_due 83 = .ok (.iand, 1) := by decide +kernel
theorem dX8_due_84 : decode cX8_due 84 = .ok (.invokevirtual 183, 3) := by decide +kernel
theorem dX8_due_87 : decode cX8_due 87 = .ok (.isub, 1) := by decide +kernel
theorem dX8_due_88 : decode cX8_due 88 = .ok (.goto 4, 3) := by decide +kernel
theorem dX8_due_91 : decode cX8_due 91 = .ok (.iconst 0, 1) := by decide +kernel
theorem dX8_due_92 : decode cX8_due 92 = .ok (.ireturn, 1) := by decide +kernel
theorem dX8_factorial_0 : decode cX8_factorial 0 = .ok (.iconst 1, 1) := by decide +kernel
theorem dX8_factorial_1 : decode cX8_factorial 1 = .ok (.istore_n 1, 1) := by decide +kernel
theorem dX8_factorial_2 : decode cX8_factorial 2 = .ok (.iconst 2, 1) := by decide +kernel
theorem dX8_factorial_3 : decode cX8_factorial 3 = .ok (.istore_n 2, 1) := by decide +kernel
theorem dX8_factorial_4 : decode cX8_factorial 4 = .ok (.iload_n 2, 1) := by decide +kernel
theorem dX8_factorial_5 : decode cX8_factorial 5 = .ok (.iload_n 0, 1) := by decide +kernel
theorem dX8_factorial_6 : decode cX8_factorial 6 = .ok (.if_icmp .gt 13, 3) := by decide +kernel
theorem dX8_factorial_9 : decode cX8_factorial 9 = .ok (.iload_n 1, 1) := by decide +kernel
theorem dX8_factorial_10 : decode cX8_factorial 10 = .ok (.iload_n 2, 1) := by decide +kernel
theorem dX8_factorial_11 : decode cX8_factorial 11 = .ok (.imul, 1) := by decide +kernel
theorem dX8_factorial_12 : decode cX8_factorial 12 = .ok (.istore_n 1, 1) := by decide +kernel
theorem dX8_factorial_13 : decode cX8_factorial 13 = .ok (.iinc 2 1, 3) := by decide +kernel
theorem dX8_factorial_16 : decode cX8_factorial 16 = .ok (.goto (-12), 3) := by decide +kernel
theorem dX8_factorial_19 : decode cX8_factorial 19 = .ok (.iload_n 1, 1) := by decide +kernel
theorem dX8_factorial_20 : decode cX8_factorial 20 = .ok (.ireturn, 1) := by decide +kernel
theorem dX8_common_0 : decode cX8_common 0 = .ok (.iload_n 0, 1) := by decide +kernel
theorem dX8_common_1 : decode cX8_common 1 = .ok (.istore_n 2, 1) := by decide +kernel
theorem dX8_common_2 : decode cX8_common 2 = .ok (.iload_n 1, 1) := by decide +kernel
theorem dX8_common_3 : decode cX8_common 3 = .ok (.istore_n 3, 1) := by decide +kernel
theorem dX8_common_4 : decode cX8_common 4 = .ok (.iload_n 3, 1) := by decide +kernel
theorem dX8_common_5 : decode cX8_common 5 = .ok (.ifCond .eq 16, 3) := by decide +kernel
theorem dX8_common_8 : decode cX8_common 8 = .ok (.iload_n 2, 1) := by decide +kernel
theorem dX8_common_9 : decode cX8_common 9 = .ok (.iload_n 3, 1) := by decide +kernel
theorem dX8_common_10 : decode cX8_common 10 = .ok (.irem, 1) := by decide +kernel
theorem dX8_common_11 : decode cX8_common 11 = .ok (.istore 4, 2) := by decide +kernel
theorem dX8_common_13 : decode cX8_common 13 = .ok (.iload_n 3, 1) := by decide +kernel
theorem dX8_common_14 : decode cX8_common 14 = .ok (.istore_n 2, 1) := by decide +kernel
theorem dX8_common_15 : decode cX8_common 15 = .ok (.iload 4, 2) := by decide +kernel
theorem dX8_common_17 : decode cX8_common 17 = .ok (.istore_n 3, 1) := by decide +kernel
theorem dX8_common_18 : decode cX8_common 18 = .ok (.goto (-14), 3) := by decide +kernel
theorem dX8_common_21 : decode cX8_common 21 = .ok (.iload_n 2, 1) := by decide +kernel
theorem dX8_common_22 : decode cX8_common 22 = .ok (.ireturn, 1) := by decide +kernel
set_option maxRecDepth 20000 in
theorem ggX8_layValues_X8_ones : GoodIn wsX8_layValues wsX8_ones := goodIn_r _ [6] (by decide +kernel) (by decide +kernel)
set_option maxRecDepth 20000 in
theorem gX8_layValues_X8_ones : GoodIn wsX8_layValues (va_wsS RX8 91 yX8_ones wsX8_ones) := goodIn_app (goodIn_of _ (by decide +kernel)) ggX8_layValues_X8_ones
set_option maxRecDepth 20000 in
theorem ggX8_layValues_X8_isLawful : GoodIn wsX8_layValues wsX8_isLawful := goodIn_r _ [10, 11, 12, 13, 5, 14, 15, 16, 17, 18, 19, 20, 3, 4, 6, 38, 39, 40, 41, 42, 43, 44, 45, 46, 47, 48, 49, 50, 51, 52, 53, 54, 55, 56, 57, 58, 59, 60, 61, 62, 63] (by decide +kernel) (by decide +kernel)
set_option maxRecDepth 20000 in
theorem gX8_layValues_X8_isLawful : GoodIn wsX8_layValues (wsV RX8 186 RX8 yX8_isLawful wsX8_isLawful) := goodIn_app (goodIn_of _ (by decide +kernel)) ggX8_layValues_X8_isLawful
set_option maxRecDepth 20000 in
theorem ggX8_layValues_X8_granted : GoodIn wsX8_layValues wsX8_granted := goodIn_r _ [24, 2, 25, 26, 27, 5, 28, 29, 12, 13, 14, 15, 16, 17, 18, 19, 20, 30, 31, 32, 33, 38, 39, 40, 41, 42, 43, 44, 45, 46, 47, 48, 49, 50, 51, 52, 53, 54, 55, 56, 57, 58, 59, 60, 61, 62, 63] (by decide +kernel) (by decide +kernel)
set_option maxRecDepth 20000 in
theorem gX8_layValues_X8_granted : GoodIn wsX8_layValues (wsV RX8 180 RX8 yX8_granted wsX8_granted) := goodIn_app (goodIn_of _ (by decide +kernel)) ggX8_layValues_X8_granted
set_option maxRecDepth 20000 in
theorem ggX8_layValues_X8_worthOf : GoodIn wsX8_layValues wsX8_worthOf := goodIn_r _ [37, 2, 29, 38, 39, 40, 41, 42, 43, 44, 45, 46, 47, 48, 49, 50, 51, 52, 53, 54, 55, 56, 57, 58, 59, 60, 61, 62, 63] (by decide +kernel) (by decide +kernel)
set_option maxRecDepth 20000 in
theorem gX8_layValues_X8_worthOf : GoodIn wsX8_layValues (wsV RX8 183 RX8 yX8_worthOf wsX8_worthOf) := goodIn_app (goodIn_of _ (by decide +kernel)) ggX8_layValues_X8_worthOf
theorem dX8_layValues_0 : decode cX8_layValues 0 = .ok (.iconst 0, 1) := by decide +kernel
theorem dX8_layValues_1 : decode cX8_layValues 1 = .ok (.istore_n 2, 1) := by decide +kernel
theorem dX8_layValues_2 : decode cX8_layValues 2 = .ok (.iload_n 2, 1) := by decide +kernel
theorem dX8_layValues_3 : decode cX8_layValues 3 = .ok (.bipush 32, 2) := by decide +kernel
theorem dX8_layValues_5 : decode cX8_layValues 5 = .ok (.if_icmp .ge 16, 3) := by decide +kernel
theorem dX8_layValues_8 : decode cX8_layValues 8 = .ok (.aload_n 0, 1) := by decide +kernel
theorem dX8_layValues_9 : decode cX8_layValues 9 = .ok (.getfield 31, 3) := by decide +kernel
theorem dX8_layValues_12 : decode cX8_layValues 12 = .ok (.iload_n 2, 1) := by decide +kernel
theorem dX8_layValues_13 : decode cX8_layValues 13 = .ok (.iconst 0, 1) := by decide +kernel
theorem dX8_layValues_14 : decode cX8_layValues 14 = .ok (.iastore, 1) := by decide +kernel
theorem dX8_layValues_15 : decode cX8_layValues 15 = .ok (.iinc 2 1, 3) := by decide +kernel
theorem dX8_layValues_18 : decode cX8_layValues 18 = .ok (.goto (-16), 3) := by decide +kernel
theorem dX8_layValues_21 : decode cX8_layValues 21 = .ok (.iconst 0, 1) := by decide +kernel
theorem dX8_layValues_22 : decode cX8_layValues 22 = .ok (.istore_n 2, 1) := by decide +kernel
theorem dX8_layValues_23 : decode cX8_layValues 23 = .ok (.iload_n 2, 1) := by decide +kernel
theorem dX8_layValues_24 : decode cX8_layValues 24 = .ok (.sipush 4096, 3) := by decide +kernel
theorem dX8_layValues_27 : decode cX8_layValues 27 = .ok (.if_icmp .ge 92, 3) := by decide +kernel
theorem dX8_layValues_30 : decode cX8_layValues 30 = .ok (.iload_n 2, 1) := by decide +kernel
theorem dX8_layValues_31 : decode cX8_layValues 31 = .ok (.invokestatic 91, 3) := by decide +kernel
theorem dX8_layValues_34 : decode cX8_layValues 34 = .ok (.iload_n 1, 1) := by decide +kernel
theorem dX8_layValues_35 : decode cX8_layValues 35 = .ok (.if_icmp .gt 78, 3) := by decide +kernel
theorem dX8_layValues_38 : decode cX8_layValues 38 = .ok (.aload_n 0, 1) := by decide +kernel
theorem dX8_layValues_39 : decode cX8_layValues 39 = .ok (.iload_n 2, 1) := by decide +kernel
theorem dX8_layValues_40 : decode cX8_layValues 40 = .ok (.invokevirtual 186, 3) := by decide +kernel
theorem dX8_layValues_43 : decode cX8_layValues 43 = .ok (.ifCond .eq 70, 3) := by decide +kernel
theorem dX8_layValues_46 : decode cX8_layValues 46 = .ok (.aload_n 0, 1) := by decide +kernel
theorem dX8_layValues_47 : decode cX8_layValues 47 = .ok (.iload_n 2, 1) := by decide +kernel
theorem dX8_layValues_48 : decode cX8_layValues 48 = .ok (.invokevirtual 180, 3) := by decide +kernel
theorem dX8_layValues_51 : decode cX8_layValues 51 = .ok (.istore_n 3, 1) := by decide +kernel
theorem dX8_layValues_52 : decode cX8_layValues 52 = .ok (.iconst 0, 1) := by decide +kernel
theorem dX8_layValues_53 : decode cX8_layValues 53 = .ok (.istore 4, 2) := by decide +kernel
theorem dX8_layValues_55 : decode cX8_layValues 55 = .ok (.iload 4, 2) := by decide +kernel
theorem dX8_layValues_57 : decode cX8_layValues 57 = .ok (.iconst 1, 1) := by decide +kernel
theorem dX8_layValues_58 : decode cX8_layValues 58 = .ok (.aload_n 0, 1) := by decide +kernel
theorem dX8_layValues_59 : decode cX8_layValues 59 = .ok (.getfield 50, 3) := by decide +kernel
theorem dX8_layValues_62 : decode cX8_layValues 62 = .ok (.ishl, 1) := by decide +kernel
theorem dX8_layValues_63 : decode cX8_layValues 63 = .ok (.if_icmp .ge 50, 3) := by decide +kernel
theorem dX8_layValues_66 : decode cX8_layValues 66 = .ok (.aload_n 0, 1) := by decide +kernel
theorem dX8_layValues_67 : decode cX8_layValues 67 = .ok (.iload_n 3, 1) := by decide +kernel
theorem dX8_layValues_68 : decode cX8_layValues 68 = .ok (.iload 4, 2) := by decide +kernel
theorem dX8_layValues_70 : decode cX8_layValues 70 = .ok (.iand, 1) := by decide +kernel
theorem dX8_layValues_71 : decode cX8_layValues 71 = .ok (.invokevirtual 183, 3) := by decide +kernel
theorem dX8_layValues_74 : decode cX8_layValues 74 = .ok (.istore 5, 2) := by decide +kernel
theorem dX8_layValues_76 : decode cX8_layValues 76 = .ok (.aload_n 0, 1) := by decide +kernel
theorem dX8_layValues_77 : decode cX8_layValues 77 = .ok (.getfield 31, 3) := by decide +kernel
theorem dX8_layValues_80 : decode cX8_layValues 80 = .ok (.iload 4, 2) := by decide +kernel
theorem dX8_layValues_82 : decode cX8_layValues 82 = .ok (.iload 5, 2) := by decide +kernel
theorem dX8_layValues_84 : decode cX8_layValues 84 = .ok (.aload_n 0, 1) := by decide +kernel
theorem dX8_layValues_85 : decode cX8_layValues 85 = .ok (.getfield 31, 3) := by decide +kernel
theorem dX8_layValues_88 : decode cX8_layValues 88 = .ok (.iload 4, 2) := by decide +kernel
theorem dX8_layValues_90 : decode cX8_layValues 90 = .ok (.iaload, 1) := by decide +kernel
theorem dX8_layValues_91 : decode cX8_layValues 91 = .ok (.if_icmp .le 8, 3) := by decide +kernel
theorem dX8_layValues_94 : decode cX8_layValues 94 = .ok (.iload 5, 2) := by decide +kernel
theorem dX8_layValues_96 : decode cX8_layValues 96 = .ok (.goto 10, 3) := by decide +kernel
theorem dX8_layValues_99 : decode cX8_layValues 99 = .ok (.aload_n 0, 1) := by decide +kernel
theorem dX8_layValues_100 : decode cX8_layValues 100 = .ok (.getfield 31, 3) := by decide +kernel
theorem dX8_layValues_103 : decode cX8_layValues 103 = .ok (.iload 4, 2) := by decide +kernel
theorem dX8_layValues_105 : decode cX8_layValues 105 = .ok (.iaload, 1) := by decide +kernel
theorem dX8_layValues_106 : decode cX8_layValues 106 = .ok (.iastore, 1) := by decide +kernel
theorem dX8_layValues_107 : decode cX8_layValues 107 = .ok (.iinc 4 1, 3) := by decide +kernel
theorem dX8_layValues_110 : decode cX8_layValues 110 = .ok (.goto (-55), 3) := by decide +kernel
theorem dX8_layValues_113 : decode cX8_layValues 113 = .ok (.iinc 2 1, 3) := by decide +kernel
theorem dX8_layValues_116 : decode cX8_layValues 116 = .ok (.goto (-93), 3) := by decide +kernel
theorem dX8_layValues_119 : decode cX8_layValues 119 = .ok (.return_, 1) := by decide +kernel
set_option maxRecDepth 20000 in
theorem ggX8_share_X8_isWish : GoodIn wsX8_share wsX8_isWish := goodIn_r _ [8, 2, 9, 10, 7, 11, 59, 60, 61, 62, 63, 64, 65, 66, 67, 68, 69, 70, 71, 72, 73, 74, 75, 76, 77, 78, 79, 80, 81, 82, 83, 84] (by decide +kernel) (by decide +kernel)
set_option maxRecDepth 20000 in
theorem gX8_share_X8_isWish : GoodIn wsX8_share (wsV RX8 136 RX8 yX8_isWish wsX8_isWish) := goodIn_app (goodIn_of _ (by decide +kernel)) ggX8_share_X8_isWish
set_option maxRecDepth 20000 in
theorem ggX8_share_X8_in : GoodIn wsX8_share wsX8_in := goodIn_r _ [11] (by decide +kernel) (by decide +kernel)
set_option maxRecDepth 20000 in
theorem gX8_share_X8_in : GoodIn wsX8_share (va_wsS RX8 56 yX8_in wsX8_in) := goodIn_app (goodIn_of _ (by decide +kernel)) ggX8_share_X8_in
set_option maxRecDepth 20000 in
theorem ggX8_share_X8_layValues : GoodIn wsX8_share wsX8_layValues := goodIn_r _ [15, 3, 2, 16, 17, 7, 18, 19, 20, 21, 22, 23, 24, 25, 26, 27, 28, 29, 30, 31, 32, 33, 34, 35, 36, 37, 38, 39, 40, 41, 42, 43, 44, 45, 46, 47, 48, 49, 59, 60, 61, 62, 63, 64, 65, 66, 67, 68, 69, 70, 71, 72, 73, 74, 75, 76, 77, 78, 79, 80, 81, 82, 83, 84] (by decide +kernel) (by decide +kernel)
set_option maxRecDepth 20000 in
theorem gX8_share_X8_layValues : GoodIn wsX8_share (wsV RX8 201 RX8 yX8_layValues wsX8_layValues) := goodIn_app (goodIn_of _ (by decide +kernel)) ggX8_share_X8_layValues
set_option maxRecDepth 20000 in
theorem ggX8_share_X8_has : GoodIn wsX8_share wsX8_has := goodIn_r _ [52] (by decide +kernel) (by decide +kernel)
set_option maxRecDepth 20000 in
theorem gX8_share_X8_has : GoodIn wsX8_share (va_wsS RX8 148 yX8_has wsX8_has) := goodIn_app (goodIn_of _ (by decide +kernel)) ggX8_share_X8_has
set_option maxRecDepth 20000 in
theorem ggX8_share_X8_ones : GoodIn wsX8_share wsX8_ones := goodIn_r _ [18] (by decide +kernel) (by decide +kernel)
set_option maxRecDepth 20000 in
theorem gX8_share_X8_ones : GoodIn wsX8_share (va_wsS RX8 91 yX8_ones wsX8_ones) := goodIn_app (goodIn_of _ (by decide +kernel)) ggX8_share_X8_ones
set_option maxRecDepth 20000 in
theorem ggX8_share_X8_factorial : GoodIn wsX8_share wsX8_factorial := goodIn_r _ [55] (by decide +kernel) (by decide +kernel)
set_option maxRecDepth 20000 in
theorem gX8_share_X8_factorial : GoodIn wsX8_share (va_wsS RX8 204 yX8_factorial wsX8_factorial) := goodIn_app (goodIn_of _ (by decide +kernel)) ggX8_share_X8_factorial
set_option maxRecDepth 20000 in
theorem ggX8_share_X8_common : GoodIn wsX8_share wsX8_common := goodIn_r _ [58] (by decide +kernel) (by decide +kernel)
set_option maxRecDepth 20000 in
theorem gX8_share_X8_common : GoodIn wsX8_share (va_wsS RX8 207 yX8_common wsX8_common) := goodIn_app (goodIn_of _ (by decide +kernel)) ggX8_share_X8_common
theorem dX8_share_0 : decode cX8_share 0 = .ok (.aload_n 0, 1) := by decide +kernel
theorem dX8_share_1 : decode cX8_share 1 = .ok (.iload_n 1, 1) := by decide +kernel
theorem dX8_share_2 : decode cX8_share 2 = .ok (.invokevirtual 136, 3) := by decide +kernel
theorem dX8_share_5 : decode cX8_share 5 = .ok (.ifCond .ne 5, 3) := by decide +kernel
theorem dX8_share_8 : decode cX8_share 8 = .ok (.iconst (-1), 1) := by decide +kernel
theorem dX8_share_9 : decode cX8_share 9 = .ok (.ireturn, 1) := by decide +kernel
theorem dX8_share_10 : decode cX8_share 10 = .ok (.iload_n 2, 1) := by decide +kernel
theorem dX8_share_11 : decode cX8_share 11 = .ok (.i2l, 1) := by decide +kernel
theorem dX8_share_12 : decode cX8_share 12 = .ok (.lconst 0, 1) := by decide +kernel
theorem dX8_share_13 : decode cX8_share 13 = .ok (.ldc2_w 143, 3) := by decide +kernel
theorem dX8_share_16 : decode cX8_share 16 = .ok (.invokestatic 56, 3) := by decide +kernel
theorem dX8_share_19 : decode cX8_share 19 = .ok (.ifCond .ne 6, 3) := by decide +kernel
theorem dX8_share_22 : decode cX8_share 22 = .ok (.bipush (-2), 2) := by decide +kernel
theorem dX8_share_24 : decode cX8_share 24 = .ok (.ireturn, 1) := by decide +kernel
theorem dX8_share_25 : decode cX8_share 25 = .ok (.aload_n 0, 1) := by decide +kernel
theorem dX8_share_26 : decode cX8_share 26 = .ok (.iload_n 2, 1) := by decide +kernel
theorem dX8_share_27 : decode cX8_share 27 = .ok (.invokevirtual 201, 3) := by decide +kernel
theorem dX8_share_30 : decode cX8_share 30 = .ok (.iconst 0, 1) := by decide +kernel
theorem dX8_share_31 : decode cX8_share 31 = .ok (.istore 4, 2) := by decide +kernel
theorem dX8_share_33 : decode cX8_share 33 = .ok (.iconst 0, 1) := by decide +kernel
theorem dX8_share_34 : decode cX8_share 34 = .ok (.istore 5, 2) := by decide +kernel
theorem dX8_share_36 : decode cX8_share 36 = .ok (.iload 5, 2) := by decide +kernel
theorem dX8_share_38 : decode cX8_share 38 = .ok (.iconst 1, 1) := by decide +kernel
theorem dX8_share_39 : decode cX8_share 39 = .ok (.aload_n 0, 1) := by decide +kernel
theorem dX8_share_40 : decode cX8_share 40 = .ok (.getfield 50, 3) := by decide +kernel
theorem dX8_share_43 : decode cX8_share 43 = .ok (.ishl, 1) := by decide +kernel
theorem dX8_share_44 : decode cX8_share 44 = .ok (.if_icmp .ge 71, 3) := by decide +kernel
theorem dX8_share_47 : decode cX8_share 47 = .ok (.iload 5, 2) := by decide +kernel
theorem dX8_share_49 : decode cX8_share 49 = .ok (.iload_n 1, 1) := by decide +kernel
theorem dX8_share_50 : decode cX8_share 50 = .ok (.invokestatic 148, 3) := by decide +kernel
theorem dX8_share_53 : decode cX8_share 53 = .ok (.ifCond .ne 56, 3) := by decide +kernel
theorem dX8_share_56 : decode cX8_share 56 = .ok (.iload 5, 2) := by decide +kernel
theorem dX8_share_58 : decode cX8_share 58 = .ok (.invokestatic 91, 3) := by decide +kernel
theorem dX8_share_61 : decode cX8_share 61 = .ok (.invokestatic 204, 3) := by decide +kernel
theorem dX8_share_64 : decode cX8_share 64 = .ok (.aload_n 0, 1) := by decide +kernel
theorem dX8_share_65 : decode cX8_share 65 = .ok (.getfield 50, 3) := by decide +kernel
theorem dX8_share_68 : decode cX8_share 68 = .ok (.iconst 1, 1) := by decide +kernel
theorem dX8_share_69 : decode cX8_share 69 = .ok (.isub, 1) := by decide +kernel
theorem dX8_share_70 : decode cX8_share 70 = .ok (.iload 5, 2) := by decide +kernel
theorem dX8_share_72 : decode cX8_share 72 = .ok (.invokestatic 91, 3) := by decide +kernel
theorem dX8_share_75 : decode cX8_share 75 = .ok (.isub, 1) := by decide +kernel
theorem dX8_share_76 : decode cX8_share 76 = .ok (.invokestatic 204, 3) := by decide +kernel
theorem dX8_share_79 : decode cX8_share 79 = .ok (.imul, 1) := by decide +kernel
theorem dX8_share_80 : decode cX8_share 80 = .ok (.istore 6, 2) := by decide +kernel
theorem dX8_share_82 : decode cX8_share 82 = .ok (.iload 4, 2) := by decide +kernel
theorem dX8_share_84 : decode cX8_share 84 = .ok (.iload 6, 2) := by decide +kernel
theorem dX8_share_86 : decode cX8_share 86 = .ok (.aload_n 0, 1) := by decide +kernel
theorem dX8_share_87 : decode cX8_share 87 = .ok (.getfield 31, 3) := by decide +kernel
theorem dX8_share_90 : decode cX8_share 90 = .ok (.iload 5, 2) := by decide +kernel
theorem dX8_share_92 : decode cX8_share 92 = .ok (.iconst 1, 1) := by decide +kernel
theorem dX8_share_93 : decode cX8_share 93 = .ok (.iload_n 1, 1) := by decide +kernel
theorem dX8_share_94 : decode cX8_share 94 = .ok (.ishl, 1) := by decide +kernel
theorem dX8_share_95 : decode cX8_share 95 = .ok (.ior, 1) := by decide +kernel
theorem dX8_share_96 : decode cX8_share 96 = .ok (.iaload, 1) := by decide +kernel
theorem dX8_share_97 : decode cX8_share 97 = .ok (.aload_n 0, 1) := by decide +kernel
theorem dX8_share_98 : decode cX8_share 98 = .ok (.getfield 31, 3) := by decide +kernel
theorem dX8_share_101 : decode cX8_share 101 = .ok (.iload 5, 2) := by decide +kernel
theorem dX8_share_103 : decode cX8_share 103 = .ok (.iaload, 1) := by decide +kernel
theorem dX8_share_104 : decode cX8_share 104 = .ok (.isub, 1) := by decide +kernel
theorem dX8_share_105 : decode cX8_share 105 = .ok (.imul, 1) := by decide +kernel
theorem dX8_share_106 : decode cX8_share 106 = .ok (.iadd, 1) := by decide +kernel
theorem dX8_share_107 : decode cX8_share 107 = .ok (.istore 4, 2) := by decide +kernel
theorem dX8_share_109 : decode cX8_share 109 = .ok (.iinc 5 1, 3) := by decide +kernel
theorem dX8_share_112 : decode cX8_share 112 = .ok (.goto (-76), 3) := by decide +kernel
theorem dX8_share_115 : decode cX8_share 115 = .ok (.aload_n 0, 1) := by decide +kernel
theorem dX8_share_116 : decode cX8_share 116 = .ok (.getfield 50, 3) := by decide +kernel
theorem dX8_share_119 : decode cX8_share 119 = .ok (.invokestatic 204, 3) := by decide +kernel
theorem dX8_share_122 : decode cX8_share 122 = .ok (.istore 5, 2) := by decide +kernel
theorem dX8_share_124 : decode cX8_share 124 = .ok (.iload_n 3, 1) := by decide +kernel
theorem dX8_share_125 : decode cX8_share 125 = .ok (.ifCond .eq 16, 3) := by decide +kernel
theorem dX8_share_128 : decode cX8_share 128 = .ok (.iload 4, 2) := by decide +kernel
theorem dX8_share_130 : decode cX8_share 130 = .ok (.iload 4, 2) := by decide +kernel
theorem dX8_share_132 : decode cX8_share 132 = .ok (.iload 5, 2) := by decide +kernel
theorem dX8_share_134 : decode cX8_share 134 = .ok (.invokestatic 207, 3) := by decide +kernel
theorem dX8_share_137 : decode cX8_share 137 = .ok (.idiv, 1) := by decide +kernel
theorem dX8_share_138 : decode cX8_share 138 = .ok (.goto 13, 3) := by decide +kernel
theorem dX8_share_141 : decode cX8_share 141 = .ok (.iload 5, 2) := by decide +kernel
theorem dX8_share_143 : decode cX8_share 143 = .ok (.iload 4, 2) := by decide +kernel
theorem dX8_share_145 : decode cX8_share 145 = .ok (.iload 5, 2) := by decide +kernel
theorem dX8_share_147 : decode cX8_share 147 = .ok (.invokestatic 207, 3) := by decide +kernel
theorem dX8_share_150 : decode cX8_share 150 = .ok (.idiv, 1) := by decide +kernel
theorem dX8_share_151 : decode cX8_share 151 = .ok (.ireturn, 1) := by decide +kernel
set_option maxRecDepth 20000 in
theorem ggX8_tell_X8_isCell : GoodIn wsX8_tell wsX8_isCell := goodIn_r _ [9, 10, 11, 12, 8, 13] (by decide +kernel) (by decide +kernel)
set_option maxRecDepth 20000 in
theorem gX8_tell_X8_isCell : GoodIn wsX8_tell (va_wsS RX8 140 yX8_isCell wsX8_isCell) := goodIn_app (goodIn_of _ (by decide +kernel)) ggX8_tell_X8_isCell
set_option maxRecDepth 20000 in
theorem ggX8_tell_X8_in : GoodIn wsX8_tell wsX8_in := goodIn_r _ [13] (by decide +kernel) (by decide +kernel)
set_option maxRecDepth 20000 in
theorem gX8_tell_X8_in : GoodIn wsX8_tell (va_wsS RX8 56 yX8_in wsX8_in) := goodIn_app (goodIn_of _ (by decide +kernel)) ggX8_tell_X8_in
theorem dX8_tell_0 : decode cX8_tell 0 = .ok (.iload_n 1, 1) := by decide +kernel
theorem dX8_tell_1 : decode cX8_tell 1 = .ok (.invokestatic 140, 3) := by decide +kernel
theorem dX8_tell_4 : decode cX8_tell 4 = .ok (.ifCond .ne 5, 3) := by decide +kernel
theorem dX8_tell_7 : decode cX8_tell 7 = .ok (.iconst (-1), 1) := by decide +kernel
theorem dX8_tell_8 : decode cX8_tell 8 = .ok (.ireturn, 1) := by decide +kernel
theorem dX8_tell_9 : decode cX8_tell 9 = .ok (.iload_n 2, 1) := by decide +kernel
theorem dX8_tell_10 : decode cX8_tell 10 = .ok (.i2l, 1) := by decide +kernel
theorem dX8_tell_11 : decode cX8_tell 11 = .ok (.lconst 0, 1) := by decide +kernel
theorem dX8_tell_12 : decode cX8_tell 12 = .ok (.ldc2_w 143, 3) := by decide +kernel
theorem dX8_tell_15 : decode cX8_tell 15 = .ok (.invokestatic 56, 3) := by decide +kernel
theorem dX8_tell_18 : decode cX8_tell 18 = .ok (.ifCond .ne 6, 3) := by decide +kernel
theorem dX8_tell_21 : decode cX8_tell 21 = .ok (.bipush (-2), 2) := by decide +kernel
theorem dX8_tell_23 : decode cX8_tell 23 = .ok (.ireturn, 1) := by decide +kernel
theorem dX8_tell_24 : decode cX8_tell 24 = .ok (.aload_n 0, 1) := by decide +kernel
theorem dX8_tell_25 : decode cX8_tell 25 = .ok (.getfield 210, 3) := by decide +kernel
theorem dX8_tell_28 : decode cX8_tell 28 = .ok (.bipush 6, 2) := by decide +kernel
theorem dX8_tell_30 : decode cX8_tell 30 = .ok (.if_icmp .ne 6, 3) := by decide +kernel
theorem dX8_tell_33 : decode cX8_tell 33 = .ok (.bipush (-4), 2) := by decide +kernel
theorem dX8_tell_35 : decode cX8_tell 35 = .ok (.ireturn, 1) := by decide +kernel
theorem dX8_tell_36 : decode cX8_tell 36 = .ok (.aload_n 0, 1) := by decide +kernel
theorem dX8_tell_37 : decode cX8_tell 37 = .ok (.getfield 34, 3) := by decide +kernel
theorem dX8_tell_40 : decode cX8_tell 40 = .ok (.aload_n 0, 1) := by decide +kernel
theorem dX8_tell_41 : decode cX8_tell 41 = .ok (.getfield 210, 3) := by decide +kernel
theorem dX8_tell_44 : decode cX8_tell 44 = .ok (.iload_n 1, 1) := by decide +kernel
theorem dX8_tell_45 : decode cX8_tell 45 = .ok (.iastore, 1) := by decide +kernel
theorem dX8_tell_46 : decode cX8_tell 46 = .ok (.aload_n 0, 1) := by decide +kernel
theorem dX8_tell_47 : decode cX8_tell 47 = .ok (.getfield 37, 3) := by decide +kernel
theorem dX8_tell_50 : decode cX8_tell 50 = .ok (.aload_n 0, 1) := by decide +kernel
theorem dX8_tell_51 : decode cX8_tell 51 = .ok (.getfield 210, 3) := by decide +kernel
theorem dX8_tell_54 : decode cX8_tell 54 = .ok (.iload_n 2, 1) := by decide +kernel
theorem dX8_tell_55 : decode cX8_tell 55 = .ok (.iastore, 1) := by decide +kernel
theorem dX8_tell_56 : decode cX8_tell 56 = .ok (.aload_n 0, 1) := by decide +kernel
theorem dX8_tell_57 : decode cX8_tell 57 = .ok (.getfield 40, 3) := by decide +kernel
theorem dX8_tell_60 : decode cX8_tell 60 = .ok (.aload_n 0, 1) := by decide +kernel
theorem dX8_tell_61 : decode cX8_tell 61 = .ok (.getfield 210, 3) := by decide +kernel
theorem dX8_tell_64 : decode cX8_tell 64 = .ok (.iload_n 3, 1) := by decide +kernel
theorem dX8_tell_65 : decode cX8_tell 65 = .ok (.bastore, 1) := by decide +kernel
theorem dX8_tell_66 : decode cX8_tell 66 = .ok (.aload_n 0, 1) := by decide +kernel
theorem dX8_tell_67 : decode cX8_tell 67 = .ok (.dup, 1) := by decide +kernel
theorem dX8_tell_68 : decode cX8_tell 68 = .ok (.getfield 210, 3) := by decide +kernel
theorem dX8_tell_71 : decode cX8_tell 71 = .ok (.iconst 1, 1) := by decide +kernel
theorem dX8_tell_72 : decode cX8_tell 72 = .ok (.iadd, 1) := by decide +kernel
theorem dX8_tell_73 : decode cX8_tell 73 = .ok (.putfield 210, 3) := by decide +kernel
theorem dX8_tell_76 : decode cX8_tell 76 = .ok (.aload_n 0, 1) := by decide +kernel
theorem dX8_tell_77 : decode cX8_tell 77 = .ok (.getfield 210, 3) := by decide +kernel
theorem dX8_tell_80 : decode cX8_tell 80 = .ok (.ireturn, 1) := by decide +kernel
theorem dX8_untell_0 : decode cX8_untell 0 = .ok (.aload_n 0, 1) := by decide +kernel
theorem dX8_untell_1 : decode cX8_untell 1 = .ok (.getfield 210, 3) := by decide +kernel
theorem dX8_untell_4 : decode cX8_untell 4 = .ok (.istore_n 1, 1) := by decide +kernel
theorem dX8_untell_5 : decode cX8_untell 5 = .ok (.aload_n 0, 1) := by decide +kernel
theorem dX8_untell_6 : decode cX8_untell 6 = .ok (.iconst 0, 1) := by decide +kernel
theorem dX8_untell_7 : decode cX8_untell 7 = .ok (.putfield 210, 3) := by decide +kernel
theorem dX8_untell_10 : decode cX8_untell 10 = .ok (.iload_n 1, 1) := by decide +kernel
theorem dX8_untell_11 : decode cX8_untell 11 = .ok (.ireturn, 1) := by decide +kernel
set_option maxRecDepth 20000 in
theorem ggX8_isTold_X8_isDark : GoodIn wsX8_isTold wsX8_isDark := goodIn_r _ [8, 9, 10, 7, 11] (by decide +kernel) (by decide +kernel)
set_option maxRecDepth 20000 in
theorem gX8_isTold_X8_isDark : GoodIn wsX8_isTold (va_wsS RX8 122 yX8_isDark wsX8_isDark) := goodIn_app (goodIn_of _ (by decide +kernel)) ggX8_isTold_X8_isDark
theorem dX8_isTold_0 : decode cX8_isTold 0 = .ok (.iconst 1, 1) := by decide +kernel
theorem dX8_isTold_1 : decode cX8_isTold 1 = .ok (.istore_n 2, 1) := by decide +kernel
theorem dX8_isTold_2 : decode cX8_isTold 2 = .ok (.iconst 0, 1) := by decide +kernel
theorem dX8_isTold_3 : decode cX8_isTold 3 = .ok (.istore_n 3, 1) := by decide +kernel
theorem dX8_isTold_4 : decode cX8_isTold 4 = .ok (.iload_n 3, 1) := by decide +kernel
theorem dX8_isTold_5 : decode cX8_isTold 5 = .ok (.aload_n 0, 1) := by decide +kernel
theorem dX8_isTold_6 : decode cX8_isTold 6 = .ok (.getfield 210, 3) := by decide +kernel
theorem dX8_isTold_9 : decode cX8_isTold 9 = .ok (.if_icmp .ge 44, 3) := by decide +kernel
theorem dX8_isTold_12 : decode cX8_isTold 12 = .ok (.iload_n 2, 1) := by decide +kernel
theorem dX8_isTold_13 : decode cX8_isTold 13 = .ok (.ifCond .eq 32, 3) := by decide +kernel
theorem dX8_isTold_16 : decode cX8_isTold 16 = .ok (.iload_n 1, 1) := by decide +kernel
theorem dX8_isTold_17 : decode cX8_isTold 17 = .ok (.aload_n 0, 1) := by decide +kernel
theorem dX8_isTold_18 : decode cX8_isTold 18 = .ok (.getfield 34, 3) := by decide +kernel
theorem dX8_isTold_21 : decode cX8_isTold 21 = .ok (.iload_n 3, 1) := by decide +kernel
theorem dX8_isTold_22 : decode cX8_isTold 22 = .ok (.iaload, 1) := by decide +kernel
theorem dX8_isTold_23 : decode cX8_isTold 23 = .ok (.aload_n 0, 1) := by decide +kernel
theorem dX8_isTold_24 : decode cX8_isTold 24 = .ok (.getfield 37, 3) := by decide +kernel
theorem dX8_isTold_27 : decode cX8_isTold 27 = .ok (.iload_n 3, 1) := by decide +kernel
theorem dX8_isTold_28 : decode cX8_isTold 28 = .ok (.iaload, 1) := by decide +kernel
theorem dX8_isTold_29 : decode cX8_isTold 29 = .ok (.invokestatic 122, 3) := by decide +kernel
theorem dX8_isTold_32 : decode cX8_isTold 32 = .ok (.aload_n 0, 1) := by decide +kernel
theorem dX8_isTold_33 : decode cX8_isTold 33 = .ok (.getfield 40, 3) := by decide +kernel
theorem dX8_isTold_36 : decode cX8_isTold 36 = .ok (.iload_n 3, 1) := by decide +kernel
theorem dX8_isTold_37 : decode cX8_isTold 37 = .ok (.baload, 1) := by decide +kernel
theorem dX8_isTold_38 : decode cX8_isTold 38 = .ok (.if_icmp .ne 7, 3) := by decide +kernel
theorem dX8_isTold_41 : decode cX8_isTold 41 = .ok (.iconst 1, 1) := by decide +kernel
theorem dX8_isTold_42 : decode cX8_isTold 42 = .ok (.goto 4, 3) := by decide +kernel
theorem dX8_isTold_45 : decode cX8_isTold 45 = .ok (.iconst 0, 1) := by decide +kernel
theorem dX8_isTold_46 : decode cX8_isTold 46 = .ok (.istore_n 2, 1) := by decide +kernel
theorem dX8_isTold_47 : decode cX8_isTold 47 = .ok (.iinc 3 1, 3) := by decide +kernel
theorem dX8_isTold_50 : decode cX8_isTold 50 = .ok (.goto (-46), 3) := by decide +kernel
theorem dX8_isTold_53 : decode cX8_isTold 53 = .ok (.iload_n 2, 1) := by decide +kernel
theorem dX8_isTold_54 : decode cX8_isTold 54 = .ok (.ireturn, 1) := by decide +kernel
set_option maxRecDepth 20000 in
theorem ggX8_fits_X8_in : GoodIn wsX8_fits wsX8_in := goodIn_r _ [6] (by decide +kernel) (by decide +kernel)
set_option maxRecDepth 20000 in
theorem gX8_fits_X8_in : GoodIn wsX8_fits (va_wsS RX8 56 yX8_in wsX8_in) := goodIn_app (goodIn_of _ (by decide +kernel)) ggX8_fits_X8_in
set_option maxRecDepth 20000 in
theorem ggX8_fits_X8_ones : GoodIn wsX8_fits wsX8_ones := goodIn_r _ [9] (by decide +kernel) (by decide +kernel)
set_option maxRecDepth 20000 in
theorem gX8_fits_X8_ones : GoodIn wsX8_fits (va_wsS RX8 91 yX8_ones wsX8_ones) := goodIn_app (goodIn_of _ (by decide +kernel)) ggX8_fits_X8_ones
set_option maxRecDepth 20000 in
theorem ggX8_fits_X8_isTold : GoodIn wsX8_fits wsX8_isTold := goodIn_r _ [13, 14, 15, 16, 17, 18, 19, 5, 20, 21, 22, 23, 24, 25, 26, 27, 28, 29, 30, 31, 32, 33, 34, 35, 36, 37, 38, 39, 40, 41, 42, 43, 44, 45, 46, 47, 48, 49] (by decide +kernel) (by decide +kernel)
set_option maxRecDepth 20000 in
theorem gX8_fits_X8_isTold : GoodIn wsX8_fits (wsV RX8 213 RX8 yX8_isTold wsX8_isTold) := goodIn_app (goodIn_of _ (by decide +kernel)) ggX8_fits_X8_isTold
theorem dX8_fits_0 : decode cX8_fits 0 = .ok (.iload_n 1, 1) := by decide +kernel
theorem dX8_fits_1 : decode cX8_fits 1 = .ok (.i2l, 1) := by decide +kernel
theorem dX8_fits_2 : decode cX8_fits 2 = .ok (.lconst 0, 1) := by decide +kernel
theorem dX8_fits_3 : decode cX8_fits 3 = .ok (.ldc2_w 143, 3) := by decide +kernel
theorem dX8_fits_6 : decode cX8_fits 6 = .ok (.invokestatic 56, 3) := by decide +kernel
theorem dX8_fits_9 : decode cX8_fits 9 = .ok (.ifCond .eq 15, 3) := by decide +kernel
theorem dX8_fits_12 : decode cX8_fits 12 = .ok (.iload_n 2, 1) := by decide +kernel
theorem dX8_fits_13 : decode cX8_fits 13 = .ok (.i2l, 1) := by decide +kernel
theorem dX8_fits_14 : decode cX8_fits 14 = .ok (.lconst 0, 1) := by decide +kernel
theorem dX8_fits_15 : decode cX8_fits 15 = .ok (.ldc2_w 166, 3) := by decide +kernel
theorem dX8_fits_18 : decode cX8_fits 18 = .ok (.invokestatic 56, 3) := by decide +kernel
theorem dX8_fits_21 : decode cX8_fits 21 = .ok (.ifCond .ne 6, 3) := by decide +kernel
theorem dX8_fits_24 : decode cX8_fits 24 = .ok (.bipush (-2), 2) := by decide +kernel
theorem dX8_fits_26 : decode cX8_fits 26 = .ok (.ireturn, 1) := by decide +kernel
theorem dX8_fits_27 : decode cX8_fits 27 = .ok (.iconst 0, 1) := by decide +kernel
theorem dX8_fits_28 : decode cX8_fits 28 = .ok (.istore_n 3, 1) := by decide +kernel
theorem dX8_fits_29 : decode cX8_fits 29 = .ok (.sipush 4095, 3) := by decide +kernel
theorem dX8_fits_32 : decode cX8_fits 32 = .ok (.istore 4, 2) := by decide +kernel
theorem dX8_fits_34 : decode cX8_fits 34 = .ok (.iconst 0, 1) := by decide +kernel
theorem dX8_fits_35 : decode cX8_fits 35 = .ok (.istore 5, 2) := by decide +kernel
theorem dX8_fits_37 : decode cX8_fits 37 = .ok (.iconst 0, 1) := by decide +kernel
theorem dX8_fits_38 : decode cX8_fits 38 = .ok (.istore 6, 2) := by decide +kernel
theorem dX8_fits_40 : decode cX8_fits 40 = .ok (.iload 6, 2) := by decide +kernel
theorem dX8_fits_42 : decode cX8_fits 42 = .ok (.sipush 4096, 3) := by decide +kernel
theorem dX8_fits_45 : decode cX8_fits 45 = .ok (.if_icmp .ge 44, 3) := by decide +kernel
theorem dX8_fits_48 : decode cX8_fits 48 = .ok (.iload 6, 2) := by decide +kernel
theorem dX8_fits_50 : decode cX8_fits 50 = .ok (.invokestatic 91, 3) := by decide +kernel
theorem dX8_fits_53 : decode cX8_fits 53 = .ok (.iload_n 1, 1) := by decide +kernel
theorem dX8_fits_54 : decode cX8_fits 54 = .ok (.if_icmp .ne 29, 3) := by decide +kernel
theorem dX8_fits_57 : decode cX8_fits 57 = .ok (.aload_n 0, 1) := by decide +kernel
theorem dX8_fits_58 : decode cX8_fits 58 = .ok (.iload 6, 2) := by decide +kernel
theorem dX8_fits_60 : decode cX8_fits 60 = .ok (.invokevirtual 213, 3) := by decide +kernel
theorem dX8_fits_63 : decode cX8_fits 63 = .ok (.ifCond .eq 20, 3) := by decide +kernel
theorem dX8_fits_66 : decode cX8_fits 66 = .ok (.iinc 3 1, 3) := by decide +kernel
theorem dX8_fits_69 : decode cX8_fits 69 = .ok (.iload 4, 2) := by decide +kernel
theorem dX8_fits_71 : decode cX8_fits 71 = .ok (.iload 6, 2) := by decide +kernel
theorem dX8_fits_73 : decode cX8_fits 73 = .ok (.iand, 1) := by decide +kernel
theorem dX8_fits_74 : decode cX8_fits 74 = .ok (.istore 4, 2) := by decide +kernel
theorem dX8_fits_76 : decode cX8_fits 76 = .ok (.iload 5, 2) := by decide +kernel
theorem dX8_fits_78 : decode cX8_fits 78 = .ok (.iload 6, 2) := by decide +kernel
theorem dX8_fits_80 : decode cX8_fits 80 = .ok (.ior, 1) := by decide +kernel
theorem dX8_fits_81 : decode cX8_fits 81 = .ok (.istore 5, 2) := by decide +kernel
theorem dX8_fits_83 : decode cX8_fits 83 = .ok (.iinc 6 1, 3) := by decide +kernel
theorem dX8_fits_86 : decode cX8_fits 86 = .ok (.goto (-46), 3) := by decide +kernel
theorem dX8_fits_89 : decode cX8_fits 89 = .ok (.iload_n 2, 1) := by decide +kernel
theorem dX8_fits_90 : decode cX8_fits 90 = .ok (.ifCond .ne 7, 3) := by decide +kernel
theorem dX8_fits_93 : decode cX8_fits 93 = .ok (.iload_n 3, 1) := by decide +kernel
theorem dX8_fits_94 : decode cX8_fits 94 = .ok (.goto 28, 3) := by decide +kernel
theorem dX8_fits_97 : decode cX8_fits 97 = .ok (.iload_n 3, 1) := by decide +kernel
theorem dX8_fits_98 : decode cX8_fits 98 = .ok (.ifCond .ne 8, 3) := by decide +kernel
theorem dX8_fits_101 : decode cX8_fits 101 = .ok (.bipush (-9), 2) := by decide +kernel
theorem dX8_fits_103 : decode cX8_fits 103 = .ok (.goto 19, 3) := by decide +kernel
theorem dX8_fits_106 : decode cX8_fits 106 = .ok (.iload_n 2, 1) := by decide +kernel
theorem dX8_fits_107 : decode cX8_fits 107 = .ok (.iconst 1, 1) := by decide +kernel
theorem dX8_fits_108 : decode cX8_fits 108 = .ok (.if_icmp .ne 8, 3) := by decide +kernel
theorem dX8_fits_111 : decode cX8_fits 111 = .ok (.iload 4, 2) := by decide +kernel
theorem dX8_fits_113 : decode cX8_fits 113 = .ok (.goto 9, 3) := by decide +kernel
theorem dX8_fits_116 : decode cX8_fits 116 = .ok (.sipush 4095, 3) := by decide +kernel
theorem dX8_fits_119 : decode cX8_fits 119 = .ok (.iload 5, 2) := by decide +kernel
theorem dX8_fits_121 : decode cX8_fits 121 = .ok (.isub, 1) := by decide +kernel
theorem dX8_fits_122 : decode cX8_fits 122 = .ok (.ireturn, 1) := by decide +kernel
set_option maxRecDepth 20000 in
theorem ggX8_wind_X8_in : GoodIn wsX8_wind wsX8_in := goodIn_r _ [6] (by decide +kernel) (by decide +kernel)
set_option maxRecDepth 20000 in
theorem gX8_wind_X8_in : GoodIn wsX8_wind (va_wsS RX8 56 yX8_in wsX8_in) := goodIn_app (goodIn_of _ (by decide +kernel)) ggX8_wind_X8_in
set_option maxRecDepth 20000 in
theorem ggX8_wind_X8_ones : GoodIn wsX8_wind wsX8_ones := goodIn_r _ [9] (by decide +kernel) (by decide +kernel)
set_option maxRecDepth 20000 in
theorem gX8_wind_X8_ones : GoodIn wsX8_wind (va_wsS RX8 91 yX8_ones wsX8_ones) := goodIn_app (goodIn_of _ (by decide +kernel)) ggX8_wind_X8_ones
set_option maxRecDepth 20000 in
theorem ggX8_wind_X8_has : GoodIn wsX8_wind wsX8_has := goodIn_r _ [12] (by decide +kernel) (by decide +kernel)
set_option maxRecDepth 20000 in
theorem gX8_wind_X8_has : GoodIn wsX8_wind (va_wsS RX8 148 yX8_has wsX8_has) := goodIn_app (goodIn_of _ (by decide +kernel)) ggX8_wind_X8_has
set_option maxRecDepth 20000 in
theorem ggX8_wind_X8_ofSet : GoodIn wsX8_wind wsX8_ofSet := goodIn_r _ [15, 10, 11, 5, 12] (by decide +kernel) (by decide +kernel)
set_option maxRecDepth 20000 in
theorem gX8_wind_X8_ofSet : GoodIn wsX8_wind (va_wsS RX8 192 yX8_ofSet wsX8_ofSet) := goodIn_app (goodIn_of _ (by decide +kernel)) ggX8_wind_X8_ofSet
set_option maxRecDepth 20000 in
theorem ggX8_wind_X8_granted : GoodIn wsX8_wind wsX8_granted := goodIn_r _ [19, 20, 21, 22, 23, 5, 24, 25, 26, 27, 28, 29, 30, 31, 32, 33, 34, 35, 36, 37, 38, 46, 47, 48, 49, 50, 51, 52, 53, 54, 55, 56, 57, 58, 59, 60, 61, 62, 63, 64, 65, 66, 67, 68, 69, 70, 71] (by decide +kernel) (by decide +kernel)
set_option maxRecDepth 20000 in
theorem gX8_wind_X8_granted : GoodIn wsX8_wind (wsV RX8 180 RX8 yX8_granted wsX8_granted) := goodIn_app (goodIn_of _ (by decide +kernel)) ggX8_wind_X8_granted
set_option maxRecDepth 20000 in
theorem ggX8_wind_X8_worthOf : GoodIn wsX8_wind wsX8_worthOf := goodIn_r _ [42, 20, 25, 46, 47, 48, 49, 50, 51, 52, 53, 54, 55, 56, 57, 58, 59, 60, 61, 62, 63, 64, 65, 66, 67, 68, 69, 70, 71] (by decide +kernel) (by decide +kernel)
set_option maxRecDepth 20000 in
theorem gX8_wind_X8_worthOf : GoodIn wsX8_wind (wsV RX8 183 RX8 yX8_worthOf wsX8_worthOf) := goodIn_app (goodIn_of _ (by decide +kernel)) ggX8_wind_X8_worthOf
set_option maxRecDepth 20000 in
theorem ggX8_wind_X8_common : GoodIn wsX8_wind wsX8_common := goodIn_r _ [45] (by decide +kernel) (by decide +kernel)
set_option maxRecDepth 20000 in
theorem gX8_wind_X8_common : GoodIn wsX8_wind (va_wsS RX8 207 yX8_common wsX8_common) := goodIn_app (goodIn_of _ (by decide +kernel)) ggX8_wind_X8_common
theorem dX8_wind_0 : decode cX8_wind 0 = .ok (.iload_n 1, 1) := by decide +kernel
theorem dX8_wind_1 : decode cX8_wind 1 = .ok (.i2l, 1) := by decide +kernel
theorem dX8_wind_2 : decode cX8_wind 2 = .ok (.lconst 0, 1) := by decide +kernel
theorem dX8_wind_3 : decode cX8_wind 3 = .ok (.ldc2_w 216, 3) := by decide +kernel
theorem dX8_wind_6 : decode cX8_wind 6 = .ok (.invokestatic 56, 3) := by decide +kernel
theorem dX8_wind_9 : decode cX8_wind 9 = .ok (.ifCond .ne 6, 3) := by decide +kernel
theorem dX8_wind_12 : decode cX8_wind 12 = .ok (.bipush (-2), 2) := by decide +kernel
theorem dX8_wind_14 : decode cX8_wind 14 = .ok (.ireturn, 1) := by decide +kernel
theorem dX8_wind_15 : decode cX8_wind 15 = .ok (.aload_n 0, 1) := by decide +kernel
theorem dX8_wind_16 : decode cX8_wind 16 = .ok (.getfield 107, 3) := by decide +kernel
theorem dX8_wind_19 : decode cX8_wind 19 = .ok (.invokestatic 91, 3) := by decide +kernel
theorem dX8_wind_22 : decode cX8_wind 22 = .ok (.istore_n 3, 1) := by decide +kernel
theorem dX8_wind_23 : decode cX8_wind 23 = .ok (.iconst 0, 1) := by decide +kernel
theorem dX8_wind_24 : decode cX8_wind 24 = .ok (.istore 4, 2) := by decide +kernel
theorem dX8_wind_26 : decode cX8_wind 26 = .ok (.iconst 0, 1) := by decide +kernel
theorem dX8_wind_27 : decode cX8_wind 27 = .ok (.istore 5, 2) := by decide +kernel
theorem dX8_wind_29 : decode cX8_wind 29 = .ok (.iconst 0, 1) := by decide +kernel
theorem dX8_wind_30 : decode cX8_wind 30 = .ok (.istore 6, 2) := by decide +kernel
theorem dX8_wind_32 : decode cX8_wind 32 = .ok (.iload 6, 2) := by decide +kernel
theorem dX8_wind_34 : decode cX8_wind 34 = .ok (.iconst 1, 1) := by decide +kernel
theorem dX8_wind_35 : decode cX8_wind 35 = .ok (.iload_n 3, 1) := by decide +kernel
theorem dX8_wind_36 : decode cX8_wind 36 = .ok (.ishl, 1) := by decide +kernel
theorem dX8_wind_37 : decode cX8_wind 37 = .ok (.if_icmp .ge 108, 3) := by decide +kernel
theorem dX8_wind_40 : decode cX8_wind 40 = .ok (.iconst 1, 1) := by decide +kernel
theorem dX8_wind_41 : decode cX8_wind 41 = .ok (.istore 7, 2) := by decide +kernel
theorem dX8_wind_43 : decode cX8_wind 43 = .ok (.iconst 0, 1) := by decide +kernel
theorem dX8_wind_44 : decode cX8_wind 44 = .ok (.istore 8, 2) := by decide +kernel
theorem dX8_wind_46 : decode cX8_wind 46 = .ok (.iconst 0, 1) := by decide +kernel
theorem dX8_wind_47 : decode cX8_wind 47 = .ok (.istore 9, 2) := by decide +kernel
theorem dX8_wind_49 : decode cX8_wind 49 = .ok (.iload 9, 2) := by decide +kernel
theorem dX8_wind_51 : decode cX8_wind 51 = .ok (.iload_n 3, 1) := by decide +kernel
theorem dX8_wind_52 : decode cX8_wind 52 = .ok (.if_icmp .ge 62, 3) := by decide +kernel
theorem dX8_wind_55 : decode cX8_wind 55 = .ok (.iload 7, 2) := by decide +kernel
theorem dX8_wind_57 : decode cX8_wind 57 = .ok (.iload 6, 2) := by decide +kernel
theorem dX8_wind_59 : decode cX8_wind 59 = .ok (.iload 9, 2) := by decide +kernel
theorem dX8_wind_61 : decode cX8_wind 61 = .ok (.invokestatic 148, 3) := by decide +kernel
theorem dX8_wind_64 : decode cX8_wind 64 = .ok (.ifCond .eq 10, 3) := by decide +kernel
theorem dX8_wind_67 : decode cX8_wind 67 = .ok (.bipush 10, 2) := by decide +kernel
theorem dX8_wind_69 : decode cX8_wind 69 = .ok (.iload_n 1, 1) := by decide +kernel
theorem dX8_wind_70 : decode cX8_wind 70 = .ok (.isub, 1) := by decide +kernel
theorem dX8_wind_71 : decode cX8_wind 71 = .ok (.goto 4, 3) := by decide +kernel
theorem dX8_wind_74 : decode cX8_wind 74 = .ok (.iload_n 1, 1) := by decide +kernel
theorem dX8_wind_75 : decode cX8_wind 75 = .ok (.imul, 1) := by decide +kernel
theorem dX8_wind_76 : decode cX8_wind 76 = .ok (.istore 7, 2) := by decide +kernel
theorem dX8_wind_78 : decode cX8_wind 78 = .ok (.iload 8, 2) := by decide +kernel
theorem dX8_wind_80 : decode cX8_wind 80 = .ok (.iload 6, 2) := by decide +kernel
theorem dX8_wind_82 : decode cX8_wind 82 = .ok (.iload 9, 2) := by decide +kernel
theorem dX8_wind_84 : decode cX8_wind 84 = .ok (.invokestatic 148, 3) := by decide +kernel
theorem dX8_wind_87 : decode cX8_wind 87 = .ok (.ifCond .eq 17, 3) := by decide +kernel
theorem dX8_wind_90 : decode cX8_wind 90 = .ok (.iconst 1, 1) := by decide +kernel
theorem dX8_wind_91 : decode cX8_wind 91 = .ok (.aload_n 0, 1) := by decide +kernel
theorem dX8_wind_92 : decode cX8_wind 92 = .ok (.getfield 107, 3) := by decide +kernel
theorem dX8_wind_95 : decode cX8_wind 95 = .ok (.iload 9, 2) := by decide +kernel
theorem dX8_wind_97 : decode cX8_wind 97 = .ok (.invokestatic 192, 3) := by decide +kernel
theorem dX8_wind_100 : decode cX8_wind 100 = .ok (.ishl, 1) := by decide +kernel
theorem dX8_wind_101 : decode cX8_wind 101 = .ok (.goto 4, 3) := by decide +kernel
theorem dX8_wind_104 : decode cX8_wind 104 = .ok (.iconst 0, 1) := by decide +kernel
theorem dX8_wind_105 : decode cX8_wind 105 = .ok (.ior, 1) := by decide +kernel
theorem dX8_wind_106 : decode cX8_wind 106 = .ok (.istore 8, 2) := by decide +kernel
theorem dX8_wind_108 : decode cX8_wind 108 = .ok (.iinc 9 1, 3) := by decide +kernel
theorem dX8_wind_111 : decode cX8_wind 111 = .ok (.goto (-62), 3) := by decide +kernel
theorem dX8_wind_114 : decode cX8_wind 114 = .ok (.iload 5, 2) := by decide +kernel
theorem dX8_wind_116 : decode cX8_wind 116 = .ok (.iload 7, 2) := by decide +kernel
theorem dX8_wind_118 : decode cX8_wind 118 = .ok (.iadd, 1) := by decide +kernel
theorem dX8_wind_119 : decode cX8_wind 119 = .ok (.istore 5, 2) := by decide +kernel
theorem dX8_wind_121 : decode cX8_wind 121 = .ok (.iload 4, 2) := by decide +kernel
theorem dX8_wind_123 : decode cX8_wind 123 = .ok (.iload 7, 2) := by decide +kernel
theorem dX8_wind_125 : decode cX8_wind 125 = .ok (.aload_n 0, 1) := by decide +kernel
theorem dX8_wind_126 : decode cX8_wind 126 = .ok (.aload_n 0, 1) := by decide +kernel
theorem dX8_wind_127 : decode cX8_wind 127 = .ok (.iload 8, 2) := by decide +kernel
theorem dX8_wind_129 : decode cX8_wind 129 = .ok (.invokevirtual 180, 3) := by decide +kernel
theorem dX8_wind_132 : decode cX8_wind 132 = .ok (.invokevirtual 183, 3) := by decide +kernel
theorem dX8_wind_135 : decode cX8_wind 135 = .ok (.imul, 1) := by decide +kernel
theorem dX8_wind_136 : decode cX8_wind 136 = .ok (.iadd, 1) := by decide +kernel
theorem dX8_wind_137 : decode cX8_wind 137 = .ok (.istore 4, 2) := by decide +kernel
theorem dX8_wind_139 : decode cX8_wind 139 = .ok (.iinc 6 1, 3) := by decide +kernel
theorem dX8_wind_142 : decode cX8_wind 142 = .ok (.goto (-110), 3) := by decide +kernel
theorem dX8_wind_145 : decode cX8_wind 145 = .ok (.iload_n 2, 1) := by decide +kernel
theorem dX8_wind_146 : decode cX8_wind 146 = .ok (.ifCond .eq 16, 3) := by decide +kernel
theorem dX8_wind_149 : decode cX8_wind 149 = .ok (.iload 4, 2) := by decide +kernel
theorem dX8_wind_151 : decode cX8_wind 151 = .ok (.iload 4, 2) := by decide +kernel
theorem dX8_wind_153 : decode cX8_wind 153 = .ok (.iload 5, 2) := by decide +kernel
theorem dX8_wind_155 : decode cX8_wind 155 = .ok (.invokestatic 207, 3) := by decide +kernel
theorem dX8_wind_158 : decode cX8_wind 158 = .ok (.idiv, 1) := by decide +kernel
theorem dX8_wind_159 : decode cX8_wind 159 = .ok (.goto 13, 3) := by decide +kernel
theorem dX8_wind_162 : decode cX8_wind 162 = .ok (.iload 5, 2) := by decide +kernel
theorem dX8_wind_164 : decode cX8_wind 164 = .ok (.iload 4, 2) := by decide +kernel
theorem dX8_wind_166 : decode cX8_wind 166 = .ok (.iload 5, 2) := by decide +kernel
theorem dX8_wind_168 : decode cX8_wind 168 = .ok (.invokestatic 207, 3) := by decide +kernel
theorem dX8_wind_171 : decode cX8_wind 171 = .ok (.idiv, 1) := by decide +kernel
theorem dX8_wind_172 : decode cX8_wind 172 = .ok (.ireturn, 1) := by decide +kernel
theorem dX8_seed_0 : decode cX8_seed 0 = .ok (.aload_n 0, 1) := by decide +kernel
theorem dX8_seed_1 : decode cX8_seed 1 = .ok (.getfield 218, 3) := by decide +kernel
theorem dX8_seed_4 : decode cX8_seed 4 = .ok (.lstore_n 3, 1) := by decide +kernel
theorem dX8_seed_5 : decode cX8_seed 5 = .ok (.aload_n 0, 1) := by decide +kernel
theorem dX8_seed_6 : decode cX8_seed 6 = .ok (.lload_n 1, 1) := by decide +kernel
theorem dX8_seed_7 : decode cX8_seed 7 = .ok (.putfield 218, 3) := by decide +kernel
theorem dX8_seed_10 : decode cX8_seed 10 = .ok (.lload_n 3, 1) := by decide +kernel
theorem dX8_seed_11 : decode cX8_seed 11 = .ok (.lreturn, 1) := by decide +kernel
set_option maxRecDepth 20000 in
theorem ggX8_storm_X8_in : GoodIn wsX8_storm wsX8_in := goodIn_r _ [11] (by decide +kernel) (by decide +kernel)
set_option maxRecDepth 20000 in
theorem gX8_storm_X8_in : GoodIn wsX8_storm (va_wsS RX8 56 yX8_in wsX8_in) := goodIn_app (goodIn_of _ (by decide +kernel)) ggX8_storm_X8_in
set_option maxRecDepth 20000 in
theorem ggX8_storm_X8_how : GoodIn wsX8_storm wsX8_how := goodIn_r _ [14] (by decide +kernel) (by decide +kernel)
set_option maxRecDepth 20000 in
theorem gX8_storm_X8_how : GoodIn wsX8_storm (va_wsS RX8 172 yX8_how wsX8_how) := goodIn_app (goodIn_of _ (by decide +kernel)) ggX8_storm_X8_how
set_option maxRecDepth 20000 in
theorem ggX8_storm_X8_canMove : GoodIn wsX8_storm wsX8_canMove := goodIn_r _ [17, 18, 19, 10, 20, 21, 22, 23] (by decide +kernel) (by decide +kernel)
set_option maxRecDepth 20000 in
theorem gX8_storm_X8_canMove : GoodIn wsX8_storm (va_wsS RX8 159 yX8_canMove wsX8_canMove) := goodIn_app (goodIn_of _ (by decide +kernel)) ggX8_storm_X8_canMove
set_option maxRecDepth 20000 in
theorem ggX8_storm_X8_movedHanging : GoodIn wsX8_storm wsX8_movedHanging := goodIn_r _ [26, 21, 22, 10, 23] (by decide +kernel) (by decide +kernel)
set_option maxRecDepth 20000 in
theorem gX8_storm_X8_movedHanging : GoodIn wsX8_storm (va_wsS RX8 162 yX8_movedHanging wsX8_movedHanging) := goodIn_app (goodIn_of _ (by decide +kernel)) ggX8_storm_X8_movedHanging
theorem dX8_storm_0 : decode cX8_storm 0 = .ok (.iload_n 1, 1) := by decide +kernel
theorem dX8_storm_1 : decode cX8_storm 1 = .ok (.i2l, 1) := by decide +kernel
theorem dX8_storm_2 : decode cX8_storm 2 = .ok (.lconst 1, 1) := by decide +kernel
theorem dX8_storm_3 : decode cX8_storm 3 = .ok (.ldc2_w 222, 3) := by decide +kernel
theorem dX8_storm_6 : decode cX8_storm 6 = .ok (.invokestatic 56, 3) := by decide +kernel
theorem dX8_storm_9 : decode cX8_storm 9 = .ok (.ifCond .ne 6, 3) := by decide +kernel
theorem dX8_storm_12 : decode cX8_storm 12 = .ok (.bipush (-2), 2) := by decide +kernel
theorem dX8_storm_14 : decode cX8_storm 14 = .ok (.ireturn, 1) := by decide +kernel
theorem dX8_storm_15 : decode cX8_storm 15 = .ok (.aload_n 0, 1) := by decide +kernel
theorem dX8_storm_16 : decode cX8_storm 16 = .ok (.getfield 107, 3) := by decide +kernel
theorem dX8_storm_19 : decode cX8_storm 19 = .ok (.istore_n 2, 1) := by decide +kernel
theorem dX8_storm_20 : decode cX8_storm 20 = .ok (.iconst 0, 1) := by decide +kernel
theorem dX8_storm_21 : decode cX8_storm 21 = .ok (.istore_n 3, 1) := by decide +kernel
theorem dX8_storm_22 : decode cX8_storm 22 = .ok (.iload_n 3, 1) := by decide +kernel
theorem dX8_storm_23 : decode cX8_storm 23 = .ok (.iload_n 1, 1) := by decide +kernel
theorem dX8_storm_24 : decode cX8_storm 24 = .ok (.if_icmp .ge 83, 3) := by decide +kernel
theorem dX8_storm_27 : decode cX8_storm 27 = .ok (.aload_n 0, 1) := by decide +kernel
theorem dX8_storm_28 : decode cX8_storm 28 = .ok (.aload_n 0, 1) := by decide +kernel
theorem dX8_storm_29 : decode cX8_storm 29 = .ok (.getfield 218, 3) := by decide +kernel
theorem dX8_storm_32 : decode cX8_storm 32 = .ok (.ldc2_w 224, 3) := by decide +kernel
theorem dX8_storm_35 : decode cX8_storm 35 = .ok (.lmul, 1) := by decide +kernel
theorem dX8_storm_36 : decode cX8_storm 36 = .ok (.ldc2_w 226, 3) := by decide +kernel
theorem dX8_storm_39 : decode cX8_storm 39 = .ok (.ladd, 1) := by decide +kernel
theorem dX8_storm_40 : decode cX8_storm 40 = .ok (.putfield 218, 3) := by decide +kernel
theorem dX8_storm_43 : decode cX8_storm 43 = .ok (.aload_n 0, 1) := by decide +kernel
theorem dX8_storm_44 : decode cX8_storm 44 = .ok (.getfield 218, 3) := by decide +kernel
theorem dX8_storm_47 : decode cX8_storm 47 = .ok (.bipush 33, 2) := by decide +kernel
theorem dX8_storm_49 : decode cX8_storm 49 = .ok (.lushr, 1) := by decide +kernel
theorem dX8_storm_50 : decode cX8_storm 50 = .ok (.lstore 4, 2) := by decide +kernel
theorem dX8_storm_52 : decode cX8_storm 52 = .ok (.lload 4, 2) := by decide +kernel
theorem dX8_storm_54 : decode cX8_storm 54 = .ok (.ldc2_w 228, 3) := by decide +kernel
theorem dX8_storm_57 : decode cX8_storm 57 = .ok (.lrem, 1) := by decide +kernel
theorem dX8_storm_58 : decode cX8_storm 58 = .ok (.l2i, 1) := by decide +kernel
theorem dX8_storm_59 : decode cX8_storm 59 = .ok (.istore 6, 2) := by decide +kernel
theorem dX8_storm_61 : decode cX8_storm 61 = .ok (.lload 4, 2) := by decide +kernel
theorem dX8_storm_63 : decode cX8_storm 63 = .ok (.ldc2_w 228, 3) := by decide +kernel
theorem dX8_storm_66 : decode cX8_storm 66 = .ok (.ldiv, 1) := by decide +kernel
theorem dX8_storm_67 : decode cX8_storm 67 = .ok (.ldc2_w 230, 3) := by decide +kernel
theorem dX8_storm_70 : decode cX8_storm 70 = .ok (.lrem, 1) := by decide +kernel
theorem dX8_storm_71 : decode cX8_storm 71 = .ok (.l2i, 1) := by decide +kernel
theorem dX8_storm_72 : decode cX8_storm 72 = .ok (.invokestatic 172, 3) := by decide +kernel
theorem dX8_storm_75 : decode cX8_storm 75 = .ok (.istore 7, 2) := by decide +kernel
theorem dX8_storm_77 : decode cX8_storm 77 = .ok (.iload_n 2, 1) := by decide +kernel
theorem dX8_storm_78 : decode cX8_storm 78 = .ok (.iload 6, 2) := by decide +kernel
theorem dX8_storm_80 : decode cX8_storm 80 = .ok (.iload 7, 2) := by decide +kernel
theorem dX8_storm_82 : decode cX8_storm 82 = .ok (.invokestatic 159, 3) := by decide +kernel
theorem dX8_storm_85 : decode cX8_storm 85 = .ok (.ifCond .eq 14, 3) := by decide +kernel
theorem dX8_storm_88 : decode cX8_storm 88 = .ok (.iload_n 2, 1) := by decide +kernel
theorem dX8_storm_89 : decode cX8_storm 89 = .ok (.iload 6, 2) := by decide +kernel
theorem dX8_storm_91 : decode cX8_storm 91 = .ok (.iload 7, 2) := by decide +kernel
theorem dX8_storm_93 : decode cX8_storm 93 = .ok (.invokestatic 162, 3) := by decide +kernel
theorem dX8_storm_96 : decode cX8_storm 96 = .ok (.goto 4, 3) := by decide +kernel
theorem dX8_storm_99 : decode cX8_storm 99 = .ok (.iload_n 2, 1) := by decide +kernel
theorem dX8_storm_100 : decode cX8_storm 100 = .ok (.istore_n 2, 1) := by decide +kernel
theorem dX8_storm_101 : decode cX8_storm 101 = .ok (.iinc 3 1, 3) := by decide +kernel
theorem dX8_storm_104 : decode cX8_storm 104 = .ok (.goto (-82), 3) := by decide +kernel
theorem dX8_storm_107 : decode cX8_storm 107 = .ok (.iload_n 2, 1) := by decide +kernel
theorem dX8_storm_108 : decode cX8_storm 108 = .ok (.ireturn, 1) := by decide +kernel
set_option maxRecDepth 20000 in
theorem ggX8_keep_X8_in : GoodIn wsX8_keep wsX8_in := goodIn_r _ [8] (by decide +kernel) (by decide +kernel)
set_option maxRecDepth 20000 in
theorem gX8_keep_X8_in : GoodIn wsX8_keep (va_wsS RX8 56 yX8_in wsX8_in) := goodIn_app (goodIn_of _ (by decide +kernel)) ggX8_keep_X8_in
set_option maxRecDepth 20000 in
theorem ggX8_keep_X8_ones : GoodIn wsX8_keep wsX8_ones := goodIn_r _ [11] (by decide +kernel) (by decide +kernel)
set_option maxRecDepth 20000 in
theorem gX8_keep_X8_ones : GoodIn wsX8_keep (va_wsS RX8 91 yX8_ones wsX8_ones) := goodIn_app (goodIn_of _ (by decide +kernel)) ggX8_keep_X8_ones
theorem dX8_keep_0 : decode cX8_keep 0 = .ok (.iload_n 1, 1) := by decide +kernel
theorem dX8_keep_1 : decode cX8_keep 1 = .ok (.i2l, 1) := by decide +kernel
theorem dX8_keep_2 : decode cX8_keep 2 = .ok (.lconst 0, 1) := by decide +kernel
theorem dX8_keep_3 : decode cX8_keep 3 = .ok (.lconst 1, 1) := by decide +kernel
theorem dX8_keep_4 : decode cX8_keep 4 = .ok (.invokestatic 56, 3) := by decide +kernel
theorem dX8_keep_7 : decode cX8_keep 7 = .ok (.ifCond .ne 5, 3) := by decide +kernel
theorem dX8_keep_10 : decode cX8_keep 10 = .ok (.iconst (-1), 1) := by decide +kernel
theorem dX8_keep_11 : decode cX8_keep 11 = .ok (.ireturn, 1) := by decide +kernel
theorem dX8_keep_12 : decode cX8_keep 12 = .ok (.aload_n 0, 1) := by decide +kernel
theorem dX8_keep_13 : decode cX8_keep 13 = .ok (.getfield 44, 3) := by decide +kernel
theorem dX8_keep_16 : decode cX8_keep 16 = .ok (.iload_n 1, 1) := by decide +kernel
theorem dX8_keep_17 : decode cX8_keep 17 = .ok (.iconst 1, 1) := by decide +kernel
theorem dX8_keep_18 : decode cX8_keep 18 = .ok (.bastore, 1) := by decide +kernel
theorem dX8_keep_19 : decode cX8_keep 19 = .ok (.aload_n 0, 1) := by decide +kernel
theorem dX8_keep_20 : decode cX8_keep 20 = .ok (.getfield 47, 3) := by decide +kernel
theorem dX8_keep_23 : decode cX8_keep 23 = .ok (.iload_n 1, 1) := by decide +kernel
theorem dX8_keep_24 : decode cX8_keep 24 = .ok (.aload_n 0, 1) := by decide +kernel
theorem dX8_keep_25 : decode cX8_keep 25 = .ok (.getfield 107, 3) := by decide +kernel
theorem dX8_keep_28 : decode cX8_keep 28 = .ok (.sipush 4096, 3) := by decide +kernel
theorem dX8_keep_31 : decode cX8_keep 31 = .ok (.aload_n 0, 1) := by decide +kernel
theorem dX8_keep_32 : decode cX8_keep 32 = .ok (.getfield 110, 3) := by decide +kernel
theorem dX8_keep_35 : decode cX8_keep 35 = .ok (.imul, 1) := by decide +kernel
theorem dX8_keep_36 : decode cX8_keep 36 = .ok (.iadd, 1) := by decide +kernel
theorem dX8_keep_37 : decode cX8_keep 37 = .ok (.iastore, 1) := by decide +kernel
theorem dX8_keep_38 : decode cX8_keep 38 = .ok (.aload_n 0, 1) := by decide +kernel
theorem dX8_keep_39 : decode cX8_keep 39 = .ok (.getfield 107, 3) := by decide +kernel
theorem dX8_keep_42 : decode cX8_keep 42 = .ok (.invokestatic 91, 3) := by decide +kernel
theorem dX8_keep_45 : decode cX8_keep 45 = .ok (.ireturn, 1) := by decide +kernel
set_option maxRecDepth 20000 in
theorem ggX8_again_X8_in : GoodIn wsX8_again wsX8_in := goodIn_r _ [9] (by decide +kernel) (by decide +kernel)
set_option maxRecDepth 20000 in
theorem gX8_again_X8_in : GoodIn wsX8_again (va_wsS RX8 56 yX8_in wsX8_in) := goodIn_app (goodIn_of _ (by decide +kernel)) ggX8_again_X8_in
set_option maxRecDepth 20000 in
theorem ggX8_again_X8_ones : GoodIn wsX8_again wsX8_ones := goodIn_r _ [12] (by decide +kernel) (by decide +kernel)
set_option maxRecDepth 20000 in
theorem gX8_again_X8_ones : GoodIn wsX8_again (va_wsS RX8 91 yX8_ones wsX8_ones) := goodIn_app (goodIn_of _ (by decide +kernel)) ggX8_again_X8_ones
theorem dX8_again_0 : decode cX8_again 0 = .ok (.iload_n 1, 1) := by decide +kernel
theorem dX8_again_1 : decode cX8_again 1 = .ok (.i2l, 1) := by decide +kernel
theorem dX8_again_2 : decode cX8_again 2 = .ok (.lconst 0, 1) := by decide +kernel
theorem dX8_again_3 : decode cX8_again 3 = .ok (.lconst 1, 1) := by decide +kernel
theorem dX8_again_4 : decode cX8_again 4 = .ok (.invokestatic 56, 3) := by decide +kernel
theorem dX8_again_7 : decode cX8_again 7 = .ok (.ifCond .ne 5, 3) := by decide +kernel
theorem dX8_again_10 : decode cX8_again 10 = .ok (.iconst (-1), 1) := by decide +kernel
theorem dX8_again_11 : decode cX8_again 11 = .ok (.ireturn, 1) := by decide +kernel
theorem dX8_again_12 : decode cX8_again 12 = .ok (.aload_n 0, 1) := by decide +kernel
theorem dX8_again_13 : decode cX8_again 13 = .ok (.getfield 44, 3) := by decide +kernel
theorem dX8_again_16 : decode cX8_again 16 = .ok (.iload_n 1, 1) := by decide +kernel
theorem dX8_again_17 : decode cX8_again 17 = .ok (.baload, 1) := by decide +kernel
theorem dX8_again_18 : decode cX8_again 18 = .ok (.ifCond .ne 6, 3) := by decide +kernel
theorem dX8_again_21 : decode cX8_again 21 = .ok (.bipush (-3), 2) := by decide +kernel
theorem dX8_again_23 : decode cX8_again 23 = .ok (.ireturn, 1) := by decide +kernel
theorem dX8_again_24 : decode cX8_again 24 = .ok (.aload_n 0, 1) := by decide +kernel
theorem dX8_again_25 : decode cX8_again 25 = .ok (.aload_n 0, 1) := by decide +kernel
theorem dX8_again_26 : decode cX8_again 26 = .ok (.getfield 47, 3) := by decide +kernel
theorem dX8_again_29 : decode cX8_again 29 = .ok (.iload_n 1, 1) := by decide +kernel
theorem dX8_again_30 : decode cX8_again 30 = .ok (.iaload, 1) := by decide +kernel
theorem dX8_again_31 : decode cX8_again 31 = .ok (.sipush 4096, 3) := by decide +kernel
theorem dX8_again_34 : decode cX8_again 34 = .ok (.irem, 1) := by decide +kernel
theorem dX8_again_35 : decode cX8_again 35 = .ok (.putfield 107, 3) := by decide +kernel
theorem dX8_again_38 : decode cX8_again 38 = .ok (.aload_n 0, 1) := by decide +kernel
theorem dX8_again_39 : decode cX8_again 39 = .ok (.aload_n 0, 1) := by decide +kernel
theorem dX8_again_40 : decode cX8_again 40 = .ok (.getfield 47, 3) := by decide +kernel
theorem dX8_again_43 : decode cX8_again 43 = .ok (.iload_n 1, 1) := by decide +kernel
theorem dX8_again_44 : decode cX8_again 44 = .ok (.iaload, 1) := by decide +kernel
theorem dX8_again_45 : decode cX8_again 45 = .ok (.sipush 4096, 3) := by decide +kernel
theorem dX8_again_48 : decode cX8_again 48 = .ok (.idiv, 1) := by decide +kernel
theorem dX8_again_49 : decode cX8_again 49 = .ok (.putfield 110, 3) := by decide +kernel
theorem dX8_again_52 : decode cX8_again 52 = .ok (.aload_n 0, 1) := by decide +kernel
theorem dX8_again_53 : decode cX8_again 53 = .ok (.iconst 0, 1) := by decide +kernel
theorem dX8_again_54 : decode cX8_again 54 = .ok (.putfield 113, 3) := by decide +kernel
theorem dX8_again_57 : decode cX8_again 57 = .ok (.aload_n 0, 1) := by decide +kernel
theorem dX8_again_58 : decode cX8_again 58 = .ok (.getfield 107, 3) := by decide +kernel
theorem dX8_again_61 : decode cX8_again 61 = .ok (.invokestatic 91, 3) := by decide +kernel
theorem dX8_again_64 : decode cX8_again 64 = .ok (.ireturn, 1) := by decide +kernel
set_option maxRecDepth 20000 in
theorem ggX8_count_X8_ones : GoodIn wsX8_count wsX8_ones := goodIn_r _ [11] (by decide +kernel) (by decide +kernel)
set_option maxRecDepth 20000 in
theorem gX8_count_X8_ones : GoodIn wsX8_count (va_wsS RX8 91 yX8_ones wsX8_ones) := goodIn_app (goodIn_of _ (by decide +kernel)) ggX8_count_X8_ones
set_option maxRecDepth 20000 in
theorem ggX8_count_X8_granted : GoodIn wsX8_count wsX8_granted := goodIn_r _ [15, 3, 16, 17, 18, 10, 19, 20, 21, 22, 23, 24, 25, 26, 27, 28, 29, 30, 31, 32, 33, 34, 35, 36, 37, 38, 39, 40, 41, 42, 43, 44, 45, 46, 47, 48, 49, 50, 51, 52, 53, 54, 55, 56, 57, 58, 59] (by decide +kernel) (by decide +kernel)
set_option maxRecDepth 20000 in
theorem gX8_count_X8_granted : GoodIn wsX8_count (wsV RX8 180 RX8 yX8_granted wsX8_granted) := goodIn_app (goodIn_of _ (by decide +kernel)) ggX8_count_X8_granted
theorem dX8_count_0 : decode cX8_count 0 = .ok (.iconst 0, 1) := by decide +kernel
theorem dX8_count_1 : decode cX8_count 1 = .ok (.istore_n 2, 1) := by decide +kernel
theorem dX8_count_2 : decode cX8_count 2 = .ok (.iconst 0, 1) := by decide +kernel
theorem dX8_count_3 : decode cX8_count 3 = .ok (.istore_n 3, 1) := by decide +kernel
theorem dX8_count_4 : decode cX8_count 4 = .ok (.iload_n 3, 1) := by decide +kernel
theorem dX8_count_5 : decode cX8_count 5 = .ok (.bipush 12, 2) := by decide +kernel
theorem dX8_count_7 : decode cX8_count 7 = .ok (.if_icmp .ge 26, 3) := by decide +kernel
theorem dX8_count_10 : decode cX8_count 10 = .ok (.iload_n 2, 1) := by decide +kernel
theorem dX8_count_11 : decode cX8_count 11 = .ok (.aload_n 0, 1) := by decide +kernel
theorem dX8_count_12 : decode cX8_count 12 = .ok (.getfield 19, 3) := by decide +kernel
theorem dX8_count_15 : decode cX8_count 15 = .ok (.iload_n 3, 1) := by decide +kernel
theorem dX8_count_16 : decode cX8_count 16 = .ok (.iaload, 1) := by decide +kernel
theorem dX8_count_17 : decode cX8_count 17 = .ok (.ifCond .le 7, 3) := by decide +kernel
theorem dX8_count_20 : decode cX8_count 20 = .ok (.iconst 1, 1) := by decide +kernel
theorem dX8_count_21 : decode cX8_count 21 = .ok (.goto 4, 3) := by decide +kernel
theorem dX8_count_24 : decode cX8_count 24 = .ok (.iconst 0, 1) := by decide +kernel
theorem dX8_count_25 : decode cX8_count 25 = .ok (.iadd, 1) := by decide +kernel
theorem dX8_count_26 : decode cX8_count 26 = .ok (.istore_n 2, 1) := by decide +kernel
theorem dX8_count_27 : decode cX8_count 27 = .ok (.iinc 3 1, 3) := by decide +kernel
theorem dX8_count_30 : decode cX8_count 30 = .ok (.goto (-26), 3) := by decide +kernel
theorem dX8_count_33 : decode cX8_count 33 = .ok (.iload_n 1, 1) := by decide +kernel
theorem dX8_count_34 : decode cX8_count 34 = .ok (.tableswitch 99 0 8 #[50, 55, 60, 62, 70, 75, 80, 85, 90], 50) := by decide +kernel
theorem dX8_count_84 : decode cX8_count 84 = .ok (.aload_n 0, 1) := by decide +kernel
theorem dX8_count_85 : decode cX8_count 85 = .ok (.getfield 60, 3) := by decide +kernel
theorem dX8_count_88 : decode cX8_count 88 = .ok (.ireturn, 1) := by decide +kernel
theorem dX8_count_89 : decode cX8_count 89 = .ok (.aload_n 0, 1) := by decide +kernel
theorem dX8_count_90 : decode cX8_count 90 = .ok (.getfield 50, 3) := by decide +kernel
theorem dX8_count_93 : decode cX8_count 93 = .ok (.ireturn, 1) := by decide +kernel
theorem dX8_count_94 : decode cX8_count 94 = .ok (.iload_n 2, 1) := by decide +kernel
theorem dX8_count_95 : decode cX8_count 95 = .ok (.ireturn, 1) := by decide +kernel
theorem dX8_count_96 : decode cX8_count 96 = .ok (.aload_n 0, 1) := by decide +kernel
theorem dX8_count_97 : decode cX8_count 97 = .ok (.getfield 107, 3) := by decide +kernel
theorem dX8_count_100 : decode cX8_count 100 = .ok (.invokestatic 91, 3) := by decide +kernel
theorem dX8_count_103 : decode cX8_count 103 = .ok (.ireturn, 1) := by decide +kernel
theorem dX8_count_104 : decode cX8_count 104 = .ok (.aload_n 0, 1) := by decide +kernel
theorem dX8_count_105 : decode cX8_count 105 = .ok (.getfield 110, 3) := by decide +kernel
theorem dX8_count_108 : decode cX8_count 108 = .ok (.ireturn, 1) := by decide +kernel
theorem dX8_count_109 : decode cX8_count 109 = .ok (.aload_n 0, 1) := by decide +kernel
theorem dX8_count_110 : decode cX8_count 110 = .ok (.getfield 107, 3) := by decide +kernel
theorem dX8_count_113 : decode cX8_count 113 = .ok (.ireturn, 1) := by decide +kernel
theorem dX8_count_114 : decode cX8_count 114 = .ok (.aload_n 0, 1) := by decide +kernel
theorem dX8_count_115 : decode cX8_count 115 = .ok (.getfield 113, 3) := by decide +kernel
theorem dX8_count_118 : decode cX8_count 118 = .ok (.ireturn, 1) := by decide +kernel
theorem dX8_count_119 : decode cX8_count 119 = .ok (.aload_n 0, 1) := by decide +kernel
theorem dX8_count_120 : decode cX8_count 120 = .ok (.getfield 210, 3) := by decide +kernel
theorem dX8_count_123 : decode cX8_count 123 = .ok (.ireturn, 1) := by decide +kernel
theorem dX8_count_124 : decode cX8_count 124 = .ok (.aload_n 0, 1) := by decide +kernel
theorem dX8_count_125 : decode cX8_count 125 = .ok (.aload_n 0, 1) := by decide +kernel
theorem dX8_count_126 : decode cX8_count 126 = .ok (.getfield 107, 3) := by decide +kernel
theorem dX8_count_129 : decode cX8_count 129 = .ok (.invokevirtual 180, 3) := by decide +kernel
theorem dX8_count_132 : decode cX8_count 132 = .ok (.ireturn, 1) := by decide +kernel
theorem dX8_count_133 : decode cX8_count 133 = .ok (.bipush (-2), 2) := by decide +kernel
theorem dX8_count_135 : decode cX8_count 135 = .ok (.ireturn, 1) := by decide +kernel
