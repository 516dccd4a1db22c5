set_option maxRecDepth 20000 in
theorem ggX7_init_X6_init : GoodIn wsX7_init wsX6_init := goodIn_r _ [34, 35, 2, 3, 36, 30, 31, 37, 38, 39, 40, 41, 42, 43, 44, 45, 46, 47, 158, 113, 114] (by decide +kernel) (by decide +kernel)
set_option maxRecDepth 20000 in
theorem gX7_init_X6_init_n11 : GoodIn wsX7_init (wsX6_init) := ggX7_init_X6_init
set_option maxRecDepth 20000 in
theorem ggX7_init_X1_init : GoodIn wsX7_init wsX1_init := goodIn_r _ [50, 51, 2, 3, 52, 30, 31, 53, 54, 55, 56, 57, 58, 59, 60, 61, 39, 40, 41, 42, 43, 44, 45, 46, 47, 62, 63, 64, 10, 65, 66, 67, 68, 69, 70, 71, 72, 158, 129, 130, 131, 132, 133, 134, 135, 136, 137, 138, 139] (by decide +kernel) (by decide +kernel)
set_option maxRecDepth 20000 in
theorem gX7_init_X1_init : GoodIn wsX7_init (wsX1_init) := ggX7_init_X1_init
set_option maxRecDepth 20000 in
theorem ggX7_init_X3_init : GoodIn wsX7_init wsX3_init := goodIn_r _ [75, 76, 2, 3, 77, 140, 141, 142, 143, 144, 145, 146] (by decide +kernel) (by decide +kernel)
set_option maxRecDepth 20000 in
theorem gX7_init_X3_init : GoodIn wsX7_init (wsX3_init) := ggX7_init_X3_init
set_option maxRecDepth 20000 in
theorem ggX7_init_X5_init : GoodIn wsX7_init wsX5_init := goodIn_r _ [80, 81, 2, 3, 82, 30, 31, 83, 84, 85, 86, 87, 88, 39, 40, 41, 42, 43, 44, 45, 46, 47, 158, 147, 148, 149, 150, 151, 152] (by decide +kernel) (by decide +kernel)
set_option maxRecDepth 20000 in
theorem gX7_init_X5_init : GoodIn wsX7_init (wsX5_init) := ggX7_init_X5_init
set_option maxRecDepth 20000 in
theorem ggX7_init_X2_init : GoodIn wsX7_init wsX2_init := goodIn_r _ [90, 91, 2, 3, 92, 30, 31, 93, 94, 95, 96, 39, 40, 41, 42, 43, 44, 45, 46, 47, 158, 153, 154, 155] (by decide +kernel) (by decide +kernel)
set_option maxRecDepth 20000 in
theorem gX7_init_X2_init_n44 : GoodIn wsX7_init (wsX2_init) := ggX7_init_X2_init
set_option maxRecDepth 20000 in
theorem ggX7_init_X0_init : GoodIn wsX7_init wsX0_init := goodIn_r _ [98, 99, 2, 3, 100, 30, 31, 101, 102, 39, 40, 41, 42, 43, 44, 45, 46, 47, 158, 156, 157] (by decide +kernel) (by decide +kernel)
set_option maxRecDepth 20000 in
theorem gX7_init_X0_init_n51 : GoodIn wsX7_init (wsX0_init) := ggX7_init_X0_init
set_option maxRecDepth 20000 in
theorem ggX7_init_X4_init : GoodIn wsX7_init wsX4_init := goodIn_r _ [40, 41, 2, 3, 42, 43, 44, 45, 46, 47, 158] (by decide +kernel) (by decide +kernel)
set_option maxRecDepth 20000 in
theorem gX7_init_X4_init : GoodIn wsX7_init (wsX4_init) := ggX7_init_X4_init
set_option maxRecDepth 20000 in
theorem ggX7_init_X7_emptySlots : GoodIn wsX7_init wsX7_emptySlots := goodIn_r _ [108, 32, 109, 110, 111, 31, 112, 47, 115, 116, 117, 118, 119, 120, 121, 122, 123, 124, 125, 126, 127, 128, 158] (by decide +kernel) (by decide +kernel)
set_option maxRecDepth 20000 in
theorem gX7_init_X7_emptySlots : GoodIn wsX7_init (wsV RX7 65 RX7 yX7_emptySlots wsX7_emptySlots) := goodIn_app (goodIn_of _ (by decide +kernel)) ggX7_init_X7_emptySlots
theorem dX7_init_0 : decode cX7_init 0 = .ok (.aload_n 0, 1) := by decide +kernel
theorem dX7_init_1 : decode cX7_init 1 = .ok (.invokespecial 3, 3) := by decide +kernel
theorem dX7_init_4 : decode cX7_init 4 = .ok (.aload_n 0, 1) := by decide +kernel
theorem dX7_init_5 : decode cX7_init 5 = .ok (.new 9, 3) := by decide +kernel
theorem dX7_init_8 : decode cX7_init 8 = .ok (.dup, 1) := by decide +kernel
theorem dX7_init_9 : decode cX7_init 9 = .ok (.invokespecial 11, 3) := by decide +kernel
theorem dX7_init_12 : decode cX7_init 12 = .ok (.putfield 12, 3) := by decide +kernel
theorem dX7_init_15 : decode cX7_init 15 = .ok (.aload_n 0, 1) := by decide +kernel
theorem dX7_init_16 : decode cX7_init 16 = .ok (.new 16, 3) := by decide +kernel
theorem dX7_init_19 : decode cX7_init 19 = .ok (.dup, 1) := by decide +kernel
theorem dX7_init_20 : decode cX7_init 20 = .ok (.invokespecial 18, 3) := by decide +kernel
theorem dX7_init_23 : decode cX7_init 23 = .ok (.putfield 19, 3) := by decide +kernel
theorem dX7_init_26 : decode cX7_init 26 = .ok (.aload_n 0, 1) := by decide +kernel
theorem dX7_init_27 : decode cX7_init 27 = .ok (.new 23, 3) := by decide +kernel
theorem dX7_init_30 : decode cX7_init 30 = .ok (.dup, 1) := by decide +kernel
theorem dX7_init_31 : decode cX7_init 31 = .ok (.aload_n 0, 1) := by decide +kernel
theorem dX7_init_32 : decode cX7_init 32 = .ok (.getfield 19, 3) := by decide +kernel
theorem dX7_init_35 : decode cX7_init 35 = .ok (.invokespecial 25, 3) := by decide +kernel
theorem dX7_init_38 : decode cX7_init 38 = .ok (.putfield 28, 3) := by decide +kernel
theorem dX7_init_41 : decode cX7_init 41 = .ok (.aload_n 0, 1) := by decide +kernel
theorem dX7_init_42 : decode cX7_init 42 = .ok (.new 23, 3) := by decide +kernel
theorem dX7_init_45 : decode cX7_init 45 = .ok (.dup, 1) := by decide +kernel
theorem dX7_init_46 : decode cX7_init 46 = .ok (.new 16, 3) := by decide +kernel
theorem dX7_init_49 : decode cX7_init 49 = .ok (.dup, 1) := by decide +kernel
theorem dX7_init_50 : decode cX7_init 50 = .ok (.invokespecial 18, 3) := by decide +kernel
theorem dX7_init_53 : decode cX7_init 53 = .ok (.invokespecial 25, 3) := by decide +kernel
theorem dX7_init_56 : decode cX7_init 56 = .ok (.putfield 32, 3) := by decide +kernel
theorem dX7_init_59 : decode cX7_init 59 = .ok (.aload_n 0, 1) := by decide +kernel
theorem dX7_init_60 : decode cX7_init 60 = .ok (.new 35, 3) := by decide +kernel
theorem dX7_init_63 : decode cX7_init 63 = .ok (.dup, 1) := by decide +kernel
theorem dX7_init_64 : decode cX7_init 64 = .ok (.aload_n 0, 1) := by decide +kernel
theorem dX7_init_65 : decode cX7_init 65 = .ok (.getfield 19, 3) := by decide +kernel
theorem dX7_init_68 : decode cX7_init 68 = .ok (.invokespecial 37, 3) := by decide +kernel
theorem dX7_init_71 : decode cX7_init 71 = .ok (.putfield 38, 3) := by decide +kernel
theorem dX7_init_74 : decode cX7_init 74 = .ok (.aload_n 0, 1) := by decide +kernel
theorem dX7_init_75 : decode cX7_init 75 = .ok (.new 42, 3) := by decide +kernel
theorem dX7_init_78 : decode cX7_init 78 = .ok (.dup, 1) := by decide +kernel
theorem dX7_init_79 : decode cX7_init 79 = .ok (.invokespecial 44, 3) := by decide +kernel
theorem dX7_init_82 : decode cX7_init 82 = .ok (.putfield 45, 3) := by decide +kernel
theorem dX7_init_85 : decode cX7_init 85 = .ok (.aload_n 0, 1) := by decide +kernel
theorem dX7_init_86 : decode cX7_init 86 = .ok (.new 49, 3) := by decide +kernel
theorem dX7_init_89 : decode cX7_init 89 = .ok (.dup, 1) := by decide +kernel
theorem dX7_init_90 : decode cX7_init 90 = .ok (.invokespecial 51, 3) := by decide +kernel
theorem dX7_init_93 : decode cX7_init 93 = .ok (.putfield 52, 3) := by decide +kernel
theorem dX7_init_96 : decode cX7_init 96 = .ok (.aload_n 0, 1) := by decide +kernel
theorem dX7_init_97 : decode cX7_init 97 = .ok (.new 56, 3) := by decide +kernel
theorem dX7_init_100 : decode cX7_init 100 = .ok (.dup, 1) := by decide +kernel
theorem dX7_init_101 : decode cX7_init 101 = .ok (.iconst 2, 1) := by decide +kernel
theorem dX7_init_102 : decode cX7_init 102 = .ok (.invokespecial 58, 3) := by decide +kernel
theorem dX7_init_105 : decode cX7_init 105 = .ok (.putfield 61, 3) := by decide +kernel
theorem dX7_init_108 : decode cX7_init 108 = .ok (.aload_n 0, 1) := by decide +kernel
theorem dX7_init_109 : decode cX7_init 109 = .ok (.invokevirtual 65, 3) := by decide +kernel
theorem dX7_init_112 : decode cX7_init 112 = .ok (.return_, 1) := by decide +kernel
set_option maxRecDepth 20000 in
theorem ggX7_write_X6_length : GoodIn wsX7_write wsX6_length := goodIn_r _ [6, 7, 33, 34] (by decide +kernel) (by decide +kernel)
set_option maxRecDepth 20000 in
theorem gX7_write_X6_length : GoodIn wsX7_write (wsV RX7 68 RX6 yX6_length wsX6_length) := goodIn_app (goodIn_of _ (by decide +kernel)) ggX7_write_X6_length
set_option maxRecDepth 20000 in
theorem ggX7_write_X6_add : GoodIn wsX7_write wsX6_add := goodIn_r _ [11, 12, 7, 13, 14, 15, 16, 17, 18, 33, 34, 35] (by decide +kernel) (by decide +kernel)
set_option maxRecDepth 20000 in
theorem gX7_write_X6_add : GoodIn wsX7_write (wsV RX7 72 RX6 yX6_add wsX6_add) := goodIn_app (goodIn_of _ (by decide +kernel)) ggX7_write_X6_add
theorem dX7_write_0 : decode cX7_write 0 = .ok (.iload_n 1, 1) := by decide +kernel
theorem dX7_write_1 : decode cX7_write 1 = .ok (.ifCond .lt 10, 3) := by decide +kernel
theorem dX7_write_4 : decode cX7_write 4 = .ok (.iload_n 1, 1) := by decide +kernel
theorem dX7_write_5 : decode cX7_write 5 = .ok (.sipush 255, 3) := by decide +kernel
theorem dX7_write_8 : decode cX7_write 8 = .ok (.if_icmp .le 6, 3) := by decide +kernel
theorem dX7_write_11 : decode cX7_write 11 = .ok (.bipush (-2), 2) := by decide +kernel
theorem dX7_write_13 : decode cX7_write 13 = .ok (.ireturn, 1) := by decide +kernel
theorem dX7_write_14 : decode cX7_write 14 = .ok (.aload_n 0, 1) := by decide +kernel
theorem dX7_write_15 : decode cX7_write 15 = .ok (.getfield 12, 3) := by decide +kernel
theorem dX7_write_18 : decode cX7_write 18 = .ok (.invokevirtual 68, 3) := by decide +kernel
theorem dX7_write_21 : decode cX7_write 21 = .ok (.bipush 72, 2) := by decide +kernel
theorem dX7_write_23 : decode cX7_write 23 = .ok (.if_icmp .lt 6, 3) := by decide +kernel
theorem dX7_write_26 : decode cX7_write 26 = .ok (.bipush (-4), 2) := by decide +kernel
theorem dX7_write_28 : decode cX7_write 28 = .ok (.ireturn, 1) := by decide +kernel
theorem dX7_write_29 : decode cX7_write 29 = .ok (.aload_n 0, 1) := by decide +kernel
theorem dX7_write_30 : decode cX7_write 30 = .ok (.getfield 12, 3) := by decide +kernel
theorem dX7_write_33 : decode cX7_write 33 = .ok (.iload_n 1, 1) := by decide +kernel
theorem dX7_write_34 : decode cX7_write 34 = .ok (.invokevirtual 72, 3) := by decide +kernel
theorem dX7_write_37 : decode cX7_write 37 = .ok (.aload_n 0, 1) := by decide +kernel
theorem dX7_write_38 : decode cX7_write 38 = .ok (.getfield 12, 3) := by decide +kernel
theorem dX7_write_41 : decode cX7_write 41 = .ok (.invokevirtual 68, 3) := by decide +kernel
theorem dX7_write_44 : decode cX7_write 44 = .ok (.ireturn, 1) := by decide +kernel
set_option maxRecDepth 20000 in
theorem ggX7_wipe_X6_length : GoodIn wsX7_wipe wsX6_length := goodIn_r _ [6, 7, 26, 27] (by decide +kernel) (by decide +kernel)
set_option maxRecDepth 20000 in
theorem gX7_wipe_X6_length : GoodIn wsX7_wipe (wsV RX7 68 RX6 yX6_length wsX6_length) := goodIn_app (goodIn_of _ (by decide +kernel)) ggX7_wipe_X6_length
set_option maxRecDepth 20000 in
theorem ggX7_wipe_X6_clear : GoodIn wsX7_wipe wsX6_clear := goodIn_r _ [11, 7, 26, 27] (by decide +kernel) (by decide +kernel)
set_option maxRecDepth 20000 in
theorem gX7_wipe_X6_clear : GoodIn wsX7_wipe (wsV RX7 75 RX6 yX6_clear wsX6_clear) := goodIn_app (goodIn_of _ (by decide +kernel)) ggX7_wipe_X6_clear
theorem dX7_wipe_0 : decode cX7_wipe 0 = .ok (.aload_n 0, 1) := by decide +kernel
theorem dX7_wipe_1 : decode cX7_wipe 1 = .ok (.getfield 12, 3) := by decide +kernel
theorem dX7_wipe_4 : decode cX7_wipe 4 = .ok (.invokevirtual 68, 3) := by decide +kernel
theorem dX7_wipe_7 : decode cX7_wipe 7 = .ok (.istore_n 1, 1) := by decide +kernel
theorem dX7_wipe_8 : decode cX7_wipe 8 = .ok (.aload_n 0, 1) := by decide +kernel
theorem dX7_wipe_9 : decode cX7_wipe 9 = .ok (.getfield 12, 3) := by decide +kernel
theorem dX7_wipe_12 : decode cX7_wipe 12 = .ok (.invokevirtual 75, 3) := by decide +kernel
theorem dX7_wipe_15 : decode cX7_wipe 15 = .ok (.iload_n 1, 1) := by decide +kernel
theorem dX7_wipe_16 : decode cX7_wipe 16 = .ok (.ireturn, 1) := by decide +kernel
set_option maxRecDepth 20000 in
theorem ggX7_fault_X3_readThrough : GoodIn wsX7_fault wsX3_readThrough := goodIn_r _ [7, 8, 9, 10, 11, 12, 13, 14, 15, 16, 17, 18, 19, 20, 21, 22, 23, 24, 25, 26, 27, 28, 29, 30, 31, 32, 33, 34, 35, 36, 37, 38, 39, 40, 41, 42, 43, 6, 44, 45, 46, 47, 48, 49, 50, 51, 52, 53, 54, 55, 56, 57, 58, 59, 60, 61, 62, 63, 64, 65, 66, 67, 68, 69, 70, 71, 72, 73, 74, 75, 76, 77, 78, 79, 80, 81, 82, 83, 84, 85, 86, 87, 88, 89, 90, 91, 92, 93, 94, 95, 96, 97, 98, 99, 100, 101, 102, 103, 104, 105, 106, 107, 108, 109, 110, 111, 112, 113, 114, 115, 116, 117, 118, 119, 120, 121, 122, 123, 124, 125, 126, 127, 128, 129, 144, 145, 146, 147, 148, 149, 150, 151, 152, 153, 154, 155, 156, 157, 158, 159, 160, 161, 162, 163, 164] (by decide +kernel) (by decide +kernel)
set_option maxRecDepth 20000 in
theorem gX7_fault_X3_readThrough : GoodIn wsX7_fault (wsV RX7 78 RX3 yX3_readThrough wsX3_readThrough) := goodIn_app (goodIn_of _ (by decide +kernel)) ggX7_fault_X3_readThrough
theorem dX7_fault_0 : decode cX7_fault 0 = .ok (.aload_n 0, 1) := by decide +kernel
theorem dX7_fault_1 : decode cX7_fault 1 = .ok (.getfield 32, 3) := by decide +kernel
theorem dX7_fault_4 : decode cX7_fault 4 = .ok (.aload_n 0, 1) := by decide +kernel
theorem dX7_fault_5 : decode cX7_fault 5 = .ok (.getfield 12, 3) := by decide +kernel
theorem dX7_fault_8 : decode cX7_fault 8 = .ok (.invokevirtual 78, 3) := by decide +kernel
theorem dX7_fault_11 : decode cX7_fault 11 = .ok (.ireturn, 1) := by decide +kernel
set_option maxRecDepth 20000 in
theorem ggX7_letting_X3_readThrough : GoodIn wsX7_letting wsX3_readThrough := goodIn_r _ [13, 14, 15, 16, 17, 18, 19, 20, 21, 22, 23, 24, 25, 26, 27, 28, 29, 30, 31, 32, 33, 34, 35, 36, 37, 38, 39, 40, 41, 42, 43, 44, 45, 46, 47, 48, 49, 12, 50, 51, 52, 53, 54, 55, 56, 57, 58, 59, 60, 61, 62, 63, 64, 65, 66, 67, 68, 69, 70, 71, 72, 73, 74, 75, 76, 77, 78, 79, 80, 81, 82, 83, 84, 85, 86, 87, 88, 89, 90, 91, 92, 93, 94, 95, 96, 97, 98, 99, 100, 101, 102, 103, 104, 105, 106, 107, 108, 109, 110, 111, 112, 113, 114, 115, 116, 117, 118, 119, 120, 121, 122, 123, 124, 125, 126, 127, 128, 129, 130, 131, 132, 133, 134, 135, 170, 171, 172, 173, 174, 175, 176, 177, 178, 179, 180, 181, 182, 183, 184, 185, 186, 187, 188, 189, 190] (by decide +kernel) (by decide +kernel)
set_option maxRecDepth 20000 in
theorem gX7_letting_X3_readThrough : GoodIn wsX7_letting (wsV RX7 78 RX3 yX3_readThrough wsX3_readThrough) := goodIn_app (goodIn_of _ (by decide +kernel)) ggX7_letting_X3_readThrough
set_option maxRecDepth 20000 in
theorem ggX7_letting_X5_forget : GoodIn wsX7_letting wsX5_forget := goodIn_r _ [140, 141, 191, 192, 193, 194, 195, 196] (by decide +kernel) (by decide +kernel)
set_option maxRecDepth 20000 in
theorem gX7_letting_X5_forget : GoodIn wsX7_letting (wsV RX7 82 RX5 yX5_forget wsX5_forget) := goodIn_app (goodIn_of _ (by decide +kernel)) ggX7_letting_X5_forget
set_option maxRecDepth 20000 in
theorem ggX7_letting_X0_clear : GoodIn wsX7_letting wsX0_clear := goodIn_r _ [146, 147, 197, 198] (by decide +kernel) (by decide +kernel)
set_option maxRecDepth 20000 in
theorem gX7_letting_X0_clear : GoodIn wsX7_letting (wsV RX7 85 RX0 yX0_clear wsX0_clear) := goodIn_app (goodIn_of _ (by decide +kernel)) ggX7_letting_X0_clear
set_option maxRecDepth 20000 in
theorem ggX7_letting_X7_emptySlots : GoodIn wsX7_letting wsX7_emptySlots := goodIn_r _ [151, 152, 153, 116, 117, 29, 118, 31, 156, 157, 158, 159, 160, 161, 162, 163, 164, 165, 166, 167, 168, 169, 188] (by decide +kernel) (by decide +kernel)
set_option maxRecDepth 20000 in
theorem gX7_letting_X7_emptySlots : GoodIn wsX7_letting (wsV RX7 65 RX7 yX7_emptySlots wsX7_emptySlots) := goodIn_app (goodIn_of _ (by decide +kernel)) ggX7_letting_X7_emptySlots
set_option maxRecDepth 20000 in
theorem ggX7_letting_X1_squares : GoodIn wsX7_letting wsX1_squares := goodIn_r _ [59, 21, 177, 178, 179, 180, 181, 182, 183, 184, 185, 186, 187] (by decide +kernel) (by decide +kernel)
set_option maxRecDepth 20000 in
theorem gX7_letting_X1_squares : GoodIn wsX7_letting (wsV RX7 86 RX1 yX1_squares wsX1_squares) := goodIn_app (goodIn_of _ (by decide +kernel)) ggX7_letting_X1_squares
set_option maxRecDepth 20000 in
theorem ggX7_letting_X1_wishCount : GoodIn wsX7_letting wsX1_wishCount := goodIn_r _ [70, 22, 177, 178, 179, 180, 181, 182, 183, 184, 185, 186, 187] (by decide +kernel) (by decide +kernel)
set_option maxRecDepth 20000 in
theorem gX7_letting_X1_wishCount : GoodIn wsX7_letting (wsV RX7 96 RX1 yX1_wishCount wsX1_wishCount) := goodIn_app (goodIn_of _ (by decide +kernel)) ggX7_letting_X1_wishCount
theorem dX7_letting_0 : decode cX7_letting 0 = .ok (.aload_n 0, 1) := by decide +kernel
theorem dX7_letting_1 : decode cX7_letting 1 = .ok (.getfield 32, 3) := by decide +kernel
theorem dX7_letting_4 : decode cX7_letting 4 = .ok (.aload_n 0, 1) := by decide +kernel
theorem dX7_letting_5 : decode cX7_letting 5 = .ok (.getfield 12, 3) := by decide +kernel
theorem dX7_letting_8 : decode cX7_letting 8 = .ok (.invokevirtual 78, 3) := by decide +kernel
theorem dX7_letting_11 : decode cX7_letting 11 = .ok (.bipush (-9), 2) := by decide +kernel
theorem dX7_letting_13 : decode cX7_letting 13 = .ok (.if_icmp .eq 6, 3) := by decide +kernel
theorem dX7_letting_16 : decode cX7_letting 16 = .ok (.bipush (-3), 2) := by decide +kernel
theorem dX7_letting_18 : decode cX7_letting 18 = .ok (.ireturn, 1) := by decide +kernel
theorem dX7_letting_19 : decode cX7_letting 19 = .ok (.aload_n 0, 1) := by decide +kernel
theorem dX7_letting_20 : decode cX7_letting 20 = .ok (.getfield 28, 3) := by decide +kernel
theorem dX7_letting_23 : decode cX7_letting 23 = .ok (.aload_n 0, 1) := by decide +kernel
theorem dX7_letting_24 : decode cX7_letting 24 = .ok (.getfield 12, 3) := by decide +kernel
theorem dX7_letting_27 : decode cX7_letting 27 = .ok (.invokevirtual 78, 3) := by decide +kernel
theorem dX7_letting_30 : decode cX7_letting 30 = .ok (.pop, 1) := by decide +kernel
theorem dX7_letting_31 : decode cX7_letting 31 = .ok (.aload_n 0, 1) := by decide +kernel
theorem dX7_letting_32 : decode cX7_letting 32 = .ok (.getfield 38, 3) := by decide +kernel
theorem dX7_letting_35 : decode cX7_letting 35 = .ok (.invokevirtual 82, 3) := by decide +kernel
theorem dX7_letting_38 : decode cX7_letting 38 = .ok (.aload_n 0, 1) := by decide +kernel
theorem dX7_letting_39 : decode cX7_letting 39 = .ok (.getfield 52, 3) := by decide +kernel
theorem dX7_letting_42 : decode cX7_letting 42 = .ok (.invokevirtual 85, 3) := by decide +kernel
theorem dX7_letting_45 : decode cX7_letting 45 = .ok (.aload_n 0, 1) := by decide +kernel
theorem dX7_letting_46 : decode cX7_letting 46 = .ok (.invokevirtual 65, 3) := by decide +kernel
theorem dX7_letting_49 : decode cX7_letting 49 = .ok (.aload_n 0, 1) := by decide +kernel
theorem dX7_letting_50 : decode cX7_letting 50 = .ok (.aload_n 0, 1) := by decide +kernel
theorem dX7_letting_51 : decode cX7_letting 51 = .ok (.getfield 19, 3) := by decide +kernel
theorem dX7_letting_54 : decode cX7_letting 54 = .ok (.invokevirtual 86, 3) := by decide +kernel
theorem dX7_letting_57 : decode cX7_letting 57 = .ok (.putfield 89, 3) := by decide +kernel
theorem dX7_letting_60 : decode cX7_letting 60 = .ok (.aload_n 0, 1) := by decide +kernel
theorem dX7_letting_61 : decode cX7_letting 61 = .ok (.iconst 0, 1) := by decide +kernel
theorem dX7_letting_62 : decode cX7_letting 62 = .ok (.putfield 93, 3) := by decide +kernel
theorem dX7_letting_65 : decode cX7_letting 65 = .ok (.aload_n 0, 1) := by decide +kernel
theorem dX7_letting_66 : decode cX7_letting 66 = .ok (.getfield 19, 3) := by decide +kernel
theorem dX7_letting_69 : decode cX7_letting 69 = .ok (.invokevirtual 96, 3) := by decide +kernel
theorem dX7_letting_72 : decode cX7_letting 72 = .ok (.ireturn, 1) := by decide +kernel
set_option maxRecDepth 20000 in
theorem ggX7_wish_X7_isWish : GoodIn wsX7_wish wsX7_isWish := goodIn_r _ [7, 1, 8, 9, 10, 11, 12, 13, 57, 58, 59, 60, 61, 62, 63, 64, 65, 66, 67, 68, 69, 70, 71, 72, 73, 74, 75, 76, 77, 78, 79, 80, 81] (by decide +kernel) (by decide +kernel)
set_option maxRecDepth 20000 in
theorem gX7_wish_X7_isWish : GoodIn wsX7_wish (wsV RX7 99 RX7 yX7_isWish wsX7_isWish) := goodIn_app (goodIn_of _ (by decide +kernel)) ggX7_wish_X7_isWish
set_option maxRecDepth 20000 in
theorem ggX7_wish_X1_placeOf : GoodIn wsX7_wish wsX1_placeOf := goodIn_r _ [17, 18, 19, 20, 21, 22, 23, 24, 71, 72, 73, 74, 75, 76, 77, 78, 79, 80, 81, 82] (by decide +kernel) (by decide +kernel)
set_option maxRecDepth 20000 in
theorem gX7_wish_X1_placeOf : GoodIn wsX7_wish (wsV RX7 103 RX1 yX1_placeOf wsX1_placeOf) := goodIn_app (goodIn_of _ (by decide +kernel)) ggX7_wish_X1_placeOf
set_option maxRecDepth 20000 in
theorem ggX7_wish_X1_firstHourOf : GoodIn wsX7_wish wsX1_firstHourOf := goodIn_r _ [28, 29, 19, 20, 21, 22, 23, 24, 71, 72, 73, 74, 75, 76, 77, 78, 79, 80, 81, 82] (by decide +kernel) (by decide +kernel)
set_option maxRecDepth 20000 in
theorem gX7_wish_X1_firstHourOf : GoodIn wsX7_wish (wsV RX7 107 RX1 yX1_firstHourOf wsX1_firstHourOf) := goodIn_app (goodIn_of _ (by decide +kernel)) ggX7_wish_X1_firstHourOf
set_option maxRecDepth 20000 in
theorem ggX7_wish_X1_spanOf : GoodIn wsX7_wish wsX1_spanOf := goodIn_r _ [33, 34, 19, 20, 21, 22, 23, 24, 71, 72, 73, 74, 75, 76, 77, 78, 79, 80, 81, 82] (by decide +kernel) (by decide +kernel)
set_option maxRecDepth 20000 in
theorem gX7_wish_X1_spanOf : GoodIn wsX7_wish (wsV RX7 110 RX1 yX1_spanOf wsX1_spanOf) := goodIn_app (goodIn_of _ (by decide +kernel)) ggX7_wish_X1_spanOf
set_option maxRecDepth 20000 in
theorem ggX7_wish_X1_valueOf : GoodIn wsX7_wish wsX1_valueOf := goodIn_r _ [38, 39, 19, 20, 21, 22, 23, 24, 71, 72, 73, 74, 75, 76, 77, 78, 79, 80, 81, 82] (by decide +kernel) (by decide +kernel)
set_option maxRecDepth 20000 in
theorem gX7_wish_X1_valueOf : GoodIn wsX7_wish (wsV RX7 113 RX1 yX1_valueOf wsX1_valueOf) := goodIn_app (goodIn_of _ (by decide +kernel)) ggX7_wish_X1_valueOf
set_option maxRecDepth 20000 in
theorem ggX7_wish_X1_wantsDark : GoodIn wsX7_wish wsX1_wantsDark := goodIn_r _ [43, 44, 19, 20, 21, 22, 23, 24, 71, 72, 73, 74, 75, 76, 77, 78, 79, 80, 81, 82] (by decide +kernel) (by decide +kernel)
set_option maxRecDepth 20000 in
theorem gX7_wish_X1_wantsDark : GoodIn wsX7_wish (wsV RX7 116 RX1 yX1_wantsDark wsX1_wantsDark) := goodIn_app (goodIn_of _ (by decide +kernel)) ggX7_wish_X1_wantsDark
set_option maxRecDepth 20000 in
theorem ggX7_wish_X1_grantedBy : GoodIn wsX7_wish wsX1_grantedBy := goodIn_r _ [48, 13, 49, 44, 19, 20, 21, 22, 23, 24, 71, 72, 73, 74, 75, 76, 77, 78, 79, 80, 81, 82] (by decide +kernel) (by decide +kernel)
set_option maxRecDepth 20000 in
theorem gX7_wish_X1_grantedBy : GoodIn wsX7_wish (wsV RX7 119 RX1 yX1_grantedBy wsX1_grantedBy) := goodIn_app (goodIn_of _ (by decide +kernel)) ggX7_wish_X1_grantedBy
set_option maxRecDepth 20000 in
theorem ggX7_wish_X7_has : GoodIn wsX7_wish wsX7_has := goodIn_r _ [52] (by decide +kernel) (by decide +kernel)
set_option maxRecDepth 20000 in
theorem gX7_wish_X7_has : GoodIn wsX7_wish (va_wsS RX7 122 yX7_has wsX7_has) := goodIn_app (goodIn_of _ (by decide +kernel)) ggX7_wish_X7_has
set_option maxRecDepth 20000 in
theorem ggX7_wish_X1_hoursOf : GoodIn wsX7_wish wsX1_hoursOf := goodIn_r _ [56, 34, 29, 19, 20, 21, 22, 23, 24, 71, 72, 73, 74, 75, 76, 77, 78, 79, 80, 81, 82] (by decide +kernel) (by decide +kernel)
set_option maxRecDepth 20000 in
theorem gX7_wish_X1_hoursOf : GoodIn wsX7_wish (wsV RX7 126 RX1 yX1_hoursOf wsX1_hoursOf) := goodIn_app (goodIn_of _ (by decide +kernel)) ggX7_wish_X1_hoursOf
theorem dX7_wish_0 : decode cX7_wish 0 = .ok (.aload_n 0, 1) := by decide +kernel
theorem dX7_wish_1 : decode cX7_wish 1 = .ok (.iload_n 1, 1) := by decide +kernel
theorem dX7_wish_2 : decode cX7_wish 2 = .ok (.invokevirtual 99, 3) := by decide +kernel
theorem dX7_wish_5 : decode cX7_wish 5 = .ok (.ifCond .ne 5, 3) := by decide +kernel
theorem dX7_wish_8 : decode cX7_wish 8 = .ok (.iconst (-1), 1) := by decide +kernel
theorem dX7_wish_9 : decode cX7_wish 9 = .ok (.ireturn, 1) := by decide +kernel
theorem dX7_wish_10 : decode cX7_wish 10 = .ok (.iload_n 2, 1) := by decide +kernel
theorem dX7_wish_11 : decode cX7_wish 11 = .ok (.tableswitch 127 0 6 #[41, 50, 59, 68, 77, 94, 118], 41) := by decide +kernel
theorem dX7_wish_52 : decode cX7_wish 52 = .ok (.aload_n 0, 1) := by decide +kernel
theorem dX7_wish_53 : decode cX7_wish 53 = .ok (.getfield 19, 3) := by decide +kernel
theorem dX7_wish_56 : decode cX7_wish 56 = .ok (.iload_n 1, 1) := by decide +kernel
theorem dX7_wish_57 : decode cX7_wish 57 = .ok (.invokevirtual 103, 3) := by decide +kernel
theorem dX7_wish_60 : decode cX7_wish 60 = .ok (.ireturn, 1) := by decide +kernel
theorem dX7_wish_61 : decode cX7_wish 61 = .ok (.aload_n 0, 1) := by decide +kernel
theorem dX7_wish_62 : decode cX7_wish 62 = .ok (.getfield 19, 3) := by decide +kernel
theorem dX7_wish_65 : decode cX7_wish 65 = .ok (.iload_n 1, 1) := by decide +kernel
theorem dX7_wish_66 : decode cX7_wish 66 = .ok (.invokevirtual 107, 3) := by decide +kernel
theorem dX7_wish_69 : decode cX7_wish 69 = .ok (.ireturn, 1) := by decide +kernel
theorem dX7_wish_70 : decode cX7_wish 70 = .ok (.aload_n 0, 1) := by decide +kernel
theorem dX7_wish_71 : decode cX7_wish 71 = .ok (.getfield 19, 3) := by decide +kernel
theorem dX7_wish_74 : decode cX7_wish 74 = .ok (.iload_n 1, 1) := by decide +kernel
theorem dX7_wish_75 : decode cX7_wish 75 = .ok (.invokevirtual 110, 3) := by decide +kernel
theorem dX7_wish_78 : decode cX7_wish 78 = .ok (.ireturn, 1) := by decide +kernel
theorem dX7_wish_79 : decode cX7_wish 79 = .ok (.aload_n 0, 1) := by decide +kernel
theorem dX7_wish_80 : decode cX7_wish 80 = .ok (.getfield 19, 3) := by decide +kernel
theorem dX7_wish_83 : decode cX7_wish 83 = .ok (.iload_n 1, 1) := by decide +kernel
theorem dX7_wish_84 : decode cX7_wish 84 = .ok (.invokevirtual 113, 3) := by decide +kernel
theorem dX7_wish_87 : decode cX7_wish 87 = .ok (.ireturn, 1) := by decide +kernel
theorem dX7_wish_88 : decode cX7_wish 88 = .ok (.aload_n 0, 1) := by decide +kernel
theorem dX7_wish_89 : decode cX7_wish 89 = .ok (.getfield 19, 3) := by decide +kernel
theorem dX7_wish_92 : decode cX7_wish 92 = .ok (.iload_n 1, 1) := by decide +kernel
theorem dX7_wish_93 : decode cX7_wish 93 = .ok (.invokevirtual 116, 3) := by decide +kernel
theorem dX7_wish_96 : decode cX7_wish 96 = .ok (.ifCond .eq 7, 3) := by decide +kernel
theorem dX7_wish_99 : decode cX7_wish 99 = .ok (.iconst 1, 1) := by decide +kernel
theorem dX7_wish_100 : decode cX7_wish 100 = .ok (.goto 4, 3) := by decide +kernel
theorem dX7_wish_103 : decode cX7_wish 103 = .ok (.iconst 0, 1) := by decide +kernel
theorem dX7_wish_104 : decode cX7_wish 104 = .ok (.ireturn, 1) := by decide +kernel
theorem dX7_wish_105 : decode cX7_wish 105 = .ok (.aload_n 0, 1) := by decide +kernel
theorem dX7_wish_106 : decode cX7_wish 106 = .ok (.getfield 19, 3) := by decide +kernel
theorem dX7_wish_109 : decode cX7_wish 109 = .ok (.aload_n 0, 1) := by decide +kernel
theorem dX7_wish_110 : decode cX7_wish 110 = .ok (.getfield 89, 3) := by decide +kernel
theorem dX7_wish_113 : decode cX7_wish 113 = .ok (.invokevirtual 119, 3) := by decide +kernel
theorem dX7_wish_116 : decode cX7_wish 116 = .ok (.iload_n 1, 1) := by decide +kernel
theorem dX7_wish_117 : decode cX7_wish 117 = .ok (.invokestatic 122, 3) := by decide +kernel
theorem dX7_wish_120 : decode cX7_wish 120 = .ok (.ifCond .eq 7, 3) := by decide +kernel
theorem dX7_wish_123 : decode cX7_wish 123 = .ok (.iconst 1, 1) := by decide +kernel
theorem dX7_wish_124 : decode cX7_wish 124 = .ok (.goto 4, 3) := by decide +kernel
theorem dX7_wish_127 : decode cX7_wish 127 = .ok (.iconst 0, 1) := by decide +kernel
theorem dX7_wish_128 : decode cX7_wish 128 = .ok (.ireturn, 1) := by decide +kernel
theorem dX7_wish_129 : decode cX7_wish 129 = .ok (.aload_n 0, 1) := by decide +kernel
theorem dX7_wish_130 : decode cX7_wish 130 = .ok (.getfield 19, 3) := by decide +kernel
theorem dX7_wish_133 : decode cX7_wish 133 = .ok (.iload_n 1, 1) := by decide +kernel
theorem dX7_wish_134 : decode cX7_wish 134 = .ok (.invokevirtual 126, 3) := by decide +kernel
theorem dX7_wish_137 : decode cX7_wish 137 = .ok (.ireturn, 1) := by decide +kernel
theorem dX7_wish_138 : decode cX7_wish 138 = .ok (.bipush (-2), 2) := by decide +kernel
theorem dX7_wish_140 : decode cX7_wish 140 = .ok (.ireturn, 1) := by decide +kernel
set_option maxRecDepth 20000 in
theorem ggX7_place_X7_isCell : GoodIn wsX7_place wsX7_isCell := goodIn_r _ [7] (by decide +kernel) (by decide +kernel)
set_option maxRecDepth 20000 in
theorem gX7_place_X7_isCell : GoodIn wsX7_place (va_wsS RX7 129 yX7_isCell wsX7_isCell) := goodIn_app (goodIn_of _ (by decide +kernel)) ggX7_place_X7_isCell
set_option maxRecDepth 20000 in
theorem ggX7_place_X7_cellAbove : GoodIn wsX7_place wsX7_cellAbove := goodIn_r _ [10] (by decide +kernel) (by decide +kernel)
set_option maxRecDepth 20000 in
theorem gX7_place_X7_cellAbove : GoodIn wsX7_place (va_wsS RX7 132 yX7_cellAbove wsX7_cellAbove) := goodIn_app (goodIn_of _ (by decide +kernel)) ggX7_place_X7_cellAbove
set_option maxRecDepth 20000 in
theorem ggX7_place_X7_has : GoodIn wsX7_place wsX7_has := goodIn_r _ [13] (by decide +kernel) (by decide +kernel)
set_option maxRecDepth 20000 in
theorem gX7_place_X7_has : GoodIn wsX7_place (va_wsS RX7 122 yX7_has wsX7_has) := goodIn_app (goodIn_of _ (by decide +kernel)) ggX7_place_X7_has
set_option maxRecDepth 20000 in
theorem ggX7_place_X7_darkHours : GoodIn wsX7_place wsX7_darkHours := goodIn_r _ [17, 1, 8, 9, 6, 10, 11, 12, 13, 30, 31, 32, 33, 34, 35, 36, 37, 38, 39, 40, 41, 42, 43] (by decide +kernel) (by decide +kernel)
set_option maxRecDepth 20000 in
theorem gX7_place_X7_darkHours : GoodIn wsX7_place (wsV RX7 136 RX7 yX7_darkHours wsX7_darkHours) := goodIn_app (goodIn_of _ (by decide +kernel)) ggX7_place_X7_darkHours
set_option maxRecDepth 20000 in
theorem ggX7_place_X1_owedTo : GoodIn wsX7_place wsX1_owedTo := goodIn_r _ [22, 23, 24, 25, 26, 27, 28, 29, 44, 45, 46, 47, 48, 49, 50, 51, 52, 53, 54, 55] (by decide +kernel) (by decide +kernel)
set_option maxRecDepth 20000 in
theorem gX7_place_X1_owedTo : GoodIn wsX7_place (wsV RX7 139 RX1 yX1_owedTo wsX1_owedTo) := goodIn_app (goodIn_of _ (by decide +kernel)) ggX7_place_X1_owedTo
theorem dX7_place_0 : decode cX7_place 0 = .ok (.iload_n 1, 1) := by decide +kernel
theorem dX7_place_1 : decode cX7_place 1 = .ok (.invokestatic 129, 3) := by decide +kernel
theorem dX7_place_4 : decode cX7_place 4 = .ok (.ifCond .ne 5, 3) := by decide +kernel
theorem dX7_place_7 : decode cX7_place 7 = .ok (.iconst (-1), 1) := by decide +kernel
theorem dX7_place_8 : decode cX7_place 8 = .ok (.ireturn, 1) := by decide +kernel
theorem dX7_place_9 : decode cX7_place 9 = .ok (.iload_n 2, 1) := by decide +kernel
theorem dX7_place_10 : decode cX7_place 10 = .ok (.tableswitch 78 0 3 #[30, 54, 60, 69], 30) := by decide +kernel
theorem dX7_place_40 : decode cX7_place 40 = .ok (.aload_n 0, 1) := by decide +kernel
theorem dX7_place_41 : decode cX7_place 41 = .ok (.getfield 89, 3) := by decide +kernel
theorem dX7_place_44 : decode cX7_place 44 = .ok (.iload_n 1, 1) := by decide +kernel
theorem dX7_place_45 : decode cX7_place 45 = .ok (.aload_n 0, 1) := by decide +kernel
theorem dX7_place_46 : decode cX7_place 46 = .ok (.getfield 93, 3) := by decide +kernel
theorem dX7_place_49 : decode cX7_place 49 = .ok (.invokestatic 132, 3) := by decide +kernel
theorem dX7_place_52 : decode cX7_place 52 = .ok (.invokestatic 122, 3) := by decide +kernel
theorem dX7_place_55 : decode cX7_place 55 = .ok (.ifCond .eq 7, 3) := by decide +kernel
theorem dX7_place_58 : decode cX7_place 58 = .ok (.iconst 1, 1) := by decide +kernel
theorem dX7_place_59 : decode cX7_place 59 = .ok (.goto 4, 3) := by decide +kernel
theorem dX7_place_62 : decode cX7_place 62 = .ok (.iconst 0, 1) := by decide +kernel
theorem dX7_place_63 : decode cX7_place 63 = .ok (.ireturn, 1) := by decide +kernel
theorem dX7_place_64 : decode cX7_place 64 = .ok (.aload_n 0, 1) := by decide +kernel
theorem dX7_place_65 : decode cX7_place 65 = .ok (.iload_n 1, 1) := by decide +kernel
theorem dX7_place_66 : decode cX7_place 66 = .ok (.invokevirtual 136, 3) := by decide +kernel
theorem dX7_place_69 : decode cX7_place 69 = .ok (.ireturn, 1) := by decide +kernel
theorem dX7_place_70 : decode cX7_place 70 = .ok (.aload_n 0, 1) := by decide +kernel
theorem dX7_place_71 : decode cX7_place 71 = .ok (.getfield 19, 3) := by decide +kernel
theorem dX7_place_74 : decode cX7_place 74 = .ok (.iload_n 1, 1) := by decide +kernel
theorem dX7_place_75 : decode cX7_place 75 = .ok (.invokevirtual 139, 3) := by decide +kernel
theorem dX7_place_78 : decode cX7_place 78 = .ok (.ireturn, 1) := by decide +kernel
theorem dX7_place_79 : decode cX7_place 79 = .ok (.iload_n 1, 1) := by decide +kernel
theorem dX7_place_80 : decode cX7_place 80 = .ok (.aload_n 0, 1) := by decide +kernel
theorem dX7_place_81 : decode cX7_place 81 = .ok (.getfield 93, 3) := by decide +kernel
theorem dX7_place_84 : decode cX7_place 84 = .ok (.invokestatic 132, 3) := by decide +kernel
theorem dX7_place_87 : decode cX7_place 87 = .ok (.ireturn, 1) := by decide +kernel
theorem dX7_place_88 : decode cX7_place 88 = .ok (.bipush (-2), 2) := by decide +kernel
theorem dX7_place_90 : decode cX7_place 90 = .ok (.ireturn, 1) := by decide +kernel
set_option maxRecDepth 20000 in
theorem ggX7_dark_X7_isCell : GoodIn wsX7_dark wsX7_isCell := goodIn_r _ [5] (by decide +kernel) (by decide +kernel)
set_option maxRecDepth 20000 in
theorem gX7_dark_X7_isCell : GoodIn wsX7_dark (va_wsS RX7 129 yX7_isCell wsX7_isCell) := goodIn_app (goodIn_of _ (by decide +kernel)) ggX7_dark_X7_isCell
set_option maxRecDepth 20000 in
theorem ggX7_dark_X7_isHour : GoodIn wsX7_dark wsX7_isHour := goodIn_r _ [8] (by decide +kernel) (by decide +kernel)
set_option maxRecDepth 20000 in
theorem gX7_dark_X7_isHour : GoodIn wsX7_dark (va_wsS RX7 142 yX7_isHour wsX7_isHour) := goodIn_app (goodIn_of _ (by decide +kernel)) ggX7_dark_X7_isHour
set_option maxRecDepth 20000 in
theorem ggX7_dark_X7_cellAbove : GoodIn wsX7_dark wsX7_cellAbove := goodIn_r _ [11] (by decide +kernel) (by decide +kernel)
set_option maxRecDepth 20000 in
theorem gX7_dark_X7_cellAbove : GoodIn wsX7_dark (va_wsS RX7 132 yX7_cellAbove wsX7_cellAbove) := goodIn_app (goodIn_of _ (by decide +kernel)) ggX7_dark_X7_cellAbove
set_option maxRecDepth 20000 in
theorem ggX7_dark_X7_has : GoodIn wsX7_dark wsX7_has := goodIn_r _ [14] (by decide +kernel) (by decide +kernel)
set_option maxRecDepth 20000 in
theorem gX7_dark_X7_has : GoodIn wsX7_dark (va_wsS RX7 122 yX7_has wsX7_has) := goodIn_app (goodIn_of _ (by decide +kernel)) ggX7_dark_X7_has
theorem dX7_dark_0 : decode cX7_dark 0 = .ok (.iload_n 1, 1) := by decide +kernel
theorem dX7_dark_1 : decode cX7_dark 1 = .ok (.invokestatic 129, 3) := by decide +kernel
theorem dX7_dark_4 : decode cX7_dark 4 = .ok (.ifCond .ne 5, 3) := by decide +kernel
theorem dX7_dark_7 : decode cX7_dark 7 = .ok (.iconst (-1), 1) := by decide +kernel
theorem dX7_dark_8 : decode cX7_dark 8 = .ok (.ireturn, 1) := by decide +kernel
theorem dX7_dark_9 : decode cX7_dark 9 = .ok (.iload_n 2, 1) := by decide +kernel
theorem dX7_dark_10 : decode cX7_dark 10 = .ok (.invokestatic 142, 3) := by decide +kernel
theorem dX7_dark_13 : decode cX7_dark 13 = .ok (.ifCond .ne 6, 3) := by decide +kernel
theorem dX7_dark_16 : decode cX7_dark 16 = .ok (.bipush (-2), 2) := by decide +kernel
theorem dX7_dark_18 : decode cX7_dark 18 = .ok (.ireturn, 1) := by decide +kernel
theorem dX7_dark_19 : decode cX7_dark 19 = .ok (.aload_n 0, 1) := by decide +kernel
theorem dX7_dark_20 : decode cX7_dark 20 = .ok (.getfield 89, 3) := by decide +kernel
theorem dX7_dark_23 : decode cX7_dark 23 = .ok (.iload_n 1, 1) := by decide +kernel
theorem dX7_dark_24 : decode cX7_dark 24 = .ok (.iload_n 2, 1) := by decide +kernel
theorem dX7_dark_25 : decode cX7_dark 25 = .ok (.invokestatic 132, 3) := by decide +kernel
theorem dX7_dark_28 : decode cX7_dark 28 = .ok (.invokestatic 122, 3) := by decide +kernel
theorem dX7_dark_31 : decode cX7_dark 31 = .ok (.ifCond .eq 7, 3) := by decide +kernel
theorem dX7_dark_34 : decode cX7_dark 34 = .ok (.iconst 1, 1) := by decide +kernel
theorem dX7_dark_35 : decode cX7_dark 35 = .ok (.goto 4, 3) := by decide +kernel
theorem dX7_dark_38 : decode cX7_dark 38 = .ok (.iconst 0, 1) := by decide +kernel
theorem dX7_dark_39 : decode cX7_dark 39 = .ok (.ireturn, 1) := by decide +kernel
set_option maxRecDepth 20000 in
theorem ggX7_read_X7_isCell : GoodIn wsX7_read wsX7_isCell := goodIn_r _ [6] (by decide +kernel) (by decide +kernel)
set_option maxRecDepth 20000 in
theorem gX7_read_X7_isCell : GoodIn wsX7_read (va_wsS RX7 129 yX7_isCell wsX7_isCell) := goodIn_app (goodIn_of _ (by decide +kernel)) ggX7_read_X7_isCell
set_option maxRecDepth 20000 in
theorem ggX7_read_X7_cellAbove : GoodIn wsX7_read wsX7_cellAbove := goodIn_r _ [9] (by decide +kernel) (by decide +kernel)
set_option maxRecDepth 20000 in
theorem gX7_read_X7_cellAbove : GoodIn wsX7_read (va_wsS RX7 132 yX7_cellAbove wsX7_cellAbove) := goodIn_app (goodIn_of _ (by decide +kernel)) ggX7_read_X7_cellAbove
set_option maxRecDepth 20000 in
theorem ggX7_read_X7_has : GoodIn wsX7_read wsX7_has := goodIn_r _ [12] (by decide +kernel) (by decide +kernel)
set_option maxRecDepth 20000 in
theorem gX7_read_X7_has : GoodIn wsX7_read (va_wsS RX7 122 yX7_has wsX7_has) := goodIn_app (goodIn_of _ (by decide +kernel)) ggX7_read_X7_has
set_option maxRecDepth 20000 in
theorem ggX7_read_X7_nextCell : GoodIn wsX7_read wsX7_nextCell := goodIn_r _ [15] (by decide +kernel) (by decide +kernel)
set_option maxRecDepth 20000 in
theorem gX7_read_X7_nextCell : GoodIn wsX7_read (va_wsS RX7 145 yX7_nextCell wsX7_nextCell) := goodIn_app (goodIn_of _ (by decide +kernel)) ggX7_read_X7_nextCell
theorem dX7_read_0 : decode cX7_read 0 = .ok (.iload_n 1, 1) := by decide +kernel
theorem dX7_read_1 : decode cX7_read 1 = .ok (.invokestatic 129, 3) := by decide +kernel
theorem dX7_read_4 : decode cX7_read 4 = .ok (.ifCond .ne 5, 3) := by decide +kernel
theorem dX7_read_7 : decode cX7_read 7 = .ok (.iconst (-1), 1) := by decide +kernel
theorem dX7_read_8 : decode cX7_read 8 = .ok (.ireturn, 1) := by decide +kernel
theorem dX7_read_9 : decode cX7_read 9 = .ok (.iconst 0, 1) := by decide +kernel
theorem dX7_read_10 : decode cX7_read 10 = .ok (.istore_n 2, 1) := by decide +kernel
theorem dX7_read_11 : decode cX7_read 11 = .ok (.iload_n 1, 1) := by decide +kernel
theorem dX7_read_12 : decode cX7_read 12 = .ok (.aload_n 0, 1) := by decide +kernel
theorem dX7_read_13 : decode cX7_read 13 = .ok (.getfield 93, 3) := by decide +kernel
theorem dX7_read_16 : decode cX7_read 16 = .ok (.invokestatic 132, 3) := by decide +kernel
theorem dX7_read_19 : decode cX7_read 19 = .ok (.istore_n 3, 1) := by decide +kernel
theorem dX7_read_20 : decode cX7_read 20 = .ok (.iconst 0, 1) := by decide +kernel
theorem dX7_read_21 : decode cX7_read 21 = .ok (.istore 4, 2) := by decide +kernel
theorem dX7_read_23 : decode cX7_read 23 = .ok (.iload 4, 2) := by decide +kernel
theorem dX7_read_25 : decode cX7_read 25 = .ok (.bipush 6, 2) := by decide +kernel
theorem dX7_read_27 : decode cX7_read 27 = .ok (.if_icmp .ge 36, 3) := by decide +kernel
theorem dX7_read_30 : decode cX7_read 30 = .ok (.iconst 2, 1) := by decide +kernel
theorem dX7_read_31 : decode cX7_read 31 = .ok (.iload_n 2, 1) := by decide +kernel
theorem dX7_read_32 : decode cX7_read 32 = .ok (.imul, 1) := by decide +kernel
theorem dX7_read_33 : decode cX7_read 33 = .ok (.aload_n 0, 1) := by decide +kernel
theorem dX7_read_34 : decode cX7_read 34 = .ok (.getfield 89, 3) := by decide +kernel
theorem dX7_read_37 : decode cX7_read 37 = .ok (.iload_n 3, 1) := by decide +kernel
theorem dX7_read_38 : decode cX7_read 38 = .ok (.invokestatic 122, 3) := by decide +kernel
theorem dX7_read_41 : decode cX7_read 41 = .ok (.ifCond .eq 7, 3) := by decide +kernel
theorem dX7_read_44 : decode cX7_read 44 = .ok (.iconst 1, 1) := by decide +kernel
theorem dX7_read_45 : decode cX7_read 45 = .ok (.goto 4, 3) := by decide +kernel
theorem dX7_read_48 : decode cX7_read 48 = .ok (.iconst 0, 1) := by decide +kernel
theorem dX7_read_49 : decode cX7_read 49 = .ok (.iadd, 1) := by decide +kernel
theorem dX7_read_50 : decode cX7_read 50 = .ok (.istore_n 2, 1) := by decide +kernel
theorem dX7_read_51 : decode cX7_read 51 = .ok (.iload_n 3, 1) := by decide +kernel
theorem dX7_read_52 : decode cX7_read 52 = .ok (.iconst 1, 1) := by decide +kernel
theorem dX7_read_53 : decode cX7_read 53 = .ok (.invokestatic 145, 3) := by decide +kernel
theorem dX7_read_56 : decode cX7_read 56 = .ok (.istore_n 3, 1) := by decide +kernel
theorem dX7_read_57 : decode cX7_read 57 = .ok (.iinc 4 1, 3) := by decide +kernel
theorem dX7_read_60 : decode cX7_read 60 = .ok (.goto (-37), 3) := by decide +kernel
theorem dX7_read_63 : decode cX7_read 63 = .ok (.iload_n 2, 1) := by decide +kernel
theorem dX7_read_64 : decode cX7_read 64 = .ok (.ireturn, 1) := by decide +kernel
set_option maxRecDepth 20000 in
theorem ggX7_hang_X7_isCell : GoodIn wsX7_hang wsX7_isCell := goodIn_r _ [6] (by decide +kernel) (by decide +kernel)
set_option maxRecDepth 20000 in
theorem gX7_hang_X7_isCell : GoodIn wsX7_hang (va_wsS RX7 129 yX7_isCell wsX7_isCell) := goodIn_app (goodIn_of _ (by decide +kernel)) ggX7_hang_X7_isCell
set_option maxRecDepth 20000 in
theorem ggX7_hang_X7_has : GoodIn wsX7_hang wsX7_has := goodIn_r _ [9] (by decide +kernel) (by decide +kernel)
set_option maxRecDepth 20000 in
theorem gX7_hang_X7_has : GoodIn wsX7_hang (va_wsS RX7 122 yX7_has wsX7_has) := goodIn_app (goodIn_of _ (by decide +kernel)) ggX7_hang_X7_has
set_option maxRecDepth 20000 in
theorem ggX7_hang_X7_squaresNow : GoodIn wsX7_hang wsX7_squaresNow := goodIn_r _ [13, 1, 14, 15, 16, 17, 18, 19, 20, 47, 48, 49, 50, 51, 52, 53, 54, 55, 56, 57, 58, 59, 60] (by decide +kernel) (by decide +kernel)
set_option maxRecDepth 20000 in
theorem gX7_hang_X7_squaresNow : GoodIn wsX7_hang (wsV RX7 148 RX7 yX7_squaresNow wsX7_squaresNow) := goodIn_app (goodIn_of _ (by decide +kernel)) ggX7_hang_X7_squaresNow
set_option maxRecDepth 20000 in
theorem ggX7_hang_X7_momentNow : GoodIn wsX7_hang wsX7_momentNow := goodIn_r _ [24, 25, 1, 47, 48, 49, 50, 51, 52, 53, 54, 55, 56, 57, 58, 59, 60] (by decide +kernel) (by decide +kernel)
set_option maxRecDepth 20000 in
theorem gX7_hang_X7_momentNow : GoodIn wsX7_hang (wsV RX7 151 RX7 yX7_momentNow wsX7_momentNow) := goodIn_app (goodIn_of _ (by decide +kernel)) ggX7_hang_X7_momentNow
set_option maxRecDepth 20000 in
theorem ggX7_hang_X0_add : GoodIn wsX7_hang wsX0_add := goodIn_r _ [30, 31, 32, 33, 34, 35, 29, 36, 37, 38, 39, 40, 41, 42, 43, 44, 45, 46, 61, 62, 63] (by decide +kernel) (by decide +kernel)
set_option maxRecDepth 20000 in
theorem gX7_hang_X0_add : GoodIn wsX7_hang (wsV RX7 154 RX0 yX0_add wsX0_add) := goodIn_app (goodIn_of _ (by decide +kernel)) ggX7_hang_X0_add
theorem dX7_hang_0 : decode cX7_hang 0 = .ok (.iload_n 1, 1) := by decide +kernel
theorem dX7_hang_1 : decode cX7_hang 1 = .ok (.invokestatic 129, 3) := by decide +kernel
theorem dX7_hang_4 : decode cX7_hang 4 = .ok (.ifCond .ne 5, 3) := by decide +kernel
theorem dX7_hang_7 : decode cX7_hang 7 = .ok (.iconst (-1), 1) := by decide +kernel
theorem dX7_hang_8 : decode cX7_hang 8 = .ok (.ireturn, 1) := by decide +kernel
theorem dX7_hang_9 : decode cX7_hang 9 = .ok (.aload_n 0, 1) := by decide +kernel
theorem dX7_hang_10 : decode cX7_hang 10 = .ok (.getfield 89, 3) := by decide +kernel
theorem dX7_hang_13 : decode cX7_hang 13 = .ok (.iload_n 1, 1) := by decide +kernel
theorem dX7_hang_14 : decode cX7_hang 14 = .ok (.invokestatic 122, 3) := by decide +kernel
theorem dX7_hang_17 : decode cX7_hang 17 = .ok (.ifCond .eq 6, 3) := by decide +kernel
theorem dX7_hang_20 : decode cX7_hang 20 = .ok (.bipush (-3), 2) := by decide +kernel
theorem dX7_hang_22 : decode cX7_hang 22 = .ok (.ireturn, 1) := by decide +kernel
theorem dX7_hang_23 : decode cX7_hang 23 = .ok (.aload_n 0, 1) := by decide +kernel
theorem dX7_hang_24 : decode cX7_hang 24 = .ok (.invokevirtual 148, 3) := by decide +kernel
theorem dX7_hang_27 : decode cX7_hang 27 = .ok (.iconst 5, 1) := by decide +kernel
theorem dX7_hang_28 : decode cX7_hang 28 = .ok (.if_icmp .lt 6, 3) := by decide +kernel
theorem dX7_hang_31 : decode cX7_hang 31 = .ok (.bipush (-4), 2) := by decide +kernel
theorem dX7_hang_33 : decode cX7_hang 33 = .ok (.ireturn, 1) := by decide +kernel
theorem dX7_hang_34 : decode cX7_hang 34 = .ok (.aload_n 0, 1) := by decide +kernel
theorem dX7_hang_35 : decode cX7_hang 35 = .ok (.getfield 52, 3) := by decide +kernel
theorem dX7_hang_38 : decode cX7_hang 38 = .ok (.aload_n 0, 1) := by decide +kernel
theorem dX7_hang_39 : decode cX7_hang 39 = .ok (.invokevirtual 151, 3) := by decide +kernel
theorem dX7_hang_42 : decode cX7_hang 42 = .ok (.invokevirtual 154, 3) := by decide +kernel
theorem dX7_hang_45 : decode cX7_hang 45 = .ok (.aload_n 0, 1) := by decide +kernel
theorem dX7_hang_46 : decode cX7_hang 46 = .ok (.dup, 1) := by decide +kernel
theorem dX7_hang_47 : decode cX7_hang 47 = .ok (.getfield 89, 3) := by decide +kernel
theorem dX7_hang_50 : decode cX7_hang 50 = .ok (.iconst 1, 1) := by decide +kernel
theorem dX7_hang_51 : decode cX7_hang 51 = .ok (.iload_n 1, 1) := by decide +kernel
theorem dX7_hang_52 : decode cX7_hang 52 = .ok (.ishl, 1) := by decide +kernel
theorem dX7_hang_53 : decode cX7_hang 53 = .ok (.ior, 1) := by decide +kernel
theorem dX7_hang_54 : decode cX7_hang 54 = .ok (.putfield 89, 3) := by decide +kernel
theorem dX7_hang_57 : decode cX7_hang 57 = .ok (.aload_n 0, 1) := by decide +kernel
theorem dX7_hang_58 : decode cX7_hang 58 = .ok (.invokevirtual 148, 3) := by decide +kernel
theorem dX7_hang_61 : decode cX7_hang 61 = .ok (.ireturn, 1) := by decide +kernel
set_option maxRecDepth 20000 in
theorem ggX7_take_X7_isCell : GoodIn wsX7_take wsX7_isCell := goodIn_r _ [6] (by decide +kernel) (by decide +kernel)
set_option maxRecDepth 20000 in
theorem gX7_take_X7_isCell : GoodIn wsX7_take (va_wsS RX7 129 yX7_isCell wsX7_isCell) := goodIn_app (goodIn_of _ (by decide +kernel)) ggX7_take_X7_isCell
set_option maxRecDepth 20000 in
theorem ggX7_take_X7_has : GoodIn wsX7_take wsX7_has := goodIn_r _ [9] (by decide +kernel) (by decide +kernel)
set_option maxRecDepth 20000 in
theorem gX7_take_X7_has : GoodIn wsX7_take (va_wsS RX7 122 yX7_has wsX7_has) := goodIn_app (goodIn_of _ (by decide +kernel)) ggX7_take_X7_has
set_option maxRecDepth 20000 in
theorem ggX7_take_X7_momentNow : GoodIn wsX7_take wsX7_momentNow := goodIn_r _ [13, 14, 1, 47, 48, 49, 50, 51, 52, 53, 54, 55, 56, 57, 58, 59, 60] (by decide +kernel) (by decide +kernel)
set_option maxRecDepth 20000 in
theorem gX7_take_X7_momentNow : GoodIn wsX7_take (wsV RX7 151 RX7 yX7_momentNow wsX7_momentNow) := goodIn_app (goodIn_of _ (by decide +kernel)) ggX7_take_X7_momentNow
set_option maxRecDepth 20000 in
theorem ggX7_take_X0_add : GoodIn wsX7_take wsX0_add := goodIn_r _ [19, 20, 21, 22, 23, 24, 18, 25, 26, 27, 28, 29, 30, 31, 32, 33, 34, 35, 61, 62, 63] (by decide +kernel) (by decide +kernel)
set_option maxRecDepth 20000 in
theorem gX7_take_X0_add : GoodIn wsX7_take (wsV RX7 154 RX0 yX0_add wsX0_add) := goodIn_app (goodIn_of _ (by decide +kernel)) ggX7_take_X0_add
set_option maxRecDepth 20000 in
theorem ggX7_take_X7_squaresNow : GoodIn wsX7_take wsX7_squaresNow := goodIn_r _ [39, 1, 40, 41, 42, 43, 44, 45, 46, 47, 48, 49, 50, 51, 52, 53, 54, 55, 56, 57, 58, 59, 60] (by decide +kernel) (by decide +kernel)
set_option maxRecDepth 20000 in
theorem gX7_take_X7_squaresNow : GoodIn wsX7_take (wsV RX7 148 RX7 yX7_squaresNow wsX7_squaresNow) := goodIn_app (goodIn_of _ (by decide +kernel)) ggX7_take_X7_squaresNow
theorem dX7_take_0 : decode cX7_take 0 = .ok (.iload_n 1, 1) := by decide +kernel
theorem dX7_take_1 : decode cX7_take 1 = .ok (.invokestatic 129, 3) := by decide +kernel
theorem dX7_take_4 : decode cX7_take 4 = .ok (.ifCond .ne 5, 3) := by decide +kernel
theorem dX7_take_7 : decode cX7_take 7 = .ok (.iconst (-1), 1) := by decide +kernel
theorem dX7_take_8 : decode cX7_take 8 = .ok (.ireturn, 1) := by decide +kernel
theorem dX7_take_9 : decode cX7_take 9 = .ok (.aload_n 0, 1) := by decide +kernel
theorem dX7_take_10 : decode cX7_take 10 = .ok (.getfield 89, 3) := by decide +kernel
theorem dX7_take_13 : decode cX7_take 13 = .ok (.iload_n 1, 1) := by decide +kernel
theorem dX7_take_14 : decode cX7_take 14 = .ok (.invokestatic 122, 3) := by decide +kernel
theorem dX7_take_17 : decode cX7_take 17 = .ok (.ifCond .ne 6, 3) := by decide +kernel
theorem dX7_take_20 : decode cX7_take 20 = .ok (.bipush (-3), 2) := by decide +kernel
theorem dX7_take_22 : decode cX7_take 22 = .ok (.ireturn, 1) := by decide +kernel
theorem dX7_take_23 : decode cX7_take 23 = .ok (.aload_n 0, 1) := by decide +kernel
theorem dX7_take_24 : decode cX7_take 24 = .ok (.getfield 52, 3) := by decide +kernel
theorem dX7_take_27 : decode cX7_take 27 = .ok (.aload_n 0, 1) := by decide +kernel
theorem dX7_take_28 : decode cX7_take 28 = .ok (.invokevirtual 151, 3) := by decide +kernel
theorem dX7_take_31 : decode cX7_take 31 = .ok (.invokevirtual 154, 3) := by decide +kernel
theorem dX7_take_34 : decode cX7_take 34 = .ok (.aload_n 0, 1) := by decide +kernel
theorem dX7_take_35 : decode cX7_take 35 = .ok (.dup, 1) := by decide +kernel
theorem dX7_take_36 : decode cX7_take 36 = .ok (.getfield 89, 3) := by decide +kernel
theorem dX7_take_39 : decode cX7_take 39 = .ok (.iconst 1, 1) := by decide +kernel
theorem dX7_take_40 : decode cX7_take 40 = .ok (.iload_n 1, 1) := by decide +kernel
theorem dX7_take_41 : decode cX7_take 41 = .ok (.ishl, 1) := by decide +kernel
theorem dX7_take_42 : decode cX7_take 42 = .ok (.iconst (-1), 1) := by decide +kernel
theorem dX7_take_43 : decode cX7_take 43 = .ok (.ixor, 1) := by decide +kernel
theorem dX7_take_44 : decode cX7_take 44 = .ok (.iand, 1) := by decide +kernel
theorem dX7_take_45 : decode cX7_take 45 = .ok (.putfield 89, 3) := by decide +kernel
theorem dX7_take_48 : decode cX7_take 48 = .ok (.aload_n 0, 1) := by decide +kernel
theorem dX7_take_49 : decode cX7_take 49 = .ok (.invokevirtual 148, 3) := by decide +kernel
theorem dX7_take_52 : decode cX7_take 52 = .ok (.ireturn, 1) := by decide +kernel
set_option maxRecDepth 20000 in
theorem ggX7_move_X7_isCell : GoodIn wsX7_move wsX7_isCell := goodIn_r _ [6] (by decide +kernel) (by decide +kernel)
set_option maxRecDepth 20000 in
theorem gX7_move_X7_isCell : GoodIn wsX7_move (va_wsS RX7 129 yX7_isCell wsX7_isCell) := goodIn_app (goodIn_of _ (by decide +kernel)) ggX7_move_X7_isCell
set_option maxRecDepth 20000 in
theorem ggX7_move_X7_afterMove : GoodIn wsX7_move wsX7_afterMove := goodIn_r _ [9, 10, 11, 5, 12, 13, 14, 15] (by decide +kernel) (by decide +kernel)
set_option maxRecDepth 20000 in
theorem gX7_move_X7_afterMove : GoodIn wsX7_move (va_wsS RX7 155 yX7_afterMove wsX7_afterMove) := goodIn_app (goodIn_of _ (by decide +kernel)) ggX7_move_X7_afterMove
set_option maxRecDepth 20000 in
theorem ggX7_move_X7_momentNow : GoodIn wsX7_move wsX7_momentNow := goodIn_r _ [19, 20, 1, 42, 43, 44, 45, 46, 47, 48, 49, 50, 51, 52, 53, 54, 55] (by decide +kernel) (by decide +kernel)
set_option maxRecDepth 20000 in
theorem gX7_move_X7_momentNow : GoodIn wsX7_move (wsV RX7 151 RX7 yX7_momentNow wsX7_momentNow) := goodIn_app (goodIn_of _ (by decide +kernel)) ggX7_move_X7_momentNow
set_option maxRecDepth 20000 in
theorem ggX7_move_X0_add : GoodIn wsX7_move wsX0_add := goodIn_r _ [25, 26, 27, 28, 29, 30, 24, 31, 32, 33, 34, 35, 36, 37, 38, 39, 40, 41, 56, 57, 58] (by decide +kernel) (by decide +kernel)
set_option maxRecDepth 20000 in
theorem gX7_move_X0_add : GoodIn wsX7_move (wsV RX7 154 RX0 yX0_add wsX0_add) := goodIn_app (goodIn_of _ (by decide +kernel)) ggX7_move_X0_add
set_option maxRecDepth 20000 in
theorem ggX7_move_X7_nextCell : GoodIn wsX7_move wsX7_nextCell := goodIn_r _ [12] (by decide +kernel) (by decide +kernel)
set_option maxRecDepth 20000 in
theorem gX7_move_X7_nextCell : GoodIn wsX7_move (va_wsS RX7 145 yX7_nextCell wsX7_nextCell) := goodIn_app (goodIn_of _ (by decide +kernel)) ggX7_move_X7_nextCell
theorem dX7_move_0 : decode cX7_move 0 = .ok (.iload_n 1, 1) := by decide +kernel
theorem dX7_move_1 : decode cX7_move 1 = .ok (.invokestatic 129, 3) := by decide +kernel
theorem dX7_move_4 : decode cX7_move 4 = .ok (.ifCond .ne 5, 3) := by decide +kernel
theorem dX7_move_7 : decode cX7_move 7 = .ok (.iconst (-1), 1) := by decide +kernel
theorem dX7_move_8 : decode cX7_move 8 = .ok (.ireturn, 1) := by decide +kernel
theorem dX7_move_9 : decode cX7_move 9 = .ok (.iload_n 2, 1) := by decide +kernel
theorem dX7_move_10 : decode cX7_move 10 = .ok (.iconst (-1), 1) := by decide +kernel
theorem dX7_move_11 : decode cX7_move 11 = .ok (.if_icmp .lt 8, 3) := by decide +kernel
theorem dX7_move_14 : decode cX7_move 14 = .ok (.iload_n 2, 1) := by decide +kernel
theorem dX7_move_15 : decode cX7_move 15 = .ok (.iconst 1, 1) := by decide +kernel
theorem dX7_move_16 : decode cX7_move 16 = .ok (.if_icmp .le 6, 3) := by decide +kernel
theorem dX7_move_19 : decode cX7_move 19 = .ok (.bipush (-2), 2) := by decide +kernel
theorem dX7_move_21 : decode cX7_move 21 = .ok (.ireturn, 1) := by decide +kernel
theorem dX7_move_22 : decode cX7_move 22 = .ok (.aload_n 0, 1) := by decide +kernel
theorem dX7_move_23 : decode cX7_move 23 = .ok (.getfield 89, 3) := by decide +kernel
theorem dX7_move_26 : decode cX7_move 26 = .ok (.iload_n 1, 1) := by decide +kernel
theorem dX7_move_27 : decode cX7_move 27 = .ok (.iload_n 2, 1) := by decide +kernel
theorem dX7_move_28 : decode cX7_move 28 = .ok (.invokestatic 155, 3) := by decide +kernel
theorem dX7_move_31 : decode cX7_move 31 = .ok (.istore_n 3, 1) := by decide +kernel
theorem dX7_move_32 : decode cX7_move 32 = .ok (.iload_n 3, 1) := by decide +kernel
theorem dX7_move_33 : decode cX7_move 33 = .ok (.bipush (-9), 2) := by decide +kernel
theorem dX7_move_35 : decode cX7_move 35 = .ok (.if_icmp .ne 6, 3) := by decide +kernel
theorem dX7_move_38 : decode cX7_move 38 = .ok (.bipush (-3), 2) := by decide +kernel
theorem dX7_move_40 : decode cX7_move 40 = .ok (.ireturn, 1) := by decide +kernel
theorem dX7_move_41 : decode cX7_move 41 = .ok (.aload_n 0, 1) := by decide +kernel
theorem dX7_move_42 : decode cX7_move 42 = .ok (.getfield 52, 3) := by decide +kernel
theorem dX7_move_45 : decode cX7_move 45 = .ok (.aload_n 0, 1) := by decide +kernel
theorem dX7_move_46 : decode cX7_move 46 = .ok (.invokevirtual 151, 3) := by decide +kernel
theorem dX7_move_49 : decode cX7_move 49 = .ok (.invokevirtual 154, 3) := by decide +kernel
theorem dX7_move_52 : decode cX7_move 52 = .ok (.aload_n 0, 1) := by decide +kernel
theorem dX7_move_53 : decode cX7_move 53 = .ok (.iload_n 3, 1) := by decide +kernel
theorem dX7_move_54 : decode cX7_move 54 = .ok (.putfield 89, 3) := by decide +kernel
theorem dX7_move_57 : decode cX7_move 57 = .ok (.iload_n 1, 1) := by decide +kernel
theorem dX7_move_58 : decode cX7_move 58 = .ok (.iload_n 2, 1) := by decide +kernel
theorem dX7_move_59 : decode cX7_move 59 = .ok (.invokestatic 145, 3) := by decide +kernel
theorem dX7_move_62 : decode cX7_move 62 = .ok (.ireturn, 1) := by decide +kernel
set_option maxRecDepth 20000 in
theorem ggX7_hour_X7_momentNow : GoodIn wsX7_hour wsX7_momentNow := goodIn_r _ [7, 2, 8, 30, 31, 32, 33, 34, 35, 36, 37, 38, 39, 40, 41, 42, 43] (by decide +kernel) (by decide +kernel)
set_option maxRecDepth 20000 in
theorem gX7_hour_X7_momentNow : GoodIn wsX7_hour (wsV RX7 151 RX7 yX7_momentNow wsX7_momentNow) := goodIn_app (goodIn_of _ (by decide +kernel)) ggX7_hour_X7_momentNow
set_option maxRecDepth 20000 in
theorem ggX7_hour_X0_add : GoodIn wsX7_hour wsX0_add := goodIn_r _ [13, 14, 15, 16, 17, 18, 12, 19, 20, 21, 22, 23, 24, 25, 26, 27, 28, 29, 44, 45, 46] (by decide +kernel) (by decide +kernel)
set_option maxRecDepth 20000 in
theorem gX7_hour_X0_add : GoodIn wsX7_hour (wsV RX7 154 RX0 yX0_add wsX0_add) := goodIn_app (goodIn_of _ (by decide +kernel)) ggX7_hour_X0_add
theorem dX7_hour_0 : decode cX7_hour 0 = .ok (.aload_n 0, 1) := by decide +kernel
theorem dX7_hour_1 : decode cX7_hour 1 = .ok (.getfield 52, 3) := by decide +kernel
theorem dX7_hour_4 : decode cX7_hour 4 = .ok (.aload_n 0, 1) := by decide +kernel
theorem dX7_hour_5 : decode cX7_hour 5 = .ok (.invokevirtual 151, 3) := by decide +kernel
theorem dX7_hour_8 : decode cX7_hour 8 = .ok (.invokevirtual 154, 3) := by decide +kernel
theorem dX7_hour_11 : decode cX7_hour 11 = .ok (.aload_n 0, 1) := by decide +kernel
theorem dX7_hour_12 : decode cX7_hour 12 = .ok (.aload_n 0, 1) := by decide +kernel
theorem dX7_hour_13 : decode cX7_hour 13 = .ok (.getfield 93, 3) := by decide +kernel
theorem dX7_hour_16 : decode cX7_hour 16 = .ok (.iconst 1, 1) := by decide +kernel
theorem dX7_hour_17 : decode cX7_hour 17 = .ok (.iadd, 1) := by decide +kernel
theorem dX7_hour_18 : decode cX7_hour 18 = .ok (.bipush 6, 2) := by decide +kernel
theorem dX7_hour_20 : decode cX7_hour 20 = .ok (.irem, 1) := by decide +kernel
theorem dX7_hour_21 : decode cX7_hour 21 = .ok (.putfield 93, 3) := by decide +kernel
theorem dX7_hour_24 : decode cX7_hour 24 = .ok (.aload_n 0, 1) := by decide +kernel
theorem dX7_hour_25 : decode cX7_hour 25 = .ok (.getfield 93, 3) := by decide +kernel
theorem dX7_hour_28 : decode cX7_hour 28 = .ok (.ireturn, 1) := by decide +kernel
set_option maxRecDepth 20000 in
theorem ggX7_undo_X0_removeLast : GoodIn wsX7_undo wsX0_removeLast := goodIn_r _ [6, 7, 8, 9, 10, 11, 12, 13, 14, 40, 41, 42] (by decide +kernel) (by decide +kernel)
set_option maxRecDepth 20000 in
theorem gX7_undo_X0_removeLast : GoodIn wsX7_undo (wsV RX7 159 RX0 yX0_removeLast wsX0_removeLast) := goodIn_app (goodIn_of _ (by decide +kernel)) ggX7_undo_X0_removeLast
set_option maxRecDepth 20000 in
theorem ggX7_undo_X7_goBackTo : GoodIn wsX7_undo wsX7_goBackTo := goodIn_r _ [19, 20, 21, 26, 27, 28, 29, 30, 31, 32, 33, 34, 35, 36, 37, 38, 39] (by decide +kernel) (by decide +kernel)
set_option maxRecDepth 20000 in
theorem gX7_undo_X7_goBackTo : GoodIn wsX7_undo (wsV RX7 162 RX7 yX7_goBackTo wsX7_goBackTo) := goodIn_app (goodIn_of _ (by decide +kernel)) ggX7_undo_X7_goBackTo
set_option maxRecDepth 20000 in
theorem ggX7_undo_X0_size : GoodIn wsX7_undo wsX0_size := goodIn_r _ [25, 7, 40, 41] (by decide +kernel) (by decide +kernel)
set_option maxRecDepth 20000 in
theorem gX7_undo_X0_size : GoodIn wsX7_undo (wsV RX7 165 RX0 yX0_size wsX0_size) := goodIn_app (goodIn_of _ (by decide +kernel)) ggX7_undo_X0_size
theorem dX7_undo_0 : decode cX7_undo 0 = .ok (.aload_n 0, 1) := by decide +kernel
theorem dX7_undo_1 : decode cX7_undo 1 = .ok (.getfield 52, 3) := by decide +kernel
theorem dX7_undo_4 : decode cX7_undo 4 = .ok (.invokevirtual 159, 3) := by decide +kernel
theorem dX7_undo_7 : decode cX7_undo 7 = .ok (.istore_n 1, 1) := by decide +kernel
theorem dX7_undo_8 : decode cX7_undo 8 = .ok (.iload_n 1, 1) := by decide +kernel
theorem dX7_undo_9 : decode cX7_undo 9 = .ok (.bipush (-9), 2) := by decide +kernel
theorem dX7_undo_11 : decode cX7_undo 11 = .ok (.if_icmp .ne 6, 3) := by decide +kernel
theorem dX7_undo_14 : decode cX7_undo 14 = .ok (.bipush (-3), 2) := by decide +kernel
theorem dX7_undo_16 : decode cX7_undo 16 = .ok (.ireturn, 1) := by decide +kernel
theorem dX7_undo_17 : decode cX7_undo 17 = .ok (.aload_n 0, 1) := by decide +kernel
theorem dX7_undo_18 : decode cX7_undo 18 = .ok (.iload_n 1, 1) := by decide +kernel
theorem dX7_undo_19 : decode cX7_undo 19 = .ok (.invokevirtual 162, 3) := by decide +kernel
theorem dX7_undo_22 : decode cX7_undo 22 = .ok (.aload_n 0, 1) := by decide +kernel
theorem dX7_undo_23 : decode cX7_undo 23 = .ok (.getfield 52, 3) := by decide +kernel
theorem dX7_undo_26 : decode cX7_undo 26 = .ok (.invokevirtual 165, 3) := by decide +kernel
theorem dX7_undo_29 : decode cX7_undo 29 = .ok (.ireturn, 1) := by decide +kernel
set_option maxRecDepth 20000 in
theorem ggX7_judge_X7_afterToldMove : GoodIn wsX7_judge wsX7_afterToldMove := goodIn_r _ [6, 7, 8, 5, 9, 10, 11, 12, 13, 14, 15, 16, 17, 18] (by decide +kernel) (by decide +kernel)
set_option maxRecDepth 20000 in
theorem gX7_judge_X7_afterToldMove : GoodIn wsX7_judge (va_wsS RX7 169 yX7_afterToldMove wsX7_afterToldMove) := goodIn_app (goodIn_of _ (by decide +kernel)) ggX7_judge_X7_afterToldMove
theorem dX7_judge_0 : decode cX7_judge 0 = .ok (.iload_n 1, 1) := by decide +kernel
theorem dX7_judge_1 : decode cX7_judge 1 = .ok (.iconst 1, 1) := by decide +kernel
theorem dX7_judge_2 : decode cX7_judge 2 = .ok (.if_icmp .lt 29, 3) := by decide +kernel
theorem dX7_judge_5 : decode cX7_judge 5 = .ok (.iload_n 1, 1) := by decide +kernel
theorem dX7_judge_6 : decode cX7_judge 6 = .ok (.iconst 2, 1) := by decide +kernel
theorem dX7_judge_7 : decode cX7_judge 7 = .ok (.if_icmp .gt 24, 3) := by decide +kernel
theorem dX7_judge_10 : decode cX7_judge 10 = .ok (.iload_n 2, 1) := by decide +kernel
theorem dX7_judge_11 : decode cX7_judge 11 = .ok (.ifCond .lt 20, 3) := by decide +kernel
theorem dX7_judge_14 : decode cX7_judge 14 = .ok (.iload_n 2, 1) := by decide +kernel
theorem dX7_judge_15 : decode cX7_judge 15 = .ok (.iload_n 1, 1) := by decide +kernel
theorem dX7_judge_16 : decode cX7_judge 16 = .ok (.iconst 1, 1) := by decide +kernel
theorem dX7_judge_17 : decode cX7_judge 17 = .ok (.if_icmp .ne 9, 3) := by decide +kernel
theorem dX7_judge_20 : decode cX7_judge 20 = .ok (.sipush 999, 3) := by decide +kernel
theorem dX7_judge_23 : decode cX7_judge 23 = .ok (.goto 5, 3) := by decide +kernel
theorem dX7_judge_26 : decode cX7_judge 26 = .ok (.ldc 168, 2) := by decide +kernel
theorem dX7_judge_28 : decode cX7_judge 28 = .ok (.if_icmp .le 6, 3) := by decide +kernel
theorem dX7_judge_31 : decode cX7_judge 31 = .ok (.bipush (-2), 2) := by decide +kernel
theorem dX7_judge_33 : decode cX7_judge 33 = .ok (.ireturn, 1) := by decide +kernel
theorem dX7_judge_34 : decode cX7_judge 34 = .ok (.aload_n 0, 1) := by decide +kernel
theorem dX7_judge_35 : decode cX7_judge 35 = .ok (.getfield 89, 3) := by decide +kernel
theorem dX7_judge_38 : decode cX7_judge 38 = .ok (.istore_n 3, 1) := by decide +kernel
theorem dX7_judge_39 : decode cX7_judge 39 = .ok (.iconst 0, 1) := by decide +kernel
theorem dX7_judge_40 : decode cX7_judge 40 = .ok (.istore 4, 2) := by decide +kernel
theorem dX7_judge_42 : decode cX7_judge 42 = .ok (.iload 4, 2) := by decide +kernel
theorem dX7_judge_44 : decode cX7_judge 44 = .ok (.iload_n 1, 1) := by decide +kernel
theorem dX7_judge_45 : decode cX7_judge 45 = .ok (.if_icmp .ge 56, 3) := by decide +kernel
theorem dX7_judge_48 : decode cX7_judge 48 = .ok (.iload 4, 2) := by decide +kernel
theorem dX7_judge_50 : decode cX7_judge 50 = .ok (.iload_n 1, 1) := by decide +kernel
theorem dX7_judge_51 : decode cX7_judge 51 = .ok (.iconst 1, 1) := by decide +kernel
theorem dX7_judge_52 : decode cX7_judge 52 = .ok (.isub, 1) := by decide +kernel
theorem dX7_judge_53 : decode cX7_judge 53 = .ok (.if_icmp .ge 11, 3) := by decide +kernel
theorem dX7_judge_56 : decode cX7_judge 56 = .ok (.iload_n 2, 1) := by decide +kernel
theorem dX7_judge_57 : decode cX7_judge 57 = .ok (.sipush 1000, 3) := by decide +kernel
theorem dX7_judge_60 : decode cX7_judge 60 = .ok (.idiv, 1) := by decide +kernel
theorem dX7_judge_61 : decode cX7_judge 61 = .ok (.goto 8, 3) := by decide +kernel
theorem dX7_judge_64 : decode cX7_judge 64 = .ok (.iload_n 2, 1) := by decide +kernel
theorem dX7_judge_65 : decode cX7_judge 65 = .ok (.sipush 1000, 3) := by decide +kernel
theorem dX7_judge_68 : decode cX7_judge 68 = .ok (.irem, 1) := by decide +kernel
theorem dX7_judge_69 : decode cX7_judge 69 = .ok (.istore 5, 2) := by decide +kernel
theorem dX7_judge_71 : decode cX7_judge 71 = .ok (.iload_n 3, 1) := by decide +kernel
theorem dX7_judge_72 : decode cX7_judge 72 = .ok (.iload 5, 2) := by decide +kernel
theorem dX7_judge_74 : decode cX7_judge 74 = .ok (.bipush 10, 2) := by decide +kernel
theorem dX7_judge_76 : decode cX7_judge 76 = .ok (.idiv, 1) := by decide +kernel
theorem dX7_judge_77 : decode cX7_judge 77 = .ok (.iload 5, 2) := by decide +kernel
theorem dX7_judge_79 : decode cX7_judge 79 = .ok (.bipush 10, 2) := by decide +kernel
theorem dX7_judge_81 : decode cX7_judge 81 = .ok (.irem, 1) := by decide +kernel
theorem dX7_judge_82 : decode cX7_judge 82 = .ok (.invokestatic 169, 3) := by decide +kernel
theorem dX7_judge_85 : decode cX7_judge 85 = .ok (.istore_n 3, 1) := by decide +kernel
theorem dX7_judge_86 : decode cX7_judge 86 = .ok (.iload_n 3, 1) := by decide +kernel
theorem dX7_judge_87 : decode cX7_judge 87 = .ok (.bipush (-9), 2) := by decide +kernel
theorem dX7_judge_89 : decode cX7_judge 89 = .ok (.if_icmp .ne 6, 3) := by decide +kernel
theorem dX7_judge_92 : decode cX7_judge 92 = .ok (.iload 4, 2) := by decide +kernel
theorem dX7_judge_94 : decode cX7_judge 94 = .ok (.ireturn, 1) := by decide +kernel
theorem dX7_judge_95 : decode cX7_judge 95 = .ok (.iinc 4 1, 3) := by decide +kernel
theorem dX7_judge_98 : decode cX7_judge 98 = .ok (.goto (-56), 3) := by decide +kernel
theorem dX7_judge_101 : decode cX7_judge 101 = .ok (.bipush (-9), 2) := by decide +kernel
theorem dX7_judge_103 : decode cX7_judge 103 = .ok (.ireturn, 1) := by decide +kernel
set_option maxRecDepth 20000 in
theorem ggX7_worth_X7_isHanging : GoodIn wsX7_worth wsX7_isHanging := goodIn_r _ [5, 6, 7, 8, 9, 10, 11, 12] (by decide +kernel) (by decide +kernel)
set_option maxRecDepth 20000 in
theorem gX7_worth_X7_isHanging : GoodIn wsX7_worth (va_wsS RX7 172 yX7_isHanging wsX7_isHanging) := goodIn_app (goodIn_of _ (by decide +kernel)) ggX7_worth_X7_isHanging
set_option maxRecDepth 20000 in
theorem ggX7_worth_X1_worthOf : GoodIn wsX7_worth wsX1_worthOf := goodIn_r _ [17, 18, 19, 20, 16, 21, 22, 23, 24, 25, 26, 27, 28, 29, 30, 31, 32, 33, 34, 35, 36, 4, 37, 52, 53, 54, 55, 56, 57, 58, 59, 60, 61, 62, 63] (by decide +kernel) (by decide +kernel)
set_option maxRecDepth 20000 in
theorem gX7_worth_X1_worthOf : GoodIn wsX7_worth (wsV RX7 175 RX1 yX1_worthOf wsX1_worthOf) := goodIn_app (goodIn_of _ (by decide +kernel)) ggX7_worth_X1_worthOf
theorem dX7_worth_0 : decode cX7_worth 0 = .ok (.iload_n 1, 1) := by decide +kernel
theorem dX7_worth_1 : decode cX7_worth 1 = .ok (.invokestatic 172, 3) := by decide +kernel
theorem dX7_worth_4 : decode cX7_worth 4 = .ok (.ifCond .eq 14, 3) := by decide +kernel
theorem dX7_worth_7 : decode cX7_worth 7 = .ok (.aload_n 0, 1) := by decide +kernel
theorem dX7_worth_8 : decode cX7_worth 8 = .ok (.getfield 19, 3) := by decide +kernel
theorem dX7_worth_11 : decode cX7_worth 11 = .ok (.iload_n 1, 1) := by decide +kernel
theorem dX7_worth_12 : decode cX7_worth 12 = .ok (.invokevirtual 175, 3) := by decide +kernel
theorem dX7_worth_15 : decode cX7_worth 15 = .ok (.goto 5, 3) := by decide +kernel
theorem dX7_worth_18 : decode cX7_worth 18 = .ok (.bipush (-2), 2) := by decide +kernel
theorem dX7_worth_20 : decode cX7_worth 20 = .ok (.ireturn, 1) := by decide +kernel
set_option maxRecDepth 20000 in
theorem ggX7_lawful_X7_isHanging : GoodIn wsX7_lawful wsX7_isHanging := goodIn_r _ [5, 6, 7, 8, 9, 10, 11, 12] (by decide +kernel) (by decide +kernel)
set_option maxRecDepth 20000 in
theorem gX7_lawful_X7_isHanging : GoodIn wsX7_lawful (va_wsS RX7 172 yX7_isHanging wsX7_isHanging) := goodIn_app (goodIn_of _ (by decide +kernel)) ggX7_lawful_X7_isHanging
set_option maxRecDepth 20000 in
theorem ggX7_lawful_X1_allows : GoodIn wsX7_lawful wsX1_allows := goodIn_r _ [17, 18, 19, 7, 8, 9, 10, 11, 12, 20, 21, 22, 23, 24, 25, 40, 41, 42, 43, 44, 45, 46, 47, 48, 49, 50, 51] (by decide +kernel) (by decide +kernel)
set_option maxRecDepth 20000 in
theorem gX7_lawful_X1_allows : GoodIn wsX7_lawful (wsV RX7 178 RX1 yX1_allows wsX1_allows) := goodIn_app (goodIn_of _ (by decide +kernel)) ggX7_lawful_X1_allows
theorem dX7_lawful_0 : decode cX7_lawful 0 = .ok (.iload_n 1, 1) := by decide +kernel
theorem dX7_lawful_1 : decode cX7_lawful 1 = .ok (.invokestatic 172, 3) := by decide +kernel
theorem dX7_lawful_4 : decode cX7_lawful 4 = .ok (.ifCond .ne 6, 3) := by decide +kernel
theorem dX7_lawful_7 : decode cX7_lawful 7 = .ok (.bipush (-2), 2) := by decide +kernel
theorem dX7_lawful_9 : decode cX7_lawful 9 = .ok (.ireturn, 1) := by decide +kernel
theorem dX7_lawful_10 : decode cX7_lawful 10 = .ok (.aload_n 0, 1) := by decide +kernel
theorem dX7_lawful_11 : decode cX7_lawful 11 = .ok (.getfield 19, 3) := by decide +kernel
theorem dX7_lawful_14 : decode cX7_lawful 14 = .ok (.iload_n 1, 1) := by decide +kernel
theorem dX7_lawful_15 : decode cX7_lawful 15 = .ok (.invokevirtual 178, 3) := by decide +kernel
theorem dX7_lawful_18 : decode cX7_lawful 18 = .ok (.ifCond .eq 7, 3) := by decide +kernel
theorem dX7_lawful_21 : decode cX7_lawful 21 = .ok (.iconst 1, 1) := by decide +kernel
theorem dX7_lawful_22 : decode cX7_lawful 22 = .ok (.goto 4, 3) := by decide +kernel
theorem dX7_lawful_25 : decode cX7_lawful 25 = .ok (.iconst 0, 1) := by decide +kernel
theorem dX7_lawful_26 : decode cX7_lawful 26 = .ok (.ireturn, 1) := by decide +kernel
set_option maxRecDepth 20000 in
theorem ggX7_best_X7_isSquares : GoodIn wsX7_best wsX7_isSquares := goodIn_r _ [6] (by decide +kernel) (by decide +kernel)
set_option maxRecDepth 20000 in
theorem gX7_best_X7_isSquares : GoodIn wsX7_best (va_wsS RX7 181 yX7_isSquares wsX7_isSquares) := goodIn_app (goodIn_of _ (by decide +kernel)) ggX7_best_X7_isSquares
set_option maxRecDepth 20000 in
theorem ggX7_best_X5_bestOf : GoodIn wsX7_best wsX5_bestOf := goodIn_r _ [11, 12, 13, 14, 15, 10, 16, 17, 18, 19, 20, 21, 22, 23, 24, 25, 26, 27, 28, 5, 29, 30, 31, 32, 33, 34, 35, 36, 37, 38, 39, 40, 41, 42, 43, 44, 45, 46, 47, 48, 49, 50, 51, 52, 53, 54, 55, 56, 57, 58, 59, 60, 61, 62, 63, 64, 65, 66, 67, 68, 69, 70, 71, 72, 73, 74, 75, 97, 98, 99, 100, 101, 102, 103, 104, 105, 106, 107, 108, 109, 110, 111, 112, 113, 114] (by decide +kernel) (by decide +kernel)
set_option maxRecDepth 20000 in
theorem gX7_best_X5_bestOf : GoodIn wsX7_best (wsV RX7 184 RX5 yX5_bestOf wsX5_bestOf) := goodIn_app (goodIn_of _ (by decide +kernel)) ggX7_best_X5_bestOf
set_option maxRecDepth 20000 in
theorem ggX7_best_X1_worthOf : GoodIn wsX7_best wsX1_worthOf := goodIn_r _ [79, 80, 54, 55, 40, 56, 57, 58, 59, 44, 45, 46, 25, 47, 27, 81, 61, 62, 63, 64, 65, 5, 66, 104, 105, 106, 107, 108, 109, 110, 111, 112, 113, 114, 103] (by decide +kernel) (by decide +kernel)
set_option maxRecDepth 20000 in
theorem gX7_best_X1_worthOf : GoodIn wsX7_best (wsV RX7 175 RX1 yX1_worthOf wsX1_worthOf) := goodIn_app (goodIn_of _ (by decide +kernel)) ggX7_best_X1_worthOf
set_option maxRecDepth 20000 in
theorem ggX7_best_X1_grantedBy : GoodIn wsX7_best wsX1_grantedBy := goodIn_r _ [56, 57, 58, 59, 44, 45, 46, 25, 47, 27, 104, 105, 106, 107, 108, 109, 110, 111, 112, 113, 114, 103] (by decide +kernel) (by decide +kernel)
set_option maxRecDepth 20000 in
theorem gX7_best_X1_grantedBy : GoodIn wsX7_best (wsV RX7 119 RX1 yX1_grantedBy wsX1_grantedBy) := goodIn_app (goodIn_of _ (by decide +kernel)) ggX7_best_X1_grantedBy
theorem dX7_best_0 : decode cX7_best 0 = .ok (.iload_n 1, 1) := by decide +kernel
theorem dX7_best_1 : decode cX7_best 1 = .ok (.invokestatic 181, 3) := by decide +kernel
theorem dX7_best_4 : decode cX7_best 4 = .ok (.ifCond .eq 12, 3) := by decide +kernel
theorem dX7_best_7 : decode cX7_best 7 = .ok (.iload_n 2, 1) := by decide +kernel
theorem dX7_best_8 : decode cX7_best 8 = .ok (.ifCond .lt 8, 3) := by decide +kernel
theorem dX7_best_11 : decode cX7_best 11 = .ok (.iload_n 2, 1) := by decide +kernel
theorem dX7_best_12 : decode cX7_best 12 = .ok (.iconst 2, 1) := by decide +kernel
theorem dX7_best_13 : decode cX7_best 13 = .ok (.if_icmp .le 6, 3) := by decide +kernel
theorem dX7_best_16 : decode cX7_best 16 = .ok (.bipush (-2), 2) := by decide +kernel
theorem dX7_best_18 : decode cX7_best 18 = .ok (.ireturn, 1) := by decide +kernel
theorem dX7_best_19 : decode cX7_best 19 = .ok (.aload_n 0, 1) := by decide +kernel
theorem dX7_best_20 : decode cX7_best 20 = .ok (.getfield 38, 3) := by decide +kernel
theorem dX7_best_23 : decode cX7_best 23 = .ok (.iload_n 1, 1) := by decide +kernel
theorem dX7_best_24 : decode cX7_best 24 = .ok (.invokevirtual 184, 3) := by decide +kernel
theorem dX7_best_27 : decode cX7_best 27 = .ok (.istore_n 3, 1) := by decide +kernel
theorem dX7_best_28 : decode cX7_best 28 = .ok (.iload_n 3, 1) := by decide +kernel
theorem dX7_best_29 : decode cX7_best 29 = .ok (.bipush (-9), 2) := by decide +kernel
theorem dX7_best_31 : decode cX7_best 31 = .ok (.if_icmp .ne 6, 3) := by decide +kernel
theorem dX7_best_34 : decode cX7_best 34 = .ok (.bipush (-9), 2) := by decide +kernel
theorem dX7_best_36 : decode cX7_best 36 = .ok (.ireturn, 1) := by decide +kernel
theorem dX7_best_37 : decode cX7_best 37 = .ok (.iload_n 2, 1) := by decide +kernel
theorem dX7_best_38 : decode cX7_best 38 = .ok (.iconst 1, 1) := by decide +kernel
theorem dX7_best_39 : decode cX7_best 39 = .ok (.if_icmp .ne 5, 3) := by decide +kernel
theorem dX7_best_42 : decode cX7_best 42 = .ok (.iload_n 3, 1) := by decide +kernel
theorem dX7_best_43 : decode cX7_best 43 = .ok (.ireturn, 1) := by decide +kernel
theorem dX7_best_44 : decode cX7_best 44 = .ok (.iload_n 2, 1) := by decide +kernel
theorem dX7_best_45 : decode cX7_best 45 = .ok (.ifCond .ne 14, 3) := by decide +kernel
theorem dX7_best_48 : decode cX7_best 48 = .ok (.aload_n 0, 1) := by decide +kernel
theorem dX7_best_49 : decode cX7_best 49 = .ok (.getfield 19, 3) := by decide +kernel
theorem dX7_best_52 : decode cX7_best 52 = .ok (.iload_n 3, 1) := by decide +kernel
theorem dX7_best_53 : decode cX7_best 53 = .ok (.invokevirtual 175, 3) := by decide +kernel
theorem dX7_best_56 : decode cX7_best 56 = .ok (.goto 11, 3) := by decide +kernel
theorem dX7_best_59 : decode cX7_best 59 = .ok (.aload_n 0, 1) := by decide +kernel
theorem dX7_best_60 : decode cX7_best 60 = .ok (.getfield 19, 3) := by decide +kernel
theorem dX7_best_63 : decode cX7_best 63 = .ok (.iload_n 3, 1) := by decide +kernel
theorem dX7_best_64 : decode cX7_best 64 = .ok (.invokevirtual 119, 3) := by decide +kernel
theorem dX7_best_67 : decode cX7_best 67 = .ok (.ireturn, 1) := by decide +kernel
set_option maxRecDepth 20000 in
theorem ggX7_many_X7_isSquares : GoodIn wsX7_many wsX7_isSquares := goodIn_r _ [5] (by decide +kernel) (by decide +kernel)
set_option maxRecDepth 20000 in
theorem gX7_many_X7_isSquares : GoodIn wsX7_many (va_wsS RX7 181 yX7_isSquares wsX7_isSquares) := goodIn_app (goodIn_of _ (by decide +kernel)) ggX7_many_X7_isSquares
set_option maxRecDepth 20000 in
theorem ggX7_many_X5_lawfulOf : GoodIn wsX7_many wsX5_lawfulOf := goodIn_r _ [10, 11, 12, 13, 14, 9, 15, 16, 17, 18, 19, 20, 21, 22, 23, 24, 25, 26, 27, 4, 28, 29, 30, 31, 32, 33, 34, 35, 36, 37, 38, 39, 40, 41, 42, 43, 44, 45, 46, 47, 48, 49, 50, 51, 52, 53, 54, 55, 56, 57, 58, 59, 60, 61, 62, 63, 64, 65, 66, 67, 68, 69, 70, 71, 72, 73, 74, 89, 90, 91, 92, 93, 94, 95, 96, 97, 98, 99, 100, 101, 102, 103, 104, 105, 106] (by decide +kernel) (by decide +kernel)
set_option maxRecDepth 20000 in
theorem gX7_many_X5_lawfulOf : GoodIn wsX7_many (wsV RX7 187 RX5 yX5_lawfulOf wsX5_lawfulOf) := goodIn_app (goodIn_of _ (by decide +kernel)) ggX7_many_X5_lawfulOf
theorem dX7_many_0 : decode cX7_many 0 = .ok (.iload_n 1, 1) := by decide +kernel
theorem dX7_many_1 : decode cX7_many 1 = .ok (.invokestatic 181, 3) := by decide +kernel
theorem dX7_many_4 : decode cX7_many 4 = .ok (.ifCond .eq 14, 3) := by decide +kernel
theorem dX7_many_7 : decode cX7_many 7 = .ok (.aload_n 0, 1) := by decide +kernel
theorem dX7_many_8 : decode cX7_many 8 = .ok (.getfield 38, 3) := by decide +kernel
theorem dX7_many_11 : decode cX7_many 11 = .ok (.iload_n 1, 1) := by decide +kernel
theorem dX7_many_12 : decode cX7_many 12 = .ok (.invokevirtual 187, 3) := by decide +kernel
theorem dX7_many_15 : decode cX7_many 15 = .ok (.goto 5, 3) := by decide +kernel
theorem dX7_many_18 : decode cX7_many 18 = .ok (.bipush (-2), 2) := by decide +kernel
theorem dX7_many_20 : decode cX7_many 20 = .ok (.ireturn, 1) := by decide +kernel
set_option maxRecDepth 20000 in
theorem ggX7_bars_X7_isWish : GoodIn wsX7_bars wsX7_isWish := goodIn_r _ [6, 1, 7, 8, 9, 10, 11, 12, 88, 89, 90, 91, 92, 93, 94, 95, 96, 97, 98, 99, 100, 101, 102, 103, 104, 105, 106, 107, 108, 109, 110, 111, 112] (by decide +kernel) (by decide +kernel)
set_option maxRecDepth 20000 in
theorem gX7_bars_X7_isWish : GoodIn wsX7_bars (wsV RX7 99 RX7 yX7_isWish wsX7_isWish) := goodIn_app (goodIn_of _ (by decide +kernel)) ggX7_bars_X7_isWish
set_option maxRecDepth 20000 in
theorem ggX7_bars_X7_isSquares : GoodIn wsX7_bars wsX7_isSquares := goodIn_r _ [15] (by decide +kernel) (by decide +kernel)
set_option maxRecDepth 20000 in
theorem gX7_bars_X7_isSquares : GoodIn wsX7_bars (va_wsS RX7 181 yX7_isSquares wsX7_isSquares) := goodIn_app (goodIn_of _ (by decide +kernel)) ggX7_bars_X7_isSquares
set_option maxRecDepth 20000 in
theorem ggX7_bars_X1_wishCount : GoodIn wsX7_bars wsX1_wishCount := goodIn_r _ [11, 12, 102, 103, 104, 105, 106, 107, 108, 109, 110, 111, 112] (by decide +kernel) (by decide +kernel)
set_option maxRecDepth 20000 in
theorem gX7_bars_X1_wishCount : GoodIn wsX7_bars (wsV RX7 96 RX1 yX1_wishCount wsX1_wishCount) := goodIn_app (goodIn_of _ (by decide +kernel)) ggX7_bars_X1_wishCount
set_option maxRecDepth 20000 in
theorem ggX7_bars_X7_areBarred : GoodIn wsX7_bars wsX7_areBarred := goodIn_r _ [19, 20, 21, 22, 23, 24, 25, 26, 27, 28, 29, 30, 31, 32, 33, 34, 35, 36, 37, 38, 39, 40, 41, 42, 5, 43, 44, 45, 46, 47, 48, 49, 50, 51, 52, 53, 10, 54, 55, 56, 57, 58, 59, 60, 61, 62, 63, 64, 65, 66, 67, 68, 69, 12, 70, 71, 72, 73, 74, 75, 76, 77, 78, 79, 80, 81, 82, 83, 84, 85, 86, 87, 88, 89, 90, 91, 92, 93, 94, 95, 96, 97, 98, 99, 100, 101, 113, 114, 115, 116, 117, 118, 119, 102, 103, 104, 105, 106, 107, 108, 109, 110, 111, 112] (by decide +kernel) (by decide +kernel)
set_option maxRecDepth 20000 in
theorem gX7_bars_X7_areBarred : GoodIn wsX7_bars (wsV RX7 190 RX7 yX7_areBarred wsX7_areBarred) := goodIn_app (goodIn_of _ (by decide +kernel)) ggX7_bars_X7_areBarred
theorem dX7_bars_0 : decode cX7_bars 0 = .ok (.aload_n 0, 1) := by decide +kernel
theorem dX7_bars_1 : decode cX7_bars 1 = .ok (.iload_n 1, 1) := by decide +kernel
theorem dX7_bars_2 : decode cX7_bars 2 = .ok (.invokevirtual 99, 3) := by decide +kernel
theorem dX7_bars_5 : decode cX7_bars 5 = .ok (.ifCond .ne 5, 3) := by decide +kernel
theorem dX7_bars_8 : decode cX7_bars 8 = .ok (.iconst (-1), 1) := by decide +kernel
theorem dX7_bars_9 : decode cX7_bars 9 = .ok (.ireturn, 1) := by decide +kernel
theorem dX7_bars_10 : decode cX7_bars 10 = .ok (.iload_n 2, 1) := by decide +kernel
theorem dX7_bars_11 : decode cX7_bars 11 = .ok (.invokestatic 181, 3) := by decide +kernel
theorem dX7_bars_14 : decode cX7_bars 14 = .ok (.ifCond .ne 6, 3) := by decide +kernel
theorem dX7_bars_17 : decode cX7_bars 17 = .ok (.bipush (-2), 2) := by decide +kernel
theorem dX7_bars_19 : decode cX7_bars 19 = .ok (.ireturn, 1) := by decide +kernel
theorem dX7_bars_20 : decode cX7_bars 20 = .ok (.iconst 0, 1) := by decide +kernel
theorem dX7_bars_21 : decode cX7_bars 21 = .ok (.istore_n 3, 1) := by decide +kernel
theorem dX7_bars_22 : decode cX7_bars 22 = .ok (.iconst 0, 1) := by decide +kernel
theorem dX7_bars_23 : decode cX7_bars 23 = .ok (.istore 4, 2) := by decide +kernel
theorem dX7_bars_25 : decode cX7_bars 25 = .ok (.iload 4, 2) := by decide +kernel
theorem dX7_bars_27 : decode cX7_bars 27 = .ok (.aload_n 0, 1) := by decide +kernel
theorem dX7_bars_28 : decode cX7_bars 28 = .ok (.getfield 19, 3) := by decide +kernel
theorem dX7_bars_31 : decode cX7_bars 31 = .ok (.invokevirtual 96, 3) := by decide +kernel
theorem dX7_bars_34 : decode cX7_bars 34 = .ok (.if_icmp .ge 33, 3) := by decide +kernel
theorem dX7_bars_37 : decode cX7_bars 37 = .ok (.iload 4, 2) := by decide +kernel
theorem dX7_bars_39 : decode cX7_bars 39 = .ok (.iload_n 1, 1) := by decide +kernel
theorem dX7_bars_40 : decode cX7_bars 40 = .ok (.if_icmp .eq 21, 3) := by decide +kernel
theorem dX7_bars_43 : decode cX7_bars 43 = .ok (.aload_n 0, 1) := by decide +kernel
theorem dX7_bars_44 : decode cX7_bars 44 = .ok (.iload_n 1, 1) := by decide +kernel
theorem dX7_bars_45 : decode cX7_bars 45 = .ok (.iload 4, 2) := by decide +kernel
theorem dX7_bars_47 : decode cX7_bars 47 = .ok (.iload_n 2, 1) := by decide +kernel
theorem dX7_bars_48 : decode cX7_bars 48 = .ok (.invokevirtual 190, 3) := by decide +kernel
theorem dX7_bars_51 : decode cX7_bars 51 = .ok (.ifCond .eq 10, 3) := by decide +kernel
theorem dX7_bars_54 : decode cX7_bars 54 = .ok (.iload_n 3, 1) := by decide +kernel
theorem dX7_bars_55 : decode cX7_bars 55 = .ok (.iconst 1, 1) := by decide +kernel
theorem dX7_bars_56 : decode cX7_bars 56 = .ok (.iload 4, 2) := by decide +kernel
theorem dX7_bars_58 : decode cX7_bars 58 = .ok (.ishl, 1) := by decide +kernel
theorem dX7_bars_59 : decode cX7_bars 59 = .ok (.ior, 1) := by decide +kernel
theorem dX7_bars_60 : decode cX7_bars 60 = .ok (.istore_n 3, 1) := by decide +kernel
theorem dX7_bars_61 : decode cX7_bars 61 = .ok (.iinc 4 1, 3) := by decide +kernel
theorem dX7_bars_64 : decode cX7_bars 64 = .ok (.goto (-39), 3) := by decide +kernel
theorem dX7_bars_67 : decode cX7_bars 67 = .ok (.iload_n 3, 1) := by decide +kernel
theorem dX7_bars_68 : decode cX7_bars 68 = .ok (.ireturn, 1) := by decide +kernel
set_option maxRecDepth 20000 in
theorem ggX7_loss_X7_isCell : GoodIn wsX7_loss wsX7_isCell := goodIn_r _ [6] (by decide +kernel) (by decide +kernel)
set_option maxRecDepth 20000 in
theorem gX7_loss_X7_isCell : GoodIn wsX7_loss (va_wsS RX7 129 yX7_isCell wsX7_isCell) := goodIn_app (goodIn_of _ (by decide +kernel)) ggX7_loss_X7_isCell
set_option maxRecDepth 20000 in
theorem ggX7_loss_X7_has : GoodIn wsX7_loss wsX7_has := goodIn_r _ [9] (by decide +kernel) (by decide +kernel)
set_option maxRecDepth 20000 in
theorem gX7_loss_X7_has : GoodIn wsX7_loss (va_wsS RX7 122 yX7_has wsX7_has) := goodIn_app (goodIn_of _ (by decide +kernel)) ggX7_loss_X7_has
set_option maxRecDepth 20000 in
theorem ggX7_loss_X1_worthOf : GoodIn wsX7_loss wsX1_worthOf := goodIn_r _ [14, 15, 16, 17, 13, 18, 19, 20, 21, 22, 23, 24, 25, 26, 27, 28, 29, 30, 31, 32, 8, 5, 9, 47, 48, 49, 50, 51, 52, 53, 54, 55, 56, 57, 58] (by decide +kernel) (by decide +kernel)
set_option maxRecDepth 20000 in
theorem gX7_loss_X1_worthOf : GoodIn wsX7_loss (wsV RX7 175 RX1 yX1_worthOf wsX1_worthOf) := goodIn_app (goodIn_of _ (by decide +kernel)) ggX7_loss_X1_worthOf
theorem dX7_loss_0 : decode cX7_loss 0 = .ok (.iload_n 1, 1) := by decide +kernel
theorem dX7_loss_1 : decode cX7_loss 1 = .ok (.invokestatic 129, 3) := by decide +kernel
theorem dX7_loss_4 : decode cX7_loss 4 = .ok (.ifCond .ne 5, 3) := by decide +kernel
theorem dX7_loss_7 : decode cX7_loss 7 = .ok (.iconst (-1), 1) := by decide +kernel
theorem dX7_loss_8 : decode cX7_loss 8 = .ok (.ireturn, 1) := by decide +kernel
theorem dX7_loss_9 : decode cX7_loss 9 = .ok (.aload_n 0, 1) := by decide +kernel
theorem dX7_loss_10 : decode cX7_loss 10 = .ok (.getfield 89, 3) := by decide +kernel
theorem dX7_loss_13 : decode cX7_loss 13 = .ok (.iload_n 1, 1) := by decide +kernel
theorem dX7_loss_14 : decode cX7_loss 14 = .ok (.invokestatic 122, 3) := by decide +kernel
theorem dX7_loss_17 : decode cX7_loss 17 = .ok (.ifCond .ne 6, 3) := by decide +kernel
theorem dX7_loss_20 : decode cX7_loss 20 = .ok (.bipush (-3), 2) := by decide +kernel
theorem dX7_loss_22 : decode cX7_loss 22 = .ok (.ireturn, 1) := by decide +kernel
theorem dX7_loss_23 : decode cX7_loss 23 = .ok (.sipush 1000, 3) := by decide +kernel
theorem dX7_loss_26 : decode cX7_loss 26 = .ok (.aload_n 0, 1) := by decide +kernel
theorem dX7_loss_27 : decode cX7_loss 27 = .ok (.getfield 19, 3) := by decide +kernel
theorem dX7_loss_30 : decode cX7_loss 30 = .ok (.aload_n 0, 1) := by decide +kernel
theorem dX7_loss_31 : decode cX7_loss 31 = .ok (.getfield 89, 3) := by decide +kernel
theorem dX7_loss_34 : decode cX7_loss 34 = .ok (.invokevirtual 175, 3) := by decide +kernel
theorem dX7_loss_37 : decode cX7_loss 37 = .ok (.iadd, 1) := by decide +kernel
theorem dX7_loss_38 : decode cX7_loss 38 = .ok (.aload_n 0, 1) := by decide +kernel
theorem dX7_loss_39 : decode cX7_loss 39 = .ok (.getfield 19, 3) := by decide +kernel
theorem dX7_loss_42 : decode cX7_loss 42 = .ok (.aload_n 0, 1) := by decide +kernel
theorem dX7_loss_43 : decode cX7_loss 43 = .ok (.getfield 89, 3) := by decide +kernel
theorem dX7_loss_46 : decode cX7_loss 46 = .ok (.iconst 1, 1) := by decide +kernel
theorem dX7_loss_47 : decode cX7_loss 47 = .ok (.iload_n 1, 1) := by decide +kernel
theorem dX7_loss_48 : decode cX7_loss 48 = .ok (.ishl, 1) := by decide +kernel
theorem dX7_loss_49 : decode cX7_loss 49 = .ok (.iconst (-1), 1) := by decide +kernel
theorem dX7_loss_50 : decode cX7_loss 50 = .ok (.ixor, 1) := by decide +kernel
theorem dX7_loss_51 : decode cX7_loss 51 = .ok (.iand, 1) := by decide +kernel
theorem dX7_loss_52 : decode cX7_loss 52 = .ok (.invokevirtual 175, 3) := by decide +kernel
theorem dX7_loss_55 : decode cX7_loss 55 = .ok (.isub, 1) := by decide +kernel
theorem dX7_loss_56 : decode cX7_loss 56 = .ok (.ireturn, 1) := by decide +kernel
set_option maxRecDepth 20000 in
theorem ggX7_flow_X7_isHanging : GoodIn wsX7_flow wsX7_isHanging := goodIn_r _ [6, 7, 8, 9, 10, 11, 12, 13] (by decide +kernel) (by decide +kernel)
set_option maxRecDepth 20000 in
theorem gX7_flow_X7_isHanging : GoodIn wsX7_flow (va_wsS RX7 172 yX7_isHanging wsX7_isHanging) := goodIn_app (goodIn_of _ (by decide +kernel)) ggX7_flow_X7_isHanging
set_option maxRecDepth 20000 in
theorem ggX7_flow_J6_bitCount_0f7a4 : GoodIn wsX7_flow wsJ6_bitCount_0f7a4 := goodIn_r _ [10, 11, 12, 13] (by decide +kernel) (by decide +kernel)
set_option maxRecDepth 20000 in
theorem gX7_flow_J6_bitCount_0f7a4 : GoodIn wsX7_flow (va_wsS RX7 194 yJ6_bitCount_0f7a4 wsJ6_bitCount_0f7a4) := goodIn_app (goodIn_of _ (by decide +kernel)) ggX7_flow_J6_bitCount_0f7a4
set_option maxRecDepth 20000 in
theorem ggX7_flow_X7_squaresNow : GoodIn wsX7_flow wsX7_squaresNow := goodIn_r _ [17, 2, 7, 8, 9, 10, 11, 12, 13, 56, 57, 58, 59, 60, 61, 62, 63, 64, 65, 66, 67, 68, 69] (by decide +kernel) (by decide +kernel)
set_option maxRecDepth 20000 in
theorem gX7_flow_X7_squaresNow : GoodIn wsX7_flow (wsV RX7 148 RX7 yX7_squaresNow wsX7_squaresNow) := goodIn_app (goodIn_of _ (by decide +kernel)) ggX7_flow_X7_squaresNow
set_option maxRecDepth 20000 in
theorem ggX7_flow_X2_fewestMoves : GoodIn wsX7_flow wsX2_fewestMoves := goodIn_r _ [22, 23, 24, 25, 26, 27, 21, 28, 29, 5, 30, 31, 32, 33, 34, 35, 36, 37, 8, 9, 10, 11, 12, 13, 38, 39, 40, 41, 42, 43, 44, 45, 46, 47, 48, 49, 50, 51, 52, 53, 54, 55, 70, 71, 72, 73] (by decide +kernel) (by decide +kernel)
set_option maxRecDepth 20000 in
theorem gX7_flow_X2_fewestMoves : GoodIn wsX7_flow (wsV RX7 199 RX2 yX2_fewestMoves wsX2_fewestMoves) := goodIn_app (goodIn_of _ (by decide +kernel)) ggX7_flow_X2_fewestMoves
theorem dX7_flow_0 : decode cX7_flow 0 = .ok (.iload_n 1, 1) := by decide +kernel
theorem dX7_flow_1 : decode cX7_flow 1 = .ok (.invokestatic 172, 3) := by decide +kernel
theorem dX7_flow_4 : decode cX7_flow 4 = .ok (.ifCond .ne 6, 3) := by decide +kernel
theorem dX7_flow_7 : decode cX7_flow 7 = .ok (.bipush (-2), 2) := by decide +kernel
theorem dX7_flow_9 : decode cX7_flow 9 = .ok (.ireturn, 1) := by decide +kernel
theorem dX7_flow_10 : decode cX7_flow 10 = .ok (.iload_n 1, 1) := by decide +kernel
theorem dX7_flow_11 : decode cX7_flow 11 = .ok (.invokestatic 194, 3) := by decide +kernel
theorem dX7_flow_14 : decode cX7_flow 14 = .ok (.aload_n 0, 1) := by decide +kernel
theorem dX7_flow_15 : decode cX7_flow 15 = .ok (.invokevirtual 148, 3) := by decide +kernel
theorem dX7_flow_18 : decode cX7_flow 18 = .ok (.if_icmp .eq 6, 3) := by decide +kernel
theorem dX7_flow_21 : decode cX7_flow 21 = .ok (.bipush (-3), 2) := by decide +kernel
theorem dX7_flow_23 : decode cX7_flow 23 = .ok (.ireturn, 1) := by decide +kernel
theorem dX7_flow_24 : decode cX7_flow 24 = .ok (.aload_n 0, 1) := by decide +kernel
theorem dX7_flow_25 : decode cX7_flow 25 = .ok (.getfield 45, 3) := by decide +kernel
theorem dX7_flow_28 : decode cX7_flow 28 = .ok (.aload_n 0, 1) := by decide +kernel
theorem dX7_flow_29 : decode cX7_flow 29 = .ok (.getfield 89, 3) := by decide +kernel
theorem dX7_flow_32 : decode cX7_flow 32 = .ok (.iload_n 1, 1) := by decide +kernel
theorem dX7_flow_33 : decode cX7_flow 33 = .ok (.invokevirtual 199, 3) := by decide +kernel
theorem dX7_flow_36 : decode cX7_flow 36 = .ok (.ireturn, 1) := by decide +kernel
set_option maxRecDepth 20000 in
theorem ggX7_due_X7_isWish : GoodIn wsX7_due wsX7_isWish := goodIn_r _ [7, 2, 8, 9, 10, 11, 12, 13, 99, 100, 101, 102, 103, 104, 105, 106, 107, 108, 109, 110, 111, 112, 113, 114, 115, 116, 117, 118, 119, 120, 121, 122, 123] (by decide +kernel) (by decide +kernel)
set_option maxRecDepth 20000 in
theorem gX7_due_X7_isWish : GoodIn wsX7_due (wsV RX7 99 RX7 yX7_isWish wsX7_isWish) := goodIn_app (goodIn_of _ (by decide +kernel)) ggX7_due_X7_isWish
set_option maxRecDepth 20000 in
theorem ggX7_due_X7_isSquares : GoodIn wsX7_due wsX7_isSquares := goodIn_r _ [16] (by decide +kernel) (by decide +kernel)
set_option maxRecDepth 20000 in
theorem gX7_due_X7_isSquares : GoodIn wsX7_due (va_wsS RX7 181 yX7_isSquares wsX7_isSquares) := goodIn_app (goodIn_of _ (by decide +kernel)) ggX7_due_X7_isSquares
set_option maxRecDepth 20000 in
theorem ggX7_due_X5_bestOf : GoodIn wsX7_due wsX5_bestOf := goodIn_r _ [21, 22, 23, 24, 25, 20, 26, 27, 28, 29, 30, 31, 32, 33, 34, 35, 36, 37, 38, 6, 39, 40, 41, 42, 43, 44, 45, 46, 47, 48, 49, 11, 50, 51, 52, 53, 54, 55, 56, 57, 58, 59, 60, 61, 62, 63, 64, 65, 13, 66, 67, 68, 69, 70, 71, 72, 73, 74, 75, 76, 77, 78, 79, 80, 81, 82, 83, 124, 125, 126, 127, 128, 129, 130, 113, 114, 115, 116, 117, 118, 119, 120, 121, 122, 123] (by decide +kernel) (by decide +kernel)
set_option maxRecDepth 20000 in
theorem gX7_due_X5_bestOf : GoodIn wsX7_due (wsV RX7 184 RX5 yX5_bestOf wsX5_bestOf) := goodIn_app (goodIn_of _ (by decide +kernel)) ggX7_due_X5_bestOf
set_option maxRecDepth 20000 in
theorem ggX7_due_X1_grantedBy : GoodIn wsX7_due wsX1_grantedBy := goodIn_r _ [65, 13, 66, 67, 53, 54, 55, 35, 56, 37, 113, 114, 115, 116, 117, 118, 119, 120, 121, 122, 123, 130] (by decide +kernel) (by decide +kernel)
set_option maxRecDepth 20000 in
theorem gX7_due_X1_grantedBy : GoodIn wsX7_due (wsV RX7 119 RX1 yX1_grantedBy wsX1_grantedBy) := goodIn_app (goodIn_of _ (by decide +kernel)) ggX7_due_X1_grantedBy
set_option maxRecDepth 20000 in
theorem ggX7_due_X7_has : GoodIn wsX7_due wsX7_has := goodIn_r _ [74] (by decide +kernel) (by decide +kernel)
set_option maxRecDepth 20000 in
theorem gX7_due_X7_has : GoodIn wsX7_due (va_wsS RX7 122 yX7_has wsX7_has) := goodIn_app (goodIn_of _ (by decide +kernel)) ggX7_due_X7_has
set_option maxRecDepth 20000 in
theorem ggX7_due_X1_allWishes : GoodIn wsX7_due wsX1_allWishes := goodIn_r _ [89, 13, 113, 114, 115, 116, 117, 118, 119, 120, 121, 122, 123] (by decide +kernel) (by decide +kernel)
set_option maxRecDepth 20000 in
theorem gX7_due_X1_allWishes : GoodIn wsX7_due (wsV RX7 202 RX1 yX1_allWishes wsX1_allWishes) := goodIn_app (goodIn_of _ (by decide +kernel)) ggX7_due_X1_allWishes
set_option maxRecDepth 20000 in
theorem ggX7_due_X5_mostWorth : GoodIn wsX7_due wsX5_mostWorth := goodIn_r _ [93, 29, 31, 94, 95, 96, 97, 23, 24, 25, 20, 26, 27, 28, 22, 30, 32, 33, 34, 35, 36, 37, 38, 6, 39, 40, 41, 42, 43, 44, 45, 46, 47, 48, 49, 11, 50, 51, 52, 53, 54, 55, 56, 57, 58, 59, 60, 61, 62, 63, 64, 65, 13, 66, 67, 68, 69, 70, 71, 72, 73, 74, 75, 76, 77, 78, 79, 80, 81, 82, 83, 124, 125, 126, 127, 128, 129, 130, 113, 114, 115, 116, 117, 118, 119, 120, 121, 122, 123] (by decide +kernel) (by decide +kernel)
set_option maxRecDepth 20000 in
theorem gX7_due_X5_mostWorth : GoodIn wsX7_due (wsV RX7 205 RX5 yX5_mostWorth wsX5_mostWorth) := goodIn_app (goodIn_of _ (by decide +kernel)) ggX7_due_X5_mostWorth
set_option maxRecDepth 20000 in
theorem ggX7_due_X1_sumOf : GoodIn wsX7_due wsX1_sumOf := goodIn_r _ [71, 13, 72, 73, 6, 74, 53, 54, 55, 35, 56, 37, 113, 114, 115, 116, 117, 118, 119, 120, 121, 122, 123, 130] (by decide +kernel) (by decide +kernel)
set_option maxRecDepth 20000 in
theorem gX7_due_X1_sumOf : GoodIn wsX7_due (wsV RX7 208 RX1 yX1_sumOf wsX1_sumOf) := goodIn_app (goodIn_of _ (by decide +kernel)) ggX7_due_X1_sumOf
theorem dX7_due_0 : decode cX7_due 0 = .ok (.aload_n 0, 1) := by decide +kernel
theorem dX7_due_1 : decode cX7_due 1 = .ok (.iload_n 1, 1) := by decide +kernel
theorem dX7_due_2 : decode cX7_due 2 = .ok (.invokevirtual 99, 3) := by decide +kernel
theorem dX7_due_5 : decode cX7_due 5 = .ok (.ifCond .ne 5, 3) := by decide +kernel
theorem dX7_due_8 : decode cX7_due 8 = .ok (.iconst (-1), 1) := by decide +kernel
theorem dX7_due_9 : decode cX7_due 9 = .ok (.ireturn, 1) := by decide +kernel
theorem dX7_due_10 : decode cX7_due 10 = .ok (.iload_n 2, 1) := by decide +kernel
theorem dX7_due_11 : decode cX7_due 11 = .ok (.invokestatic 181, 3) := by decide +kernel
theorem dX7_due_14 : decode cX7_due 14 = .ok (.ifCond .ne 6, 3) := by decide +kernel
theorem dX7_due_17 : decode cX7_due 17 = .ok (.bipush (-2), 2) := by decide +kernel
theorem dX7_due_19 : decode cX7_due 19 = .ok (.ireturn, 1) := by decide +kernel
theorem dX7_due_20 : decode cX7_due 20 = .ok (.aload_n 0, 1) := by decide +kernel
theorem dX7_due_21 : decode cX7_due 21 = .ok (.getfield 38, 3) := by decide +kernel
theorem dX7_due_24 : decode cX7_due 24 = .ok (.iload_n 2, 1) := by decide +kernel
theorem dX7_due_25 : decode cX7_due 25 = .ok (.invokevirtual 184, 3) := by decide +kernel
theorem dX7_due_28 : decode cX7_due 28 = .ok (.istore_n 3, 1) := by decide +kernel
theorem dX7_due_29 : decode cX7_due 29 = .ok (.iload_n 3, 1) := by decide +kernel
theorem dX7_due_30 : decode cX7_due 30 = .ok (.bipush (-9), 2) := by decide +kernel
theorem dX7_due_32 : decode cX7_due 32 = .ok (.if_icmp .ne 6, 3) := by decide +kernel
theorem dX7_due_35 : decode cX7_due 35 = .ok (.bipush (-9), 2) := by decide +kernel
theorem dX7_due_37 : decode cX7_due 37 = .ok (.ireturn, 1) := by decide +kernel
theorem dX7_due_38 : decode cX7_due 38 = .ok (.aload_n 0, 1) := by decide +kernel
theorem dX7_due_39 : decode cX7_due 39 = .ok (.getfield 19, 3) := by decide +kernel
theorem dX7_due_42 : decode cX7_due 42 = .ok (.iload_n 3, 1) := by decide +kernel
theorem dX7_due_43 : decode cX7_due 43 = .ok (.invokevirtual 119, 3) := by decide +kernel
theorem dX7_due_46 : decode cX7_due 46 = .ok (.istore 4, 2) := by decide +kernel
theorem dX7_due_48 : decode cX7_due 48 = .ok (.iload 4, 2) := by decide +kernel
theorem dX7_due_50 : decode cX7_due 50 = .ok (.iload_n 1, 1) := by decide +kernel
theorem dX7_due_51 : decode cX7_due 51 = .ok (.invokestatic 122, 3) := by decide +kernel
theorem dX7_due_54 : decode cX7_due 54 = .ok (.ifCond .ne 5, 3) := by decide +kernel
theorem dX7_due_57 : decode cX7_due 57 = .ok (.iconst 0, 1) := by decide +kernel
theorem dX7_due_58 : decode cX7_due 58 = .ok (.ireturn, 1) := by decide +kernel
theorem dX7_due_59 : decode cX7_due 59 = .ok (.aload_n 0, 1) := by decide +kernel
theorem dX7_due_60 : decode cX7_due 60 = .ok (.getfield 19, 3) := by decide +kernel
theorem dX7_due_63 : decode cX7_due 63 = .ok (.invokevirtual 202, 3) := by decide +kernel
theorem dX7_due_66 : decode cX7_due 66 = .ok (.iconst 1, 1) := by decide +kernel
theorem dX7_due_67 : decode cX7_due 67 = .ok (.iload_n 1, 1) := by decide +kernel
theorem dX7_due_68 : decode cX7_due 68 = .ok (.ishl, 1) := by decide +kernel
theorem dX7_due_69 : decode cX7_due 69 = .ok (.iconst (-1), 1) := by decide +kernel
theorem dX7_due_70 : decode cX7_due 70 = .ok (.ixor, 1) := by decide +kernel
theorem dX7_due_71 : decode cX7_due 71 = .ok (.iand, 1) := by decide +kernel
theorem dX7_due_72 : decode cX7_due 72 = .ok (.istore 5, 2) := by decide +kernel
theorem dX7_due_74 : decode cX7_due 74 = .ok (.aload_n 0, 1) := by decide +kernel
theorem dX7_due_75 : decode cX7_due 75 = .ok (.getfield 38, 3) := by decide +kernel
theorem dX7_due_78 : decode cX7_due 78 = .ok (.iload_n 2, 1) := by decide +kernel
theorem dX7_due_79 : decode cX7_due 79 = .ok (.iload 5, 2) := by decide +kernel
theorem dX7_due_81 : decode cX7_due 81 = .ok (.invokevirtual 205, 3) := by decide +kernel
theorem dX7_due_84 : decode cX7_due 84 = .ok (.aload_n 0, 1) := by decide +kernel
theorem dX7_due_85 : decode cX7_due 85 = .ok (.getfield 19, 3) := by decide +kernel
theorem dX7_due_88 : decode cX7_due 88 = .ok (.iload 4, 2) := by decide +kernel
theorem dX7_due_90 : decode cX7_due 90 = .ok (.iload 5, 2) := by decide +kernel
theorem dX7_due_92 : decode cX7_due 92 = .ok (.iand, 1) := by decide +kernel
theorem dX7_due_93 : decode cX7_due 93 = .ok (.invokevirtual 208, 3) := by decide +kernel
theorem dX7_due_96 : decode cX7_due 96 = .ok (.isub, 1) := by decide +kernel
theorem dX7_due_97 : decode cX7_due 97 = .ok (.ireturn, 1) := by decide +kernel
set_option maxRecDepth 20000 in
theorem ggX7_share_X7_isWish : GoodIn wsX7_share wsX7_isWish := goodIn_r _ [7, 1, 8, 9, 10, 11, 12, 13, 98, 99, 100, 101, 102, 103, 104, 105, 106, 107, 108, 109, 110, 111, 112, 113, 114, 115, 116, 117, 118, 119, 120, 121, 122] (by decide +kernel) (by decide +kernel)
set_option maxRecDepth 20000 in
theorem gX7_share_X7_isWish : GoodIn wsX7_share (wsV RX7 99 RX7 yX7_isWish wsX7_isWish) := goodIn_app (goodIn_of _ (by decide +kernel)) ggX7_share_X7_isWish
set_option maxRecDepth 20000 in
theorem ggX7_share_X7_isSquares : GoodIn wsX7_share wsX7_isSquares := goodIn_r _ [16] (by decide +kernel) (by decide +kernel)
set_option maxRecDepth 20000 in
theorem gX7_share_X7_isSquares : GoodIn wsX7_share (va_wsS RX7 181 yX7_isSquares wsX7_isSquares) := goodIn_app (goodIn_of _ (by decide +kernel)) ggX7_share_X7_isSquares
set_option maxRecDepth 20000 in
theorem ggX7_share_X1_wishCount : GoodIn wsX7_share wsX1_wishCount := goodIn_r _ [12, 13, 112, 113, 114, 115, 116, 117, 118, 119, 120, 121, 122] (by decide +kernel) (by decide +kernel)
set_option maxRecDepth 20000 in
theorem gX7_share_X1_wishCount : GoodIn wsX7_share (wsV RX7 96 RX1 yX1_wishCount wsX1_wishCount) := goodIn_app (goodIn_of _ (by decide +kernel)) ggX7_share_X1_wishCount
set_option maxRecDepth 20000 in
theorem ggX7_share_X7_has : GoodIn wsX7_share wsX7_has := goodIn_r _ [19] (by decide +kernel) (by decide +kernel)
set_option maxRecDepth 20000 in
theorem gX7_share_X7_has : GoodIn wsX7_share (va_wsS RX7 122 yX7_has wsX7_has) := goodIn_app (goodIn_of _ (by decide +kernel)) ggX7_share_X7_has
set_option maxRecDepth 20000 in
theorem ggX7_share_J6_bitCount_0f7a4 : GoodIn wsX7_share wsJ6_bitCount_0f7a4 := goodIn_r _ [23, 24, 25, 26] (by decide +kernel) (by decide +kernel)
set_option maxRecDepth 20000 in
theorem gX7_share_J6_bitCount_0f7a4 : GoodIn wsX7_share (va_wsS RX7 194 yJ6_bitCount_0f7a4 wsJ6_bitCount_0f7a4) := goodIn_app (goodIn_of _ (by decide +kernel)) ggX7_share_J6_bitCount_0f7a4
set_option maxRecDepth 20000 in
theorem ggX7_share_X7_factorial : GoodIn wsX7_share wsX7_factorial := goodIn_r _ [29] (by decide +kernel) (by decide +kernel)
set_option maxRecDepth 20000 in
theorem gX7_share_X7_factorial : GoodIn wsX7_share (va_wsS RX7 211 yX7_factorial wsX7_factorial) := goodIn_app (goodIn_of _ (by decide +kernel)) ggX7_share_X7_factorial
set_option maxRecDepth 20000 in
theorem ggX7_share_X5_mostWorth : GoodIn wsX7_share wsX5_mostWorth := goodIn_r _ [34, 35, 36, 37, 38, 39, 40, 41, 42, 43, 33, 44, 45, 46, 47, 48, 49, 50, 51, 52, 53, 54, 55, 6, 56, 20, 21, 22, 23, 24, 25, 26, 57, 58, 59, 11, 60, 61, 62, 63, 64, 65, 66, 67, 68, 69, 70, 71, 72, 73, 74, 75, 13, 76, 77, 78, 79, 80, 81, 82, 18, 19, 83, 84, 85, 86, 87, 88, 89, 90, 91, 123, 124, 125, 126, 127, 128, 129, 112, 113, 114, 115, 116, 117, 118, 119, 120, 121, 122] (by decide +kernel) (by decide +kernel)
set_option maxRecDepth 20000 in
theorem gX7_share_X5_mostWorth : GoodIn wsX7_share (wsV RX7 205 RX5 yX5_mostWorth wsX5_mostWorth) := goodIn_app (goodIn_of _ (by decide +kernel)) ggX7_share_X5_mostWorth
set_option maxRecDepth 20000 in
theorem ggX7_share_X7_inLeastTerms : GoodIn wsX7_share wsX7_inLeastTerms := goodIn_r _ [94, 95, 96, 6, 97] (by decide +kernel) (by decide +kernel)
set_option maxRecDepth 20000 in
theorem gX7_share_X7_inLeastTerms : GoodIn wsX7_share (va_wsS RX7 214 yX7_inLeastTerms wsX7_inLeastTerms) := goodIn_app (goodIn_of _ (by decide +kernel)) ggX7_share_X7_inLeastTerms
theorem dX7_share_0 : decode cX7_share 0 = .ok (.aload_n 0, 1) := by decide +kernel
theorem dX7_share_1 : decode cX7_share 1 = .ok (.iload_n 1, 1) := by decide +kernel
theorem dX7_share_2 : decode cX7_share 2 = .ok (.invokevirtual 99, 3) := by decide +kernel
theorem dX7_share_5 : decode cX7_share 5 = .ok (.ifCond .ne 5, 3) := by decide +kernel
theorem dX7_share_8 : decode cX7_share 8 = .ok (.iconst (-1), 1) := by decide +kernel
theorem dX7_share_9 : decode cX7_share 9 = .ok (.ireturn, 1) := by decide +kernel
theorem dX7_share_10 : decode cX7_share 10 = .ok (.iload_n 2, 1) := by decide +kernel
theorem dX7_share_11 : decode cX7_share 11 = .ok (.invokestatic 181, 3) := by decide +kernel
theorem dX7_share_14 : decode cX7_share 14 = .ok (.ifCond .ne 6, 3) := by decide +kernel
theorem dX7_share_17 : decode cX7_share 17 = .ok (.bipush (-2), 2) := by decide +kernel
theorem dX7_share_19 : decode cX7_share 19 = .ok (.ireturn, 1) := by decide +kernel
theorem dX7_share_20 : decode cX7_share 20 = .ok (.aload_n 0, 1) := by decide +kernel
theorem dX7_share_21 : decode cX7_share 21 = .ok (.getfield 19, 3) := by decide +kernel
theorem dX7_share_24 : decode cX7_share 24 = .ok (.invokevirtual 96, 3) := by decide +kernel
theorem dX7_share_27 : decode cX7_share 27 = .ok (.istore 4, 2) := by decide +kernel
theorem dX7_share_29 : decode cX7_share 29 = .ok (.iconst 0, 1) := by decide +kernel
theorem dX7_share_30 : decode cX7_share 30 = .ok (.istore 5, 2) := by decide +kernel
theorem dX7_share_32 : decode cX7_share 32 = .ok (.iconst 0, 1) := by decide +kernel
theorem dX7_share_33 : decode cX7_share 33 = .ok (.istore 6, 2) := by decide +kernel
theorem dX7_share_35 : decode cX7_share 35 = .ok (.iload 6, 2) := by decide +kernel
theorem dX7_share_37 : decode cX7_share 37 = .ok (.iconst 1, 1) := by decide +kernel
theorem dX7_share_38 : decode cX7_share 38 = .ok (.iload 4, 2) := by decide +kernel
theorem dX7_share_40 : decode cX7_share 40 = .ok (.ishl, 1) := by decide +kernel
theorem dX7_share_41 : decode cX7_share 41 = .ok (.if_icmp .ge 76, 3) := by decide +kernel
theorem dX7_share_44 : decode cX7_share 44 = .ok (.iload 6, 2) := by decide +kernel
theorem dX7_share_46 : decode cX7_share 46 = .ok (.iload_n 1, 1) := by decide +kernel
theorem dX7_share_47 : decode cX7_share 47 = .ok (.invokestatic 122, 3) := by decide +kernel
theorem dX7_share_50 : decode cX7_share 50 = .ok (.ifCond .ne 61, 3) := by decide +kernel
theorem dX7_share_53 : decode cX7_share 53 = .ok (.iload 6, 2) := by decide +kernel
theorem dX7_share_55 : decode cX7_share 55 = .ok (.invokestatic 194, 3) := by decide +kernel
theorem dX7_share_58 : decode cX7_share 58 = .ok (.istore 7, 2) := by decide +kernel
theorem dX7_share_60 : decode cX7_share 60 = .ok (.iload 7, 2) := by decide +kernel
theorem dX7_share_62 : decode cX7_share 62 = .ok (.invokestatic 211, 3) := by decide +kernel
theorem dX7_share_65 : decode cX7_share 65 = .ok (.iload 4, 2) := by decide +kernel
theorem dX7_share_67 : decode cX7_share 67 = .ok (.iconst 1, 1) := by decide +kernel
theorem dX7_share_68 : decode cX7_share 68 = .ok (.isub, 1) := by decide +kernel
theorem dX7_share_69 : decode cX7_share 69 = .ok (.iload 7, 2) := by decide +kernel
theorem dX7_share_71 : decode cX7_share 71 = .ok (.isub, 1) := by decide +kernel
theorem dX7_share_72 : decode cX7_share 72 = .ok (.invokestatic 211, 3) := by decide +kernel
theorem dX7_share_75 : decode cX7_share 75 = .ok (.imul, 1) := by decide +kernel
theorem dX7_share_76 : decode cX7_share 76 = .ok (.istore 8, 2) := by decide +kernel
theorem dX7_share_78 : decode cX7_share 78 = .ok (.iload 5, 2) := by decide +kernel
theorem dX7_share_80 : decode cX7_share 80 = .ok (.iload 8, 2) := by decide +kernel
theorem dX7_share_82 : decode cX7_share 82 = .ok (.aload_n 0, 1) := by decide +kernel
theorem dX7_share_83 : decode cX7_share 83 = .ok (.getfield 38, 3) := by decide +kernel
theorem dX7_share_86 : decode cX7_share 86 = .ok (.iload_n 2, 1) := by decide +kernel
theorem dX7_share_87 : decode cX7_share 87 = .ok (.iload 6, 2) := by decide +kernel
theorem dX7_share_89 : decode cX7_share 89 = .ok (.iconst 1, 1) := by decide +kernel
theorem dX7_share_90 : decode cX7_share 90 = .ok (.iload_n 1, 1) := by decide +kernel
theorem dX7_share_91 : decode cX7_share 91 = .ok (.ishl, 1) := by decide +kernel
theorem dX7_share_92 : decode cX7_share 92 = .ok (.ior, 1) := by decide +kernel
theorem dX7_share_93 : decode cX7_share 93 = .ok (.invokevirtual 205, 3) := by decide +kernel
theorem dX7_share_96 : decode cX7_share 96 = .ok (.aload_n 0, 1) := by decide +kernel
theorem dX7_share_97 : decode cX7_share 97 = .ok (.getfield 38, 3) := by decide +kernel
theorem dX7_share_100 : decode cX7_share 100 = .ok (.iload_n 2, 1) := by decide +kernel
theorem dX7_share_101 : decode cX7_share 101 = .ok (.iload 6, 2) := by decide +kernel
theorem dX7_share_103 : decode cX7_share 103 = .ok (.invokevirtual 205, 3) := by decide +kernel
theorem dX7_share_106 : decode cX7_share 106 = .ok (.isub, 1) := by decide +kernel
theorem dX7_share_107 : decode cX7_share 107 = .ok (.imul, 1) := by decide +kernel
theorem dX7_share_108 : decode cX7_share 108 = .ok (.iadd, 1) := by decide +kernel
theorem dX7_share_109 : decode cX7_share 109 = .ok (.istore 5, 2) := by decide +kernel
theorem dX7_share_111 : decode cX7_share 111 = .ok (.iinc 6 1, 3) := by decide +kernel
theorem dX7_share_114 : decode cX7_share 114 = .ok (.goto (-79), 3) := by decide +kernel
theorem dX7_share_117 : decode cX7_share 117 = .ok (.iload 5, 2) := by decide +kernel
theorem dX7_share_119 : decode cX7_share 119 = .ok (.iload 4, 2) := by decide +kernel
theorem dX7_share_121 : decode cX7_share 121 = .ok (.invokestatic 211, 3) := by decide +kernel
theorem dX7_share_124 : decode cX7_share 124 = .ok (.iload_n 3, 1) := by decide +kernel
theorem dX7_share_125 : decode cX7_share 125 = .ok (.invokestatic 214, 3) := by decide +kernel
theorem dX7_share_128 : decode cX7_share 128 = .ok (.ireturn, 1) := by decide +kernel
set_option maxRecDepth 20000 in
theorem ggX7_tell_X7_isCell : GoodIn wsX7_tell wsX7_isCell := goodIn_r _ [7] (by decide +kernel) (by decide +kernel)
set_option maxRecDepth 20000 in
theorem gX7_tell_X7_isCell : GoodIn wsX7_tell (va_wsS RX7 129 yX7_isCell wsX7_isCell) := goodIn_app (goodIn_of _ (by decide +kernel)) ggX7_tell_X7_isCell
set_option maxRecDepth 20000 in
theorem ggX7_tell_X7_isHour : GoodIn wsX7_tell wsX7_isHour := goodIn_r _ [10] (by decide +kernel) (by decide +kernel)
set_option maxRecDepth 20000 in
theorem gX7_tell_X7_isHour : GoodIn wsX7_tell (va_wsS RX7 142 yX7_isHour wsX7_isHour) := goodIn_app (goodIn_of _ (by decide +kernel)) ggX7_tell_X7_isHour
set_option maxRecDepth 20000 in
theorem ggX7_tell_X7_cellAbove : GoodIn wsX7_tell wsX7_cellAbove := goodIn_r _ [13] (by decide +kernel) (by decide +kernel)
set_option maxRecDepth 20000 in
theorem gX7_tell_X7_cellAbove : GoodIn wsX7_tell (va_wsS RX7 132 yX7_cellAbove wsX7_cellAbove) := goodIn_app (goodIn_of _ (by decide +kernel)) ggX7_tell_X7_cellAbove
theorem dX7_tell_0 : decode cX7_tell 0 = .ok (.iload_n 1, 1) := by decide +kernel
theorem dX7_tell_1 : decode cX7_tell 1 = .ok (.invokestatic 129, 3) := by decide +kernel
theorem dX7_tell_4 : decode cX7_tell 4 = .ok (.ifCond .ne 5, 3) := by decide +kernel
theorem dX7_tell_7 : decode cX7_tell 7 = .ok (.iconst (-1), 1) := by decide +kernel
theorem dX7_tell_8 : decode cX7_tell 8 = .ok (.ireturn, 1) := by decide +kernel
theorem dX7_tell_9 : decode cX7_tell 9 = .ok (.iload_n 2, 1) := by decide +kernel
theorem dX7_tell_10 : decode cX7_tell 10 = .ok (.invokestatic 142, 3) := by decide +kernel
theorem dX7_tell_13 : decode cX7_tell 13 = .ok (.ifCond .ne 6, 3) := by decide +kernel
theorem dX7_tell_16 : decode cX7_tell 16 = .ok (.bipush (-2), 2) := by decide +kernel
theorem dX7_tell_18 : decode cX7_tell 18 = .ok (.ireturn, 1) := by decide +kernel
theorem dX7_tell_19 : decode cX7_tell 19 = .ok (.aload_n 0, 1) := by decide +kernel
theorem dX7_tell_20 : decode cX7_tell 20 = .ok (.getfield 218, 3) := by decide +kernel
theorem dX7_tell_23 : decode cX7_tell 23 = .ok (.bipush 6, 2) := by decide +kernel
theorem dX7_tell_25 : decode cX7_tell 25 = .ok (.if_icmp .lt 6, 3) := by decide +kernel
theorem dX7_tell_28 : decode cX7_tell 28 = .ok (.bipush (-4), 2) := by decide +kernel
theorem dX7_tell_30 : decode cX7_tell 30 = .ok (.ireturn, 1) := by decide +kernel
theorem dX7_tell_31 : decode cX7_tell 31 = .ok (.iconst 1, 1) := by decide +kernel
theorem dX7_tell_32 : decode cX7_tell 32 = .ok (.iload_n 1, 1) := by decide +kernel
theorem dX7_tell_33 : decode cX7_tell 33 = .ok (.iload_n 2, 1) := by decide +kernel
theorem dX7_tell_34 : decode cX7_tell 34 = .ok (.invokestatic 132, 3) := by decide +kernel
theorem dX7_tell_37 : decode cX7_tell 37 = .ok (.ishl, 1) := by decide +kernel
theorem dX7_tell_38 : decode cX7_tell 38 = .ok (.istore 4, 2) := by decide +kernel
theorem dX7_tell_40 : decode cX7_tell 40 = .ok (.iload_n 3, 1) := by decide +kernel
theorem dX7_tell_41 : decode cX7_tell 41 = .ok (.ifCond .eq 17, 3) := by decide +kernel
theorem dX7_tell_44 : decode cX7_tell 44 = .ok (.aload_n 0, 1) := by decide +kernel
theorem dX7_tell_45 : decode cX7_tell 45 = .ok (.dup, 1) := by decide +kernel
theorem dX7_tell_46 : decode cX7_tell 46 = .ok (.getfield 221, 3) := by decide +kernel
theorem dX7_tell_49 : decode cX7_tell 49 = .ok (.iload 4, 2) := by decide +kernel
theorem dX7_tell_51 : decode cX7_tell 51 = .ok (.ior, 1) := by decide +kernel
theorem dX7_tell_52 : decode cX7_tell 52 = .ok (.putfield 221, 3) := by decide +kernel
theorem dX7_tell_55 : decode cX7_tell 55 = .ok (.goto 14, 3) := by decide +kernel
theorem dX7_tell_58 : decode cX7_tell 58 = .ok (.aload_n 0, 1) := by decide +kernel
theorem dX7_tell_59 : decode cX7_tell 59 = .ok (.dup, 1) := by decide +kernel
theorem dX7_tell_60 : decode cX7_tell 60 = .ok (.getfield 224, 3) := by decide +kernel
theorem dX7_tell_63 : decode cX7_tell 63 = .ok (.iload 4, 2) := by decide +kernel
theorem dX7_tell_65 : decode cX7_tell 65 = .ok (.ior, 1) := by decide +kernel
theorem dX7_tell_66 : decode cX7_tell 66 = .ok (.putfield 224, 3) := by decide +kernel
theorem dX7_tell_69 : decode cX7_tell 69 = .ok (.aload_n 0, 1) := by decide +kernel
theorem dX7_tell_70 : decode cX7_tell 70 = .ok (.dup, 1) := by decide +kernel
theorem dX7_tell_71 : decode cX7_tell 71 = .ok (.getfield 218, 3) := by decide +kernel
theorem dX7_tell_74 : decode cX7_tell 74 = .ok (.iconst 1, 1) := by decide +kernel
theorem dX7_tell_75 : decode cX7_tell 75 = .ok (.iadd, 1) := by decide +kernel
theorem dX7_tell_76 : decode cX7_tell 76 = .ok (.putfield 218, 3) := by decide +kernel
theorem dX7_tell_79 : decode cX7_tell 79 = .ok (.aload_n 0, 1) := by decide +kernel
theorem dX7_tell_80 : decode cX7_tell 80 = .ok (.getfield 218, 3) := by decide +kernel
theorem dX7_tell_83 : decode cX7_tell 83 = .ok (.ireturn, 1) := by decide +kernel
theorem dX7_untell_0 : decode cX7_untell 0 = .ok (.aload_n 0, 1) := by decide +kernel
theorem dX7_untell_1 : decode cX7_untell 1 = .ok (.getfield 218, 3) := by decide +kernel
theorem dX7_untell_4 : decode cX7_untell 4 = .ok (.istore_n 1, 1) := by decide +kernel
theorem dX7_untell_5 : decode cX7_untell 5 = .ok (.aload_n 0, 1) := by decide +kernel
theorem dX7_untell_6 : decode cX7_untell 6 = .ok (.iconst 0, 1) := by decide +kernel
theorem dX7_untell_7 : decode cX7_untell 7 = .ok (.putfield 221, 3) := by decide +kernel
theorem dX7_untell_10 : decode cX7_untell 10 = .ok (.aload_n 0, 1) := by decide +kernel
theorem dX7_untell_11 : decode cX7_untell 11 = .ok (.iconst 0, 1) := by decide +kernel
theorem dX7_untell_12 : decode cX7_untell 12 = .ok (.putfield 224, 3) := by decide +kernel
theorem dX7_untell_15 : decode cX7_untell 15 = .ok (.aload_n 0, 1) := by decide +kernel
theorem dX7_untell_16 : decode cX7_untell 16 = .ok (.iconst 0, 1) := by decide +kernel
theorem dX7_untell_17 : decode cX7_untell 17 = .ok (.putfield 218, 3) := by decide +kernel
theorem dX7_untell_20 : decode cX7_untell 20 = .ok (.iload_n 1, 1) := by decide +kernel
theorem dX7_untell_21 : decode cX7_untell 21 = .ok (.ireturn, 1) := by decide +kernel
set_option maxRecDepth 20000 in
theorem ggX7_fits_X7_isSquares : GoodIn wsX7_fits wsX7_isSquares := goodIn_r _ [4] (by decide +kernel) (by decide +kernel)
set_option maxRecDepth 20000 in
theorem gX7_fits_X7_isSquares : GoodIn wsX7_fits (va_wsS RX7 181 yX7_isSquares wsX7_isSquares) := goodIn_app (goodIn_of _ (by decide +kernel)) ggX7_fits_X7_isSquares
set_option maxRecDepth 20000 in
theorem ggX7_fits_J6_bitCount_0f7a4 : GoodIn wsX7_fits wsJ6_bitCount_0f7a4 := goodIn_r _ [8, 9, 10, 11] (by decide +kernel) (by decide +kernel)
set_option maxRecDepth 20000 in
theorem gX7_fits_J6_bitCount_0f7a4 : GoodIn wsX7_fits (va_wsS RX7 194 yJ6_bitCount_0f7a4 wsJ6_bitCount_0f7a4) := goodIn_app (goodIn_of _ (by decide +kernel)) ggX7_fits_J6_bitCount_0f7a4
set_option maxRecDepth 20000 in
theorem ggX7_fits_X7_agreesWithTold : GoodIn wsX7_fits wsX7_agreesWithTold := goodIn_r _ [15, 16, 17, 18, 19, 20, 21, 22, 23, 24, 25, 26, 27, 28, 29, 30, 31] (by decide +kernel) (by decide +kernel)
set_option maxRecDepth 20000 in
theorem gX7_fits_X7_agreesWithTold : GoodIn wsX7_fits (wsV RX7 227 RX7 yX7_agreesWithTold wsX7_agreesWithTold) := goodIn_app (goodIn_of _ (by decide +kernel)) ggX7_fits_X7_agreesWithTold
theorem dX7_fits_0 : decode cX7_fits 0 = .ok (.iload_n 1, 1) := by decide +kernel
theorem dX7_fits_1 : decode cX7_fits 1 = .ok (.invokestatic 181, 3) := by decide +kernel
theorem dX7_fits_4 : decode cX7_fits 4 = .ok (.ifCond .eq 12, 3) := by decide +kernel
theorem dX7_fits_7 : decode cX7_fits 7 = .ok (.iload_n 2, 1) := by decide +kernel
theorem dX7_fits_8 : decode cX7_fits 8 = .ok (.ifCond .lt 8, 3) := by decide +kernel
theorem dX7_fits_11 : decode cX7_fits 11 = .ok (.iload_n 2, 1) := by decide +kernel
theorem dX7_fits_12 : decode cX7_fits 12 = .ok (.iconst 2, 1) := by decide +kernel
theorem dX7_fits_13 : decode cX7_fits 13 = .ok (.if_icmp .le 6, 3) := by decide +kernel
theorem dX7_fits_16 : decode cX7_fits 16 = .ok (.bipush (-2), 2) := by decide +kernel
theorem dX7_fits_18 : decode cX7_fits 18 = .ok (.ireturn, 1) := by decide +kernel
theorem dX7_fits_19 : decode cX7_fits 19 = .ok (.iconst 0, 1) := by decide +kernel
theorem dX7_fits_20 : decode cX7_fits 20 = .ok (.istore_n 3, 1) := by decide +kernel
theorem dX7_fits_21 : decode cX7_fits 21 = .ok (.sipush 4095, 3) := by decide +kernel
theorem dX7_fits_24 : decode cX7_fits 24 = .ok (.istore 4, 2) := by decide +kernel
theorem dX7_fits_26 : decode cX7_fits 26 = .ok (.iconst 0, 1) := by decide +kernel
theorem dX7_fits_27 : decode cX7_fits 27 = .ok (.istore 5, 2) := by decide +kernel
theorem dX7_fits_29 : decode cX7_fits 29 = .ok (.iconst 0, 1) := by decide +kernel
theorem dX7_fits_30 : decode cX7_fits 30 = .ok (.istore 6, 2) := by decide +kernel
theorem dX7_fits_32 : decode cX7_fits 32 = .ok (.iload 6, 2) := by decide +kernel
theorem dX7_fits_34 : decode cX7_fits 34 = .ok (.sipush 4096, 3) := by decide +kernel
theorem dX7_fits_37 : decode cX7_fits 37 = .ok (.if_icmp .ge 44, 3) := by decide +kernel
theorem dX7_fits_40 : decode cX7_fits 40 = .ok (.iload 6, 2) := by decide +kernel
theorem dX7_fits_42 : decode cX7_fits 42 = .ok (.invokestatic 194, 3) := by decide +kernel
theorem dX7_fits_45 : decode cX7_fits 45 = .ok (.iload_n 1, 1) := by decide +kernel
theorem dX7_fits_46 : decode cX7_fits 46 = .ok (.if_icmp .ne 29, 3) := by decide +kernel
theorem dX7_fits_49 : decode cX7_fits 49 = .ok (.aload_n 0, 1) := by decide +kernel
theorem dX7_fits_50 : decode cX7_fits 50 = .ok (.iload 6, 2) := by decide +kernel
theorem dX7_fits_52 : decode cX7_fits 52 = .ok (.invokevirtual 227, 3) := by decide +kernel
theorem dX7_fits_55 : decode cX7_fits 55 = .ok (.ifCond .eq 20, 3) := by decide +kernel
theorem dX7_fits_58 : decode cX7_fits 58 = .ok (.iinc 3 1, 3) := by decide +kernel
theorem dX7_fits_61 : decode cX7_fits 61 = .ok (.iload 4, 2) := by decide +kernel
theorem dX7_fits_63 : decode cX7_fits 63 = .ok (.iload 6, 2) := by decide +kernel
theorem dX7_fits_65 : decode cX7_fits 65 = .ok (.iand, 1) := by decide +kernel
theorem dX7_fits_66 : decode cX7_fits 66 = .ok (.istore 4, 2) := by decide +kernel
theorem dX7_fits_68 : decode cX7_fits 68 = .ok (.iload 5, 2) := by decide +kernel
theorem dX7_fits_70 : decode cX7_fits 70 = .ok (.iload 6, 2) := by decide +kernel
theorem dX7_fits_72 : decode cX7_fits 72 = .ok (.ior, 1) := by decide +kernel
theorem dX7_fits_73 : decode cX7_fits 73 = .ok (.istore 5, 2) := by decide +kernel
theorem dX7_fits_75 : decode cX7_fits 75 = .ok (.iinc 6 1, 3) := by decide +kernel
theorem dX7_fits_78 : decode cX7_fits 78 = .ok (.goto (-46), 3) := by decide +kernel
theorem dX7_fits_81 : decode cX7_fits 81 = .ok (.iload_n 2, 1) := by decide +kernel
theorem dX7_fits_82 : decode cX7_fits 82 = .ok (.ifCond .ne 5, 3) := by decide +kernel
theorem dX7_fits_85 : decode cX7_fits 85 = .ok (.iload_n 3, 1) := by decide +kernel
theorem dX7_fits_86 : decode cX7_fits 86 = .ok (.ireturn, 1) := by decide +kernel
theorem dX7_fits_87 : decode cX7_fits 87 = .ok (.iload_n 3, 1) := by decide +kernel
theorem dX7_fits_88 : decode cX7_fits 88 = .ok (.ifCond .ne 6, 3) := by decide +kernel
theorem dX7_fits_91 : decode cX7_fits 91 = .ok (.bipush (-9), 2) := by decide +kernel
theorem dX7_fits_93 : decode cX7_fits 93 = .ok (.ireturn, 1) := by decide +kernel
theorem dX7_fits_94 : decode cX7_fits 94 = .ok (.iload_n 2, 1) := by decide +kernel
theorem dX7_fits_95 : decode cX7_fits 95 = .ok (.iconst 1, 1) := by decide +kernel
theorem dX7_fits_96 : decode cX7_fits 96 = .ok (.if_icmp .ne 8, 3) := by decide +kernel
theorem dX7_fits_99 : decode cX7_fits 99 = .ok (.iload 4, 2) := by decide +kernel
theorem dX7_fits_101 : decode cX7_fits 101 = .ok (.goto 11, 3) := by decide +kernel
theorem dX7_fits_104 : decode cX7_fits 104 = .ok (.sipush 4095, 3) := by decide +kernel
theorem dX7_fits_107 : decode cX7_fits 107 = .ok (.iload 5, 2) := by decide +kernel
theorem dX7_fits_109 : decode cX7_fits 109 = .ok (.iconst (-1), 1) := by decide +kernel
theorem dX7_fits_110 : decode cX7_fits 110 = .ok (.ixor, 1) := by decide +kernel
theorem dX7_fits_111 : decode cX7_fits 111 = .ok (.iand, 1) := by decide +kernel
theorem dX7_fits_112 : decode cX7_fits 112 = .ok (.ireturn, 1) := by decide +kernel
set_option maxRecDepth 20000 in
theorem ggX7_wind_X7_squaresNow : GoodIn wsX7_wind wsX7_squaresNow := goodIn_r _ [7, 1, 8, 9, 10, 11, 12, 13, 14, 49, 50, 51, 52, 53, 54, 55, 56, 57, 58, 59, 60, 61, 62] (by decide +kernel) (by decide +kernel)
set_option maxRecDepth 20000 in
theorem gX7_wind_X7_squaresNow : GoodIn wsX7_wind (wsV RX7 148 RX7 yX7_squaresNow wsX7_squaresNow) := goodIn_app (goodIn_of _ (by decide +kernel)) ggX7_wind_X7_squaresNow
set_option maxRecDepth 20000 in
theorem ggX7_wind_J6_bitCount_0f7a4 : GoodIn wsX7_wind wsJ6_bitCount_0f7a4 := goodIn_r _ [11, 12, 13, 14] (by decide +kernel) (by decide +kernel)
set_option maxRecDepth 20000 in
theorem gX7_wind_J6_bitCount_0f7a4 : GoodIn wsX7_wind (va_wsS RX7 194 yJ6_bitCount_0f7a4 wsJ6_bitCount_0f7a4) := goodIn_app (goodIn_of _ (by decide +kernel)) ggX7_wind_J6_bitCount_0f7a4
set_option maxRecDepth 20000 in
theorem ggX7_wind_X7_power : GoodIn wsX7_wind wsX7_power := goodIn_r _ [17] (by decide +kernel) (by decide +kernel)
set_option maxRecDepth 20000 in
theorem gX7_wind_X7_power : GoodIn wsX7_wind (va_wsS RX7 230 yX7_power wsX7_power) := goodIn_app (goodIn_of _ (by decide +kernel)) ggX7_wind_X7_power
set_option maxRecDepth 20000 in
theorem ggX7_wind_X1_worthOf : GoodIn wsX7_wind wsX1_worthOf := goodIn_r _ [22, 23, 24, 25, 21, 26, 27, 28, 29, 30, 31, 32, 33, 34, 35, 36, 37, 38, 39, 40, 41, 6, 42, 63, 64, 65, 66, 67, 68, 69, 70, 71, 72, 73, 74] (by decide +kernel) (by decide +kernel)
set_option maxRecDepth 20000 in
theorem gX7_wind_X1_worthOf : GoodIn wsX7_wind (wsV RX7 175 RX1 yX1_worthOf wsX1_worthOf) := goodIn_app (goodIn_of _ (by decide +kernel)) ggX7_wind_X1_worthOf
set_option maxRecDepth 20000 in
theorem ggX7_wind_X7_inLeastTerms : GoodIn wsX7_wind wsX7_inLeastTerms := goodIn_r _ [45, 46, 47, 6, 48] (by decide +kernel) (by decide +kernel)
set_option maxRecDepth 20000 in
theorem gX7_wind_X7_inLeastTerms : GoodIn wsX7_wind (va_wsS RX7 214 yX7_inLeastTerms wsX7_inLeastTerms) := goodIn_app (goodIn_of _ (by decide +kernel)) ggX7_wind_X7_inLeastTerms
theorem dX7_wind_0 : decode cX7_wind 0 = .ok (.iload_n 1, 1) := by decide +kernel
theorem dX7_wind_1 : decode cX7_wind 1 = .ok (.ifCond .lt 9, 3) := by decide +kernel
theorem dX7_wind_4 : decode cX7_wind 4 = .ok (.iload_n 1, 1) := by decide +kernel
theorem dX7_wind_5 : decode cX7_wind 5 = .ok (.bipush 10, 2) := by decide +kernel
theorem dX7_wind_7 : decode cX7_wind 7 = .ok (.if_icmp .le 6, 3) := by decide +kernel
theorem dX7_wind_10 : decode cX7_wind 10 = .ok (.bipush (-2), 2) := by decide +kernel
theorem dX7_wind_12 : decode cX7_wind 12 = .ok (.ireturn, 1) := by decide +kernel
theorem dX7_wind_13 : decode cX7_wind 13 = .ok (.aload_n 0, 1) := by decide +kernel
theorem dX7_wind_14 : decode cX7_wind 14 = .ok (.invokevirtual 148, 3) := by decide +kernel
theorem dX7_wind_17 : decode cX7_wind 17 = .ok (.istore_n 3, 1) := by decide +kernel
theorem dX7_wind_18 : decode cX7_wind 18 = .ok (.iconst 0, 1) := by decide +kernel
theorem dX7_wind_19 : decode cX7_wind 19 = .ok (.istore 4, 2) := by decide +kernel
theorem dX7_wind_21 : decode cX7_wind 21 = .ok (.iconst 0, 1) := by decide +kernel
theorem dX7_wind_22 : decode cX7_wind 22 = .ok (.istore 5, 2) := by decide +kernel
theorem dX7_wind_24 : decode cX7_wind 24 = .ok (.iload 5, 2) := by decide +kernel
theorem dX7_wind_26 : decode cX7_wind 26 = .ok (.sipush 4096, 3) := by decide +kernel
theorem dX7_wind_29 : decode cX7_wind 29 = .ok (.if_icmp .ge 61, 3) := by decide +kernel
theorem dX7_wind_32 : decode cX7_wind 32 = .ok (.iload 5, 2) := by decide +kernel
theorem dX7_wind_34 : decode cX7_wind 34 = .ok (.aload_n 0, 1) := by decide +kernel
theorem dX7_wind_35 : decode cX7_wind 35 = .ok (.getfield 89, 3) := by decide +kernel
theorem dX7_wind_38 : decode cX7_wind 38 = .ok (.iconst (-1), 1) := by decide +kernel
theorem dX7_wind_39 : decode cX7_wind 39 = .ok (.ixor, 1) := by decide +kernel
theorem dX7_wind_40 : decode cX7_wind 40 = .ok (.iand, 1) := by decide +kernel
theorem dX7_wind_41 : decode cX7_wind 41 = .ok (.ifCond .ne 43, 3) := by decide +kernel
theorem dX7_wind_44 : decode cX7_wind 44 = .ok (.iload 5, 2) := by decide +kernel
theorem dX7_wind_46 : decode cX7_wind 46 = .ok (.invokestatic 194, 3) := by decide +kernel
theorem dX7_wind_49 : decode cX7_wind 49 = .ok (.istore 6, 2) := by decide +kernel
theorem dX7_wind_51 : decode cX7_wind 51 = .ok (.iload 4, 2) := by decide +kernel
theorem dX7_wind_53 : decode cX7_wind 53 = .ok (.bipush 10, 2) := by decide +kernel
theorem dX7_wind_55 : decode cX7_wind 55 = .ok (.iload_n 1, 1) := by decide +kernel
theorem dX7_wind_56 : decode cX7_wind 56 = .ok (.isub, 1) := by decide +kernel
theorem dX7_wind_57 : decode cX7_wind 57 = .ok (.iload 6, 2) := by decide +kernel
theorem dX7_wind_59 : decode cX7_wind 59 = .ok (.invokestatic 230, 3) := by decide +kernel
theorem dX7_wind_62 : decode cX7_wind 62 = .ok (.iload_n 1, 1) := by decide +kernel
theorem dX7_wind_63 : decode cX7_wind 63 = .ok (.iload_n 3, 1) := by decide +kernel
theorem dX7_wind_64 : decode cX7_wind 64 = .ok (.iload 6, 2) := by decide +kernel
theorem dX7_wind_66 : decode cX7_wind 66 = .ok (.isub, 1) := by decide +kernel
theorem dX7_wind_67 : decode cX7_wind 67 = .ok (.invokestatic 230, 3) := by decide +kernel
theorem dX7_wind_70 : decode cX7_wind 70 = .ok (.imul, 1) := by decide +kernel
theorem dX7_wind_71 : decode cX7_wind 71 = .ok (.aload_n 0, 1) := by decide +kernel
theorem dX7_wind_72 : decode cX7_wind 72 = .ok (.getfield 19, 3) := by decide +kernel
theorem dX7_wind_75 : decode cX7_wind 75 = .ok (.iload 5, 2) := by decide +kernel
theorem dX7_wind_77 : decode cX7_wind 77 = .ok (.invokevirtual 175, 3) := by decide +kernel
theorem dX7_wind_80 : decode cX7_wind 80 = .ok (.imul, 1) := by decide +kernel
theorem dX7_wind_81 : decode cX7_wind 81 = .ok (.iadd, 1) := by decide +kernel
theorem dX7_wind_82 : decode cX7_wind 82 = .ok (.istore 4, 2) := by decide +kernel
theorem dX7_wind_84 : decode cX7_wind 84 = .ok (.iinc 5 1, 3) := by decide +kernel
theorem dX7_wind_87 : decode cX7_wind 87 = .ok (.goto (-63), 3) := by decide +kernel
theorem dX7_wind_90 : decode cX7_wind 90 = .ok (.iload 4, 2) := by decide +kernel
theorem dX7_wind_92 : decode cX7_wind 92 = .ok (.bipush 10, 2) := by decide +kernel
theorem dX7_wind_94 : decode cX7_wind 94 = .ok (.iload_n 3, 1) := by decide +kernel
theorem dX7_wind_95 : decode cX7_wind 95 = .ok (.invokestatic 230, 3) := by decide +kernel
theorem dX7_wind_98 : decode cX7_wind 98 = .ok (.iload_n 2, 1) := by decide +kernel
theorem dX7_wind_99 : decode cX7_wind 99 = .ok (.invokestatic 214, 3) := by decide +kernel
theorem dX7_wind_102 : decode cX7_wind 102 = .ok (.ireturn, 1) := by decide +kernel
theorem dX7_seed_0 : decode cX7_seed 0 = .ok (.aload_n 0, 1) := by decide +kernel
theorem dX7_seed_1 : decode cX7_seed 1 = .ok (.getfield 233, 3) := by decide +kernel
theorem dX7_seed_4 : decode cX7_seed 4 = .ok (.lstore_n 3, 1) := by decide +kernel
theorem dX7_seed_5 : decode cX7_seed 5 = .ok (.aload_n 0, 1) := by decide +kernel
theorem dX7_seed_6 : decode cX7_seed 6 = .ok (.lload_n 1, 1) := by decide +kernel
theorem dX7_seed_7 : decode cX7_seed 7 = .ok (.putfield 233, 3) := by decide +kernel
theorem dX7_seed_10 : decode cX7_seed 10 = .ok (.lload_n 3, 1) := by decide +kernel
theorem dX7_seed_11 : decode cX7_seed 11 = .ok (.lreturn, 1) := by decide +kernel
set_option maxRecDepth 20000 in
theorem ggX7_storm_X7_afterToldMove : GoodIn wsX7_storm wsX7_afterToldMove := goodIn_r _ [8, 9, 10, 7, 11, 12, 13, 14, 15, 16, 17, 18, 19, 20] (by decide +kernel) (by decide +kernel)
set_option maxRecDepth 20000 in
theorem gX7_storm_X7_afterToldMove : GoodIn wsX7_storm (va_wsS RX7 169 yX7_afterToldMove wsX7_afterToldMove) := goodIn_app (goodIn_of _ (by decide +kernel)) ggX7_storm_X7_afterToldMove
theorem dX7_storm_0 : decode cX7_storm 0 = .ok (.iload_n 1, 1) := by decide +kernel
theorem dX7_storm_1 : decode cX7_storm 1 = .ok (.iconst 1, 1) := by decide +kernel
theorem dX7_storm_2 : decode cX7_storm 2 = .ok (.if_icmp .lt 9, 3) := by decide +kernel
theorem dX7_storm_5 : decode cX7_storm 5 = .ok (.iload_n 1, 1) := by decide +kernel
theorem dX7_storm_6 : decode cX7_storm 6 = .ok (.bipush 40, 2) := by decide +kernel
theorem dX7_storm_8 : decode cX7_storm 8 = .ok (.if_icmp .le 6, 3) := by decide +kernel
theorem dX7_storm_11 : decode cX7_storm 11 = .ok (.bipush (-2), 2) := by decide +kernel
theorem dX7_storm_13 : decode cX7_storm 13 = .ok (.ireturn, 1) := by decide +kernel
theorem dX7_storm_14 : decode cX7_storm 14 = .ok (.aload_n 0, 1) := by decide +kernel
theorem dX7_storm_15 : decode cX7_storm 15 = .ok (.getfield 89, 3) := by decide +kernel
theorem dX7_storm_18 : decode cX7_storm 18 = .ok (.istore_n 2, 1) := by decide +kernel
theorem dX7_storm_19 : decode cX7_storm 19 = .ok (.iconst 0, 1) := by decide +kernel
theorem dX7_storm_20 : decode cX7_storm 20 = .ok (.istore_n 3, 1) := by decide +kernel
theorem dX7_storm_21 : decode cX7_storm 21 = .ok (.iload_n 3, 1) := by decide +kernel
theorem dX7_storm_22 : decode cX7_storm 22 = .ok (.iload_n 1, 1) := by decide +kernel
theorem dX7_storm_23 : decode cX7_storm 23 = .ok (.if_icmp .ge 67, 3) := by decide +kernel
theorem dX7_storm_26 : decode cX7_storm 26 = .ok (.aload_n 0, 1) := by decide +kernel
theorem dX7_storm_27 : decode cX7_storm 27 = .ok (.aload_n 0, 1) := by decide +kernel
theorem dX7_storm_28 : decode cX7_storm 28 = .ok (.getfield 233, 3) := by decide +kernel
theorem dX7_storm_31 : decode cX7_storm 31 = .ok (.ldc2_w 237, 3) := by decide +kernel
theorem dX7_storm_34 : decode cX7_storm 34 = .ok (.lmul, 1) := by decide +kernel
theorem dX7_storm_35 : decode cX7_storm 35 = .ok (.ldc2_w 239, 3) := by decide +kernel
theorem dX7_storm_38 : decode cX7_storm 38 = .ok (.ladd, 1) := by decide +kernel
theorem dX7_storm_39 : decode cX7_storm 39 = .ok (.putfield 233, 3) := by decide +kernel
theorem dX7_storm_42 : decode cX7_storm 42 = .ok (.aload_n 0, 1) := by decide +kernel
theorem dX7_storm_43 : decode cX7_storm 43 = .ok (.getfield 233, 3) := by decide +kernel
theorem dX7_storm_46 : decode cX7_storm 46 = .ok (.bipush 33, 2) := by decide +kernel
theorem dX7_storm_48 : decode cX7_storm 48 = .ok (.lushr, 1) := by decide +kernel
theorem dX7_storm_49 : decode cX7_storm 49 = .ok (.l2i, 1) := by decide +kernel
theorem dX7_storm_50 : decode cX7_storm 50 = .ok (.istore 4, 2) := by decide +kernel
theorem dX7_storm_52 : decode cX7_storm 52 = .ok (.iload_n 2, 1) := by decide +kernel
theorem dX7_storm_53 : decode cX7_storm 53 = .ok (.iload 4, 2) := by decide +kernel
theorem dX7_storm_55 : decode cX7_storm 55 = .ok (.bipush 12, 2) := by decide +kernel
theorem dX7_storm_57 : decode cX7_storm 57 = .ok (.irem, 1) := by decide +kernel
theorem dX7_storm_58 : decode cX7_storm 58 = .ok (.iload 4, 2) := by decide +kernel
theorem dX7_storm_60 : decode cX7_storm 60 = .ok (.bipush 12, 2) := by decide +kernel
theorem dX7_storm_62 : decode cX7_storm 62 = .ok (.idiv, 1) := by decide +kernel
theorem dX7_storm_63 : decode cX7_storm 63 = .ok (.iconst 3, 1) := by decide +kernel
theorem dX7_storm_64 : decode cX7_storm 64 = .ok (.irem, 1) := by decide +kernel
theorem dX7_storm_65 : decode cX7_storm 65 = .ok (.invokestatic 169, 3) := by decide +kernel
theorem dX7_storm_68 : decode cX7_storm 68 = .ok (.istore 5, 2) := by decide +kernel
theorem dX7_storm_70 : decode cX7_storm 70 = .ok (.iload 5, 2) := by decide +kernel
theorem dX7_storm_72 : decode cX7_storm 72 = .ok (.bipush (-9), 2) := by decide +kernel
theorem dX7_storm_74 : decode cX7_storm 74 = .ok (.if_icmp .ne 7, 3) := by decide +kernel
theorem dX7_storm_77 : decode cX7_storm 77 = .ok (.iload_n 2, 1) := by decide +kernel
theorem dX7_storm_78 : decode cX7_storm 78 = .ok (.goto 5, 3) := by decide +kernel
theorem dX7_storm_81 : decode cX7_storm 81 = .ok (.iload 5, 2) := by decide +kernel
theorem dX7_storm_83 : decode cX7_storm 83 = .ok (.istore_n 2, 1) := by decide +kernel
theorem dX7_storm_84 : decode cX7_storm 84 = .ok (.iinc 3 1, 3) := by decide +kernel
theorem dX7_storm_87 : decode cX7_storm 87 = .ok (.goto (-66), 3) := by decide +kernel
theorem dX7_storm_90 : decode cX7_storm 90 = .ok (.iload_n 2, 1) := by decide +kernel
theorem dX7_storm_91 : decode cX7_storm 91 = .ok (.ireturn, 1) := by decide +kernel
set_option maxRecDepth 20000 in
theorem ggX7_keep_X7_momentNow : GoodIn wsX7_keep wsX7_momentNow := goodIn_r _ [6, 7, 8, 26, 27, 28, 29, 30, 31, 32, 33, 34, 35, 36, 37, 38, 39] (by decide +kernel) (by decide +kernel)
set_option maxRecDepth 20000 in
theorem gX7_keep_X7_momentNow : GoodIn wsX7_keep (wsV RX7 151 RX7 yX7_momentNow wsX7_momentNow) := goodIn_app (goodIn_of _ (by decide +kernel)) ggX7_keep_X7_momentNow
set_option maxRecDepth 20000 in
theorem ggX7_keep_X4_put : GoodIn wsX7_keep wsX4_put := goodIn_r _ [13, 14, 40] (by decide +kernel) (by decide +kernel)
set_option maxRecDepth 20000 in
theorem gX7_keep_X4_put : GoodIn wsX7_keep (wsV RX7 241 RX4 yX4_put wsX4_put) := goodIn_app (goodIn_of _ (by decide +kernel)) ggX7_keep_X4_put
set_option maxRecDepth 20000 in
theorem ggX7_keep_X7_squaresNow : GoodIn wsX7_keep wsX7_squaresNow := goodIn_r _ [18, 8, 19, 20, 21, 22, 23, 24, 25, 26, 27, 28, 29, 30, 31, 32, 33, 34, 35, 36, 37, 38, 39] (by decide +kernel) (by decide +kernel)
set_option maxRecDepth 20000 in
theorem gX7_keep_X7_squaresNow : GoodIn wsX7_keep (wsV RX7 148 RX7 yX7_squaresNow wsX7_squaresNow) := goodIn_app (goodIn_of _ (by decide +kernel)) ggX7_keep_X7_squaresNow
theorem dX7_keep_0 : decode cX7_keep 0 = .ok (.iload_n 1, 1) := by decide +kernel
theorem dX7_keep_1 : decode cX7_keep 1 = .ok (.ifCond .lt 8, 3) := by decide +kernel
theorem dX7_keep_4 : decode cX7_keep 4 = .ok (.iload_n 1, 1) := by decide +kernel
theorem dX7_keep_5 : decode cX7_keep 5 = .ok (.iconst 2, 1) := by decide +kernel
theorem dX7_keep_6 : decode cX7_keep 6 = .ok (.if_icmp .lt 5, 3) := by decide +kernel
theorem dX7_keep_9 : decode cX7_keep 9 = .ok (.iconst (-1), 1) := by decide +kernel
theorem dX7_keep_10 : decode cX7_keep 10 = .ok (.ireturn, 1) := by decide +kernel
theorem dX7_keep_11 : decode cX7_keep 11 = .ok (.aload_n 0, 1) := by decide +kernel
theorem dX7_keep_12 : decode cX7_keep 12 = .ok (.getfield 61, 3) := by decide +kernel
theorem dX7_keep_15 : decode cX7_keep 15 = .ok (.iload_n 1, 1) := by decide +kernel
theorem dX7_keep_16 : decode cX7_keep 16 = .ok (.aload_n 0, 1) := by decide +kernel
theorem dX7_keep_17 : decode cX7_keep 17 = .ok (.invokevirtual 151, 3) := by decide +kernel
theorem dX7_keep_20 : decode cX7_keep 20 = .ok (.invokevirtual 241, 3) := by decide +kernel
theorem dX7_keep_23 : decode cX7_keep 23 = .ok (.aload_n 0, 1) := by decide +kernel
theorem dX7_keep_24 : decode cX7_keep 24 = .ok (.invokevirtual 148, 3) := by decide +kernel
theorem dX7_keep_27 : decode cX7_keep 27 = .ok (.ireturn, 1) := by decide +kernel
set_option maxRecDepth 20000 in
theorem ggX7_again_X4_at : GoodIn wsX7_again wsX4_at := goodIn_r _ [7, 8, 47] (by decide +kernel) (by decide +kernel)
set_option maxRecDepth 20000 in
theorem gX7_again_X4_at : GoodIn wsX7_again (wsV RX7 245 RX4 yX4_at wsX4_at) := goodIn_app (goodIn_of _ (by decide +kernel)) ggX7_again_X4_at
set_option maxRecDepth 20000 in
theorem ggX7_again_X7_goBackTo : GoodIn wsX7_again wsX7_goBackTo := goodIn_r _ [13, 14, 15, 33, 34, 35, 36, 37, 38, 39, 40, 41, 42, 43, 44, 45, 46] (by decide +kernel) (by decide +kernel)
set_option maxRecDepth 20000 in
theorem gX7_again_X7_goBackTo : GoodIn wsX7_again (wsV RX7 162 RX7 yX7_goBackTo wsX7_goBackTo) := goodIn_app (goodIn_of _ (by decide +kernel)) ggX7_again_X7_goBackTo
set_option maxRecDepth 20000 in
theorem ggX7_again_X0_clear : GoodIn wsX7_again wsX0_clear := goodIn_r _ [20, 21, 48, 49] (by decide +kernel) (by decide +kernel)
set_option maxRecDepth 20000 in
theorem gX7_again_X0_clear : GoodIn wsX7_again (wsV RX7 85 RX0 yX0_clear wsX0_clear) := goodIn_app (goodIn_of _ (by decide +kernel)) ggX7_again_X0_clear
set_option maxRecDepth 20000 in
theorem ggX7_again_X7_squaresNow : GoodIn wsX7_again wsX7_squaresNow := goodIn_r _ [25, 14, 26, 27, 28, 29, 30, 31, 32, 33, 34, 35, 36, 37, 38, 39, 40, 41, 42, 43, 44, 45, 46] (by decide +kernel) (by decide +kernel)
set_option maxRecDepth 20000 in
theorem gX7_again_X7_squaresNow : GoodIn wsX7_again (wsV RX7 148 RX7 yX7_squaresNow wsX7_squaresNow) := goodIn_app (goodIn_of _ (by decide +kernel)) ggX7_again_X7_squaresNow
theorem dX7_again_0 : decode cX7_again 0 = .ok (.iload_n 1, 1) := by decide +kernel
theorem dX7_again_1 : decode cX7_again 1 = .ok (.ifCond .lt 8, 3) := by decide +kernel
theorem dX7_again_4 : decode cX7_again 4 = .ok (.iload_n 1, 1) := by decide +kernel
theorem dX7_again_5 : decode cX7_again 5 = .ok (.iconst 2, 1) := by decide +kernel
theorem dX7_again_6 : decode cX7_again 6 = .ok (.if_icmp .lt 5, 3) := by decide +kernel
theorem dX7_again_9 : decode cX7_again 9 = .ok (.iconst (-1), 1) := by decide +kernel
theorem dX7_again_10 : decode cX7_again 10 = .ok (.ireturn, 1) := by decide +kernel
theorem dX7_again_11 : decode cX7_again 11 = .ok (.aload_n 0, 1) := by decide +kernel
theorem dX7_again_12 : decode cX7_again 12 = .ok (.getfield 61, 3) := by decide +kernel
theorem dX7_again_15 : decode cX7_again 15 = .ok (.iload_n 1, 1) := by decide +kernel
theorem dX7_again_16 : decode cX7_again 16 = .ok (.invokevirtual 245, 3) := by decide +kernel
theorem dX7_again_19 : decode cX7_again 19 = .ok (.istore_n 2, 1) := by decide +kernel
theorem dX7_again_20 : decode cX7_again 20 = .ok (.iload_n 2, 1) := by decide +kernel
theorem dX7_again_21 : decode cX7_again 21 = .ok (.bipush (-9), 2) := by decide +kernel
theorem dX7_again_23 : decode cX7_again 23 = .ok (.if_icmp .ne 6, 3) := by decide +kernel
theorem dX7_again_26 : decode cX7_again 26 = .ok (.bipush (-3), 2) := by decide +kernel
theorem dX7_again_28 : decode cX7_again 28 = .ok (.ireturn, 1) := by decide +kernel
theorem dX7_again_29 : decode cX7_again 29 = .ok (.aload_n 0, 1) := by decide +kernel
theorem dX7_again_30 : decode cX7_again 30 = .ok (.iload_n 2, 1) := by decide +kernel
theorem dX7_again_31 : decode cX7_again 31 = .ok (.invokevirtual 162, 3) := by decide +kernel
theorem dX7_again_34 : decode cX7_again 34 = .ok (.aload_n 0, 1) := by decide +kernel
theorem dX7_again_35 : decode cX7_again 35 = .ok (.getfield 52, 3) := by decide +kernel
theorem dX7_again_38 : decode cX7_again 38 = .ok (.invokevirtual 85, 3) := by decide +kernel
theorem dX7_again_41 : decode cX7_again 41 = .ok (.aload_n 0, 1) := by decide +kernel
theorem dX7_again_42 : decode cX7_again 42 = .ok (.invokevirtual 148, 3) := by decide +kernel
theorem dX7_again_45 : decode cX7_again 45 = .ok (.ireturn, 1) := by decide +kernel
set_option maxRecDepth 20000 in
theorem ggX7_count_X6_length : GoodIn wsX7_count wsX6_length := goodIn_r _ [11, 12, 69, 70] (by decide +kernel) (by decide +kernel)
set_option maxRecDepth 20000 in
theorem gX7_count_X6_length : GoodIn wsX7_count (wsV RX7 68 RX6 yX6_length wsX6_length) := goodIn_app (goodIn_of _ (by decide +kernel)) ggX7_count_X6_length
set_option maxRecDepth 20000 in
theorem ggX7_count_X1_wishCount : GoodIn wsX7_count wsX1_wishCount := goodIn_r _ [17, 18, 71, 72, 73, 74, 75, 76, 77, 78, 79, 80, 81] (by decide +kernel) (by decide +kernel)
set_option maxRecDepth 20000 in
theorem gX7_count_X1_wishCount : GoodIn wsX7_count (wsV RX7 96 RX1 yX1_wishCount wsX1_wishCount) := goodIn_app (goodIn_of _ (by decide +kernel)) ggX7_count_X1_wishCount
set_option maxRecDepth 20000 in
theorem ggX7_count_X1_owedCount : GoodIn wsX7_count wsX1_owedCount := goodIn_r _ [22, 23, 24, 25, 26, 27, 28, 29, 30, 71, 72, 73, 74, 75, 76, 77, 78, 79, 80, 81] (by decide +kernel) (by decide +kernel)
set_option maxRecDepth 20000 in
theorem gX7_count_X1_owedCount : GoodIn wsX7_count (wsV RX7 248 RX1 yX1_owedCount wsX1_owedCount) := goodIn_app (goodIn_of _ (by decide +kernel)) ggX7_count_X1_owedCount
set_option maxRecDepth 20000 in
theorem ggX7_count_X7_squaresNow : GoodIn wsX7_count wsX7_squaresNow := goodIn_r _ [35, 4, 36, 25, 26, 27, 28, 29, 30, 55, 56, 57, 58, 59, 60, 61, 62, 63, 64, 65, 66, 67, 68] (by decide +kernel) (by decide +kernel)
set_option maxRecDepth 20000 in
theorem gX7_count_X7_squaresNow : GoodIn wsX7_count (wsV RX7 148 RX7 yX7_squaresNow wsX7_squaresNow) := goodIn_app (goodIn_of _ (by decide +kernel)) ggX7_count_X7_squaresNow
set_option maxRecDepth 20000 in
theorem ggX7_count_X0_size : GoodIn wsX7_count wsX0_size := goodIn_r _ [41, 42, 82, 83] (by decide +kernel) (by decide +kernel)
set_option maxRecDepth 20000 in
theorem gX7_count_X0_size : GoodIn wsX7_count (wsV RX7 165 RX0 yX0_size wsX0_size) := goodIn_app (goodIn_of _ (by decide +kernel)) ggX7_count_X0_size
set_option maxRecDepth 20000 in
theorem ggX7_count_X1_grantedBy : GoodIn wsX7_count wsX1_grantedBy := goodIn_r _ [46, 18, 47, 48, 49, 50, 51, 52, 53, 54, 71, 72, 73, 74, 75, 76, 77, 78, 79, 80, 81, 84] (by decide +kernel) (by decide +kernel)
set_option maxRecDepth 20000 in
theorem gX7_count_X1_grantedBy : GoodIn wsX7_count (wsV RX7 119 RX1 yX1_grantedBy wsX1_grantedBy) := goodIn_app (goodIn_of _ (by decide +kernel)) ggX7_count_X1_grantedBy
theorem dX7_count_0 : decode cX7_count 0 = .ok (.iload_n 1, 1) := by decide +kernel
theorem dX7_count_1 : decode cX7_count 1 = .ok (.tableswitch 115 0 8 #[51, 59, 67, 75, 80, 85, 90, 98, 103], 51) := by decide +kernel
theorem dX7_count_52 : decode cX7_count 52 = .ok (.aload_n 0, 1) := by decide +kernel
theorem dX7_count_53 : decode cX7_count 53 = .ok (.getfield 12, 3) := by decide +kernel
theorem dX7_count_56 : decode cX7_count 56 = .ok (.invokevirtual 68, 3) := by decide +kernel
theorem dX7_count_59 : decode cX7_count 59 = .ok (.ireturn, 1) := by decide +kernel
theorem dX7_count_60 : decode cX7_count 60 = .ok (.aload_n 0, 1) := by decide +kernel
theorem dX7_count_61 : decode cX7_count 61 = .ok (.getfield 19, 3) := by decide +kernel
theorem dX7_count_64 : decode cX7_count 64 = .ok (.invokevirtual 96, 3) := by decide +kernel
theorem dX7_count_67 : decode cX7_count 67 = .ok (.ireturn, 1) := by decide +kernel
theorem dX7_count_68 : decode cX7_count 68 = .ok (.aload_n 0, 1) := by decide +kernel
theorem dX7_count_69 : decode cX7_count 69 = .ok (.getfield 19, 3) := by decide +kernel
theorem dX7_count_72 : decode cX7_count 72 = .ok (.invokevirtual 248, 3) := by decide +kernel
theorem dX7_count_75 : decode cX7_count 75 = .ok (.ireturn, 1) := by decide +kernel
theorem dX7_count_76 : decode cX7_count 76 = .ok (.aload_n 0, 1) := by decide +kernel
theorem dX7_count_77 : decode cX7_count 77 = .ok (.invokevirtual 148, 3) := by decide +kernel
theorem dX7_count_80 : decode cX7_count 80 = .ok (.ireturn, 1) := by decide +kernel
theorem dX7_count_81 : decode cX7_count 81 = .ok (.aload_n 0, 1) := by decide +kernel
theorem dX7_count_82 : decode cX7_count 82 = .ok (.getfield 93, 3) := by decide +kernel
theorem dX7_count_85 : decode cX7_count 85 = .ok (.ireturn, 1) := by decide +kernel
theorem dX7_count_86 : decode cX7_count 86 = .ok (.aload_n 0, 1) := by decide +kernel
theorem dX7_count_87 : decode cX7_count 87 = .ok (.getfield 89, 3) := by decide +kernel
theorem dX7_count_90 : decode cX7_count 90 = .ok (.ireturn, 1) := by decide +kernel
theorem dX7_count_91 : decode cX7_count 91 = .ok (.aload_n 0, 1) := by decide +kernel
theorem dX7_count_92 : decode cX7_count 92 = .ok (.getfield 52, 3) := by decide +kernel
theorem dX7_count_95 : decode cX7_count 95 = .ok (.invokevirtual 165, 3) := by decide +kernel
theorem dX7_count_98 : decode cX7_count 98 = .ok (.ireturn, 1) := by decide +kernel
theorem dX7_count_99 : decode cX7_count 99 = .ok (.aload_n 0, 1) := by decide +kernel
theorem dX7_count_100 : decode cX7_count 100 = .ok (.getfield 218, 3) := by decide +kernel
theorem dX7_count_103 : decode cX7_count 103 = .ok (.ireturn, 1) := by decide +kernel
theorem dX7_count_104 : decode cX7_count 104 = .ok (.aload_n 0, 1) := by decide +kernel
theorem dX7_count_105 : decode cX7_count 105 = .ok (.getfield 19, 3) := by decide +kernel
theorem dX7_count_108 : decode cX7_count 108 = .ok (.aload_n 0, 1) := by decide +kernel
theorem dX7_count_109 : decode cX7_count 109 = .ok (.getfield 89, 3) := by decide +kernel
theorem dX7_count_112 : decode cX7_count 112 = .ok (.invokevirtual 119, 3) := by decide +kernel
theorem dX7_count_115 : decode cX7_count 115 = .ok (.ireturn, 1) := by decide +kernel
theorem dX7_count_116 : decode cX7_count 116 = .ok (.bipush (-2), 2) := by decide +kernel
theorem dX7_count_118 : decode cX7_count 118 = .ok (.ireturn, 1) := by decide +kernel
theorem dX7_isCell_0 : decode cX7_isCell 0 = .ok (.iload_n 0, 1) := by decide +kernel
theorem dX7_isCell_1 : decode cX7_isCell 1 = .ok (.ifCond .lt 13, 3) := by decide +kernel
theorem dX7_isCell_4 : decode cX7_isCell 4 = .ok (.iload_n 0, 1) := by decide +kernel
theorem dX7_isCell_5 : decode cX7_isCell 5 = .ok (.bipush 12, 2) := by decide +kernel
theorem dX7_isCell_7 : decode cX7_isCell 7 = .ok (.if_icmp .ge 7, 3) := by decide +kernel
theorem dX7_isCell_10 : decode cX7_isCell 10 = .ok (.iconst 1, 1) := by decide +kernel
theorem dX7_isCell_11 : decode cX7_isCell 11 = .ok (.goto 4, 3) := by decide +kernel
theorem dX7_isCell_14 : decode cX7_isCell 14 = .ok (.iconst 0, 1) := by decide +kernel
theorem dX7_isCell_15 : decode cX7_isCell 15 = .ok (.ireturn, 1) := by decide +kernel
theorem dX7_isHour_0 : decode cX7_isHour 0 = .ok (.iload_n 0, 1) := by decide +kernel
theorem dX7_isHour_1 : decode cX7_isHour 1 = .ok (.ifCond .lt 13, 3) := by decide +kernel
theorem dX7_isHour_4 : decode cX7_isHour 4 = .ok (.iload_n 0, 1) := by decide +kernel
theorem dX7_isHour_5 : decode cX7_isHour 5 = .ok (.bipush 6, 2) := by decide +kernel
theorem dX7_isHour_7 : decode cX7_isHour 7 = .ok (.if_icmp .ge 7, 3) := by decide +kernel
theorem dX7_isHour_10 : decode cX7_isHour 10 = .ok (.iconst 1, 1) := by decide +kernel
theorem dX7_isHour_11 : decode cX7_isHour 11 = .ok (.goto 4, 3) := by decide +kernel
theorem dX7_isHour_14 : decode cX7_isHour 14 = .ok (.iconst 0, 1) := by decide +kernel
theorem dX7_isHour_15 : decode cX7_isHour 15 = .ok (.ireturn, 1) := by decide +kernel
theorem dX7_isSquares_0 : decode cX7_isSquares 0 = .ok (.iload_n 0, 1) := by decide +kernel
theorem dX7_isSquares_1 : decode cX7_isSquares 1 = .ok (.ifCond .lt 12, 3) := by decide +kernel
theorem dX7_isSquares_4 : decode cX7_isSquares 4 = .ok (.iload_n 0, 1) := by decide +kernel
theorem dX7_isSquares_5 : decode cX7_isSquares 5 = .ok (.iconst 5, 1) := by decide +kernel
theorem dX7_isSquares_6 : decode cX7_isSquares 6 = .ok (.if_icmp .gt 7, 3) := by decide +kernel
theorem dX7_isSquares_9 : decode cX7_isSquares 9 = .ok (.iconst 1, 1) := by decide +kernel
theorem dX7_isSquares_10 : decode cX7_isSquares 10 = .ok (.goto 4, 3) := by decide +kernel
theorem dX7_isSquares_13 : decode cX7_isSquares 13 = .ok (.iconst 0, 1) := by decide +kernel
theorem dX7_isSquares_14 : decode cX7_isSquares 14 = .ok (.ireturn, 1) := by decide +kernel
set_option maxRecDepth 20000 in
theorem ggX7_isHanging_J6_bitCount_0f7a4 : GoodIn wsX7_isHanging wsJ6_bitCount_0f7a4 := goodIn_r _ [4, 5, 6, 7] (by decide +kernel) (by decide +kernel)
set_option maxRecDepth 20000 in
theorem gX7_isHanging_J6_bitCount_0f7a4 : GoodIn wsX7_isHanging (va_wsS RX7 194 yJ6_bitCount_0f7a4 wsJ6_bitCount_0f7a4) := goodIn_app (goodIn_of _ (by decide +kernel)) ggX7_isHanging_J6_bitCount_0f7a4
theorem dX7_isHanging_0 : decode cX7_isHanging 0 = .ok (.iload_n 0, 1) := by decide +kernel
theorem dX7_isHanging_1 : decode cX7_isHanging 1 = .ok (.ifCond .lt 22, 3) := by decide +kernel
theorem dX7_isHanging_4 : decode cX7_isHanging 4 = .ok (.iload_n 0, 1) := by decide +kernel
theorem dX7_isHanging_5 : decode cX7_isHanging 5 = .ok (.sipush 4096, 3) := by decide +kernel
theorem dX7_isHanging_8 : decode cX7_isHanging 8 = .ok (.if_icmp .ge 15, 3) := by decide +kernel
theorem dX7_isHanging_11 : decode cX7_isHanging 11 = .ok (.iload_n 0, 1) := by decide +kernel
theorem dX7_isHanging_12 : decode cX7_isHanging 12 = .ok (.invokestatic 194, 3) := by decide +kernel
theorem dX7_isHanging_15 : decode cX7_isHanging 15 = .ok (.iconst 5, 1) := by decide +kernel
theorem dX7_isHanging_16 : decode cX7_isHanging 16 = .ok (.if_icmp .gt 7, 3) := by decide +kernel
theorem dX7_isHanging_19 : decode cX7_isHanging 19 = .ok (.iconst 1, 1) := by decide +kernel
theorem dX7_isHanging_20 : decode cX7_isHanging 20 = .ok (.goto 4, 3) := by decide +kernel
theorem dX7_isHanging_23 : decode cX7_isHanging 23 = .ok (.iconst 0, 1) := by decide +kernel
theorem dX7_isHanging_24 : decode cX7_isHanging 24 = .ok (.ireturn, 1) := by decide +kernel
set_option maxRecDepth 20000 in
theorem ggX7_isWish_X1_wishCount : GoodIn wsX7_isWish wsX1_wishCount := goodIn_r _ [6, 7, 22, 23, 24, 25, 26, 27, 28, 29, 30, 31, 32] (by decide +kernel) (by decide +kernel)
set_option maxRecDepth 20000 in
theorem gX7_isWish_X1_wishCount : GoodIn wsX7_isWish (wsV RX7 96 RX1 yX1_wishCount wsX1_wishCount) := goodIn_app (goodIn_of _ (by decide +kernel)) ggX7_isWish_X1_wishCount
theorem dX7_isWish_0 : decode cX7_isWish 0 = .ok (.iload_n 1, 1) := by decide +kernel
theorem dX7_isWish_1 : decode cX7_isWish 1 = .ok (.ifCond .lt 18, 3) := by decide +kernel
theorem dX7_isWish_4 : decode cX7_isWish 4 = .ok (.iload_n 1, 1) := by decide +kernel
theorem dX7_isWish_5 : decode cX7_isWish 5 = .ok (.aload_n 0, 1) := by decide +kernel
theorem dX7_isWish_6 : decode cX7_isWish 6 = .ok (.getfield 19, 3) := by decide +kernel
theorem dX7_isWish_9 : decode cX7_isWish 9 = .ok (.invokevirtual 96, 3) := by decide +kernel
theorem dX7_isWish_12 : decode cX7_isWish 12 = .ok (.if_icmp .ge 7, 3) := by decide +kernel
theorem dX7_isWish_15 : decode cX7_isWish 15 = .ok (.iconst 1, 1) := by decide +kernel
theorem dX7_isWish_16 : decode cX7_isWish 16 = .ok (.goto 4, 3) := by decide +kernel
theorem dX7_isWish_19 : decode cX7_isWish 19 = .ok (.iconst 0, 1) := by decide +kernel
theorem dX7_isWish_20 : decode cX7_isWish 20 = .ok (.ireturn, 1) := by decide +kernel
theorem dX7_has_0 : decode cX7_has 0 = .ok (.iload_n 0, 1) := by decide +kernel
theorem dX7_has_1 : decode cX7_has 1 = .ok (.iload_n 1, 1) := by decide +kernel
theorem dX7_has_2 : decode cX7_has 2 = .ok (.ishr, 1) := by decide +kernel
theorem dX7_has_3 : decode cX7_has 3 = .ok (.iconst 1, 1) := by decide +kernel
theorem dX7_has_4 : decode cX7_has 4 = .ok (.iand, 1) := by decide +kernel
theorem dX7_has_5 : decode cX7_has 5 = .ok (.iconst 1, 1) := by decide +kernel
theorem dX7_has_6 : decode cX7_has 6 = .ok (.if_icmp .ne 7, 3) := by decide +kernel
theorem dX7_has_9 : decode cX7_has 9 = .ok (.iconst 1, 1) := by decide +kernel
theorem dX7_has_10 : decode cX7_has 10 = .ok (.goto 4, 3) := by decide +kernel
theorem dX7_has_13 : decode cX7_has 13 = .ok (.iconst 0, 1) := by decide +kernel
theorem dX7_has_14 : decode cX7_has 14 = .ok (.ireturn, 1) := by decide +kernel
theorem dX7_cellAbove_0 : decode cX7_cellAbove 0 = .ok (.iload_n 0, 1) := by decide +kernel
theorem dX7_cellAbove_1 : decode cX7_cellAbove 1 = .ok (.bipush 6, 2) := by decide +kernel
theorem dX7_cellAbove_3 : decode cX7_cellAbove 3 = .ok (.irem, 1) := by decide +kernel
theorem dX7_cellAbove_4 : decode cX7_cellAbove 4 = .ok (.istore_n 2, 1) := by decide +kernel
theorem dX7_cellAbove_5 : decode cX7_cellAbove 5 = .ok (.iload_n 0, 1) := by decide +kernel
theorem dX7_cellAbove_6 : decode cX7_cellAbove 6 = .ok (.iload_n 2, 1) := by decide +kernel
theorem dX7_cellAbove_7 : decode cX7_cellAbove 7 = .ok (.isub, 1) := by decide +kernel
theorem dX7_cellAbove_8 : decode cX7_cellAbove 8 = .ok (.iload_n 2, 1) := by decide +kernel
theorem dX7_cellAbove_9 : decode cX7_cellAbove 9 = .ok (.bipush 6, 2) := by decide +kernel
theorem dX7_cellAbove_11 : decode cX7_cellAbove 11 = .ok (.iadd, 1) := by decide +kernel
theorem dX7_cellAbove_12 : decode cX7_cellAbove 12 = .ok (.iload_n 1, 1) := by decide +kernel
theorem dX7_cellAbove_13 : decode cX7_cellAbove 13 = .ok (.isub, 1) := by decide +kernel
theorem dX7_cellAbove_14 : decode cX7_cellAbove 14 = .ok (.bipush 6, 2) := by decide +kernel
theorem dX7_cellAbove_16 : decode cX7_cellAbove 16 = .ok (.irem, 1) := by decide +kernel
theorem dX7_cellAbove_17 : decode cX7_cellAbove 17 = .ok (.iadd, 1) := by decide +kernel
theorem dX7_cellAbove_18 : decode cX7_cellAbove 18 = .ok (.ireturn, 1) := by decide +kernel
theorem dX7_nextCell_0 : decode cX7_nextCell 0 = .ok (.iload_n 1, 1) := by decide +kernel
theorem dX7_nextCell_1 : decode cX7_nextCell 1 = .ok (.ifCond .ne 11, 3) := by decide +kernel
theorem dX7_nextCell_4 : decode cX7_nextCell 4 = .ok (.iload_n 0, 1) := by decide +kernel
theorem dX7_nextCell_5 : decode cX7_nextCell 5 = .ok (.bipush 6, 2) := by decide +kernel
theorem dX7_nextCell_7 : decode cX7_nextCell 7 = .ok (.iadd, 1) := by decide +kernel
theorem dX7_nextCell_8 : decode cX7_nextCell 8 = .ok (.bipush 12, 2) := by decide +kernel
theorem dX7_nextCell_10 : decode cX7_nextCell 10 = .ok (.irem, 1) := by decide +kernel
theorem dX7_nextCell_11 : decode cX7_nextCell 11 = .ok (.ireturn, 1) := by decide +kernel
theorem dX7_nextCell_12 : decode cX7_nextCell 12 = .ok (.iload_n 0, 1) := by decide +kernel
theorem dX7_nextCell_13 : decode cX7_nextCell 13 = .ok (.bipush 6, 2) := by decide +kernel
theorem dX7_nextCell_15 : decode cX7_nextCell 15 = .ok (.irem, 1) := by decide +kernel
theorem dX7_nextCell_16 : decode cX7_nextCell 16 = .ok (.istore_n 2, 1) := by decide +kernel
theorem dX7_nextCell_17 : decode cX7_nextCell 17 = .ok (.iload_n 0, 1) := by decide +kernel
theorem dX7_nextCell_18 : decode cX7_nextCell 18 = .ok (.iload_n 2, 1) := by decide +kernel
theorem dX7_nextCell_19 : decode cX7_nextCell 19 = .ok (.isub, 1) := by decide +kernel
theorem dX7_nextCell_20 : decode cX7_nextCell 20 = .ok (.iload_n 2, 1) := by decide +kernel
theorem dX7_nextCell_21 : decode cX7_nextCell 21 = .ok (.bipush 6, 2) := by decide +kernel
theorem dX7_nextCell_23 : decode cX7_nextCell 23 = .ok (.iadd, 1) := by decide +kernel
theorem dX7_nextCell_24 : decode cX7_nextCell 24 = .ok (.iload_n 1, 1) := by decide +kernel
theorem dX7_nextCell_25 : decode cX7_nextCell 25 = .ok (.iadd, 1) := by decide +kernel
theorem dX7_nextCell_26 : decode cX7_nextCell 26 = .ok (.bipush 6, 2) := by decide +kernel
theorem dX7_nextCell_28 : decode cX7_nextCell 28 = .ok (.irem, 1) := by decide +kernel
theorem dX7_nextCell_29 : decode cX7_nextCell 29 = .ok (.iadd, 1) := by decide +kernel
theorem dX7_nextCell_30 : decode cX7_nextCell 30 = .ok (.ireturn, 1) := by decide +kernel
set_option maxRecDepth 20000 in
theorem ggX7_afterMove_X7_nextCell : GoodIn wsX7_afterMove wsX7_nextCell := goodIn_r _ [4] (by decide +kernel) (by decide +kernel)
set_option maxRecDepth 20000 in
theorem gX7_afterMove_X7_nextCell : GoodIn wsX7_afterMove (va_wsS RX7 145 yX7_nextCell wsX7_nextCell) := goodIn_app (goodIn_of _ (by decide +kernel)) ggX7_afterMove_X7_nextCell
set_option maxRecDepth 20000 in
theorem ggX7_afterMove_X7_has : GoodIn wsX7_afterMove wsX7_has := goodIn_r _ [7] (by decide +kernel) (by decide +kernel)
set_option maxRecDepth 20000 in
theorem gX7_afterMove_X7_has : GoodIn wsX7_afterMove (va_wsS RX7 122 yX7_has wsX7_has) := goodIn_app (goodIn_of _ (by decide +kernel)) ggX7_afterMove_X7_has
theorem dX7_afterMove_0 : decode cX7_afterMove 0 = .ok (.iload_n 1, 1) := by decide +kernel
theorem dX7_afterMove_1 : decode cX7_afterMove 1 = .ok (.iload_n 2, 1) := by decide +kernel
theorem dX7_afterMove_2 : decode cX7_afterMove 2 = .ok (.invokestatic 145, 3) := by decide +kernel
theorem dX7_afterMove_5 : decode cX7_afterMove 5 = .ok (.istore_n 3, 1) := by decide +kernel
theorem dX7_afterMove_6 : decode cX7_afterMove 6 = .ok (.iload_n 0, 1) := by decide +kernel
theorem dX7_afterMove_7 : decode cX7_afterMove 7 = .ok (.iload_n 1, 1) := by decide +kernel
theorem dX7_afterMove_8 : decode cX7_afterMove 8 = .ok (.invokestatic 122, 3) := by decide +kernel
theorem dX7_afterMove_11 : decode cX7_afterMove 11 = .ok (.ifCond .eq 11, 3) := by decide +kernel
theorem dX7_afterMove_14 : decode cX7_afterMove 14 = .ok (.iload_n 0, 1) := by decide +kernel
theorem dX7_afterMove_15 : decode cX7_afterMove 15 = .ok (.iload_n 3, 1) := by decide +kernel
theorem dX7_afterMove_16 : decode cX7_afterMove 16 = .ok (.invokestatic 122, 3) := by decide +kernel
theorem dX7_afterMove_19 : decode cX7_afterMove 19 = .ok (.ifCond .eq 6, 3) := by decide +kernel
theorem dX7_afterMove_22 : decode cX7_afterMove 22 = .ok (.bipush (-9), 2) := by decide +kernel
theorem dX7_afterMove_24 : decode cX7_afterMove 24 = .ok (.ireturn, 1) := by decide +kernel
theorem dX7_afterMove_25 : decode cX7_afterMove 25 = .ok (.iload_n 0, 1) := by decide +kernel
theorem dX7_afterMove_26 : decode cX7_afterMove 26 = .ok (.iconst 1, 1) := by decide +kernel
theorem dX7_afterMove_27 : decode cX7_afterMove 27 = .ok (.iload_n 1, 1) := by decide +kernel
theorem dX7_afterMove_28 : decode cX7_afterMove 28 = .ok (.ishl, 1) := by decide +kernel
theorem dX7_afterMove_29 : decode cX7_afterMove 29 = .ok (.iconst (-1), 1) := by decide +kernel
theorem dX7_afterMove_30 : decode cX7_afterMove 30 = .ok (.ixor, 1) := by decide +kernel
theorem dX7_afterMove_31 : decode cX7_afterMove 31 = .ok (.iand, 1) := by decide +kernel
theorem dX7_afterMove_32 : decode cX7_afterMove 32 = .ok (.iconst 1, 1) := by decide +kernel
theorem dX7_afterMove_33 : decode cX7_afterMove 33 = .ok (.iload_n 3, 1) := by decide +kernel
theorem dX7_afterMove_34 : decode cX7_afterMove 34 = .ok (.ishl, 1) := by decide +kernel
theorem dX7_afterMove_35 : decode cX7_afterMove 35 = .ok (.ior, 1) := by decide +kernel
theorem dX7_afterMove_36 : decode cX7_afterMove 36 = .ok (.ireturn, 1) := by decide +kernel
set_option maxRecDepth 20000 in
theorem ggX7_afterToldMove_X7_isCell : GoodIn wsX7_afterToldMove wsX7_isCell := goodIn_r _ [4] (by decide +kernel) (by decide +kernel)
set_option maxRecDepth 20000 in
theorem gX7_afterToldMove_X7_isCell : GoodIn wsX7_afterToldMove (va_wsS RX7 129 yX7_isCell wsX7_isCell) := goodIn_app (goodIn_of _ (by decide +kernel)) ggX7_afterToldMove_X7_isCell
set_option maxRecDepth 20000 in
theorem ggX7_afterToldMove_X7_afterMove : GoodIn wsX7_afterToldMove wsX7_afterMove := goodIn_r _ [7, 8, 9, 3, 10, 11, 12, 13] (by decide +kernel) (by decide +kernel)
set_option maxRecDepth 20000 in
theorem gX7_afterToldMove_X7_afterMove : GoodIn wsX7_afterToldMove (va_wsS RX7 155 yX7_afterMove wsX7_afterMove) := goodIn_app (goodIn_of _ (by decide +kernel)) ggX7_afterToldMove_X7_afterMove
theorem dX7_afterToldMove_0 : decode cX7_afterToldMove 0 = .ok (.iload_n 1, 1) := by decide +kernel
theorem dX7_afterToldMove_1 : decode cX7_afterToldMove 1 = .ok (.invokestatic 129, 3) := by decide +kernel
theorem dX7_afterToldMove_4 : decode cX7_afterToldMove 4 = .ok (.ifCond .eq 12, 3) := by decide +kernel
theorem dX7_afterToldMove_7 : decode cX7_afterToldMove 7 = .ok (.iload_n 2, 1) := by decide +kernel
theorem dX7_afterToldMove_8 : decode cX7_afterToldMove 8 = .ok (.ifCond .lt 8, 3) := by decide +kernel
theorem dX7_afterToldMove_11 : decode cX7_afterToldMove 11 = .ok (.iload_n 2, 1) := by decide +kernel
theorem dX7_afterToldMove_12 : decode cX7_afterToldMove 12 = .ok (.iconst 2, 1) := by decide +kernel
theorem dX7_afterToldMove_13 : decode cX7_afterToldMove 13 = .ok (.if_icmp .le 6, 3) := by decide +kernel
theorem dX7_afterToldMove_16 : decode cX7_afterToldMove 16 = .ok (.bipush (-9), 2) := by decide +kernel
theorem dX7_afterToldMove_18 : decode cX7_afterToldMove 18 = .ok (.ireturn, 1) := by decide +kernel
theorem dX7_afterToldMove_19 : decode cX7_afterToldMove 19 = .ok (.iload_n 0, 1) := by decide +kernel
theorem dX7_afterToldMove_20 : decode cX7_afterToldMove 20 = .ok (.iload_n 1, 1) := by decide +kernel
theorem dX7_afterToldMove_21 : decode cX7_afterToldMove 21 = .ok (.iload_n 2, 1) := by decide +kernel
theorem dX7_afterToldMove_22 : decode cX7_afterToldMove 22 = .ok (.ifCond .ne 7, 3) := by decide +kernel
theorem dX7_afterToldMove_25 : decode cX7_afterToldMove 25 = .ok (.iconst 1, 1) := by decide +kernel
theorem dX7_afterToldMove_26 : decode cX7_afterToldMove 26 = .ok (.goto 13, 3) := by decide +kernel
theorem dX7_afterToldMove_29 : decode cX7_afterToldMove 29 = .ok (.iload_n 2, 1) := by decide +kernel
theorem dX7_afterToldMove_30 : decode cX7_afterToldMove 30 = .ok (.iconst 1, 1) := by decide +kernel
theorem dX7_afterToldMove_31 : decode cX7_afterToldMove 31 = .ok (.if_icmp .ne 7, 3) := by decide +kernel
theorem dX7_afterToldMove_34 : decode cX7_afterToldMove 34 = .ok (.iconst (-1), 1) := by decide +kernel
theorem dX7_afterToldMove_35 : decode cX7_afterToldMove 35 = .ok (.goto 4, 3) := by decide +kernel
theorem dX7_afterToldMove_38 : decode cX7_afterToldMove 38 = .ok (.iconst 0, 1) := by decide +kernel
theorem dX7_afterToldMove_39 : decode cX7_afterToldMove 39 = .ok (.invokestatic 155, 3) := by decide +kernel
theorem dX7_afterToldMove_42 : decode cX7_afterToldMove 42 = .ok (.ireturn, 1) := by decide +kernel
set_option maxRecDepth 20000 in
theorem ggX7_darkHours_X7_cellAbove : GoodIn wsX7_darkHours wsX7_cellAbove := goodIn_r _ [5] (by decide +kernel) (by decide +kernel)
set_option maxRecDepth 20000 in
theorem gX7_darkHours_X7_cellAbove : GoodIn wsX7_darkHours (va_wsS RX7 132 yX7_cellAbove wsX7_cellAbove) := goodIn_app (goodIn_of _ (by decide +kernel)) ggX7_darkHours_X7_cellAbove
set_option maxRecDepth 20000 in
theorem ggX7_darkHours_X7_has : GoodIn wsX7_darkHours wsX7_has := goodIn_r _ [8] (by decide +kernel) (by decide +kernel)
set_option maxRecDepth 20000 in
theorem gX7_darkHours_X7_has : GoodIn wsX7_darkHours (va_wsS RX7 122 yX7_has wsX7_has) := goodIn_app (goodIn_of _ (by decide +kernel)) ggX7_darkHours_X7_has
theorem dX7_darkHours_0 : decode cX7_darkHours 0 = .ok (.iconst 0, 1) := by decide +kernel
theorem dX7_darkHours_1 : decode cX7_darkHours 1 = .ok (.istore_n 2, 1) := by decide +kernel
theorem dX7_darkHours_2 : decode cX7_darkHours 2 = .ok (.iconst 0, 1) := by decide +kernel
theorem dX7_darkHours_3 : decode cX7_darkHours 3 = .ok (.istore_n 3, 1) := by decide +kernel
theorem dX7_darkHours_4 : decode cX7_darkHours 4 = .ok (.iload_n 3, 1) := by decide +kernel
theorem dX7_darkHours_5 : decode cX7_darkHours 5 = .ok (.bipush 6, 2) := by decide +kernel
theorem dX7_darkHours_7 : decode cX7_darkHours 7 = .ok (.if_icmp .ge 30, 3) := by decide +kernel
theorem dX7_darkHours_10 : decode cX7_darkHours 10 = .ok (.aload_n 0, 1) := by decide +kernel
theorem dX7_darkHours_11 : decode cX7_darkHours 11 = .ok (.getfield 89, 3) := by decide +kernel
theorem dX7_darkHours_14 : decode cX7_darkHours 14 = .ok (.iload_n 1, 1) := by decide +kernel
theorem dX7_darkHours_15 : decode cX7_darkHours 15 = .ok (.iload_n 3, 1) := by decide +kernel
theorem dX7_darkHours_16 : decode cX7_darkHours 16 = .ok (.invokestatic 132, 3) := by decide +kernel
theorem dX7_darkHours_19 : decode cX7_darkHours 19 = .ok (.invokestatic 122, 3) := by decide +kernel
theorem dX7_darkHours_22 : decode cX7_darkHours 22 = .ok (.ifCond .eq 9, 3) := by decide +kernel
theorem dX7_darkHours_25 : decode cX7_darkHours 25 = .ok (.iload_n 2, 1) := by decide +kernel
theorem dX7_darkHours_26 : decode cX7_darkHours 26 = .ok (.iconst 1, 1) := by decide +kernel
theorem dX7_darkHours_27 : decode cX7_darkHours 27 = .ok (.iload_n 3, 1) := by decide +kernel
theorem dX7_darkHours_28 : decode cX7_darkHours 28 = .ok (.ishl, 1) := by decide +kernel
theorem dX7_darkHours_29 : decode cX7_darkHours 29 = .ok (.ior, 1) := by decide +kernel
theorem dX7_darkHours_30 : decode cX7_darkHours 30 = .ok (.istore_n 2, 1) := by decide +kernel
theorem dX7_darkHours_31 : decode cX7_darkHours 31 = .ok (.iinc 3 1, 3) := by decide +kernel
theorem dX7_darkHours_34 : decode cX7_darkHours 34 = .ok (.goto (-30), 3) := by decide +kernel
theorem dX7_darkHours_37 : decode cX7_darkHours 37 = .ok (.iload_n 2, 1) := by decide +kernel
theorem dX7_darkHours_38 : decode cX7_darkHours 38 = .ok (.ireturn, 1) := by decide +kernel
set_option maxRecDepth 20000 in
theorem ggX7_squaresNow_J6_bitCount_0f7a4 : GoodIn wsX7_squaresNow wsJ6_bitCount_0f7a4 := goodIn_r _ [5, 6, 7, 8] (by decide +kernel) (by decide +kernel)
set_option maxRecDepth 20000 in
theorem gX7_squaresNow_J6_bitCount_0f7a4 : GoodIn wsX7_squaresNow (va_wsS RX7 194 yJ6_bitCount_0f7a4 wsJ6_bitCount_0f7a4) := goodIn_app (goodIn_of _ (by decide +kernel)) ggX7_squaresNow_J6_bitCount_0f7a4
theorem dX7_squaresNow_0 : decode cX7_squaresNow 0 = .ok (.aload_n 0, 1) := by decide +kernel
theorem dX7_squaresNow_1 : decode cX7_squaresNow 1 = .ok (.getfield 89, 3) := by decide +kernel
theorem dX7_squaresNow_4 : decode cX7_squaresNow 4 = .ok (.invokestatic 194, 3) := by decide +kernel
theorem dX7_squaresNow_7 : decode cX7_squaresNow 7 = .ok (.ireturn, 1) := by decide +kernel
theorem dX7_momentNow_0 : decode cX7_momentNow 0 = .ok (.aload_n 0, 1) := by decide +kernel
theorem dX7_momentNow_1 : decode cX7_momentNow 1 = .ok (.getfield 93, 3) := by decide +kernel
theorem dX7_momentNow_4 : decode cX7_momentNow 4 = .ok (.sipush 4096, 3) := by decide +kernel
theorem dX7_momentNow_7 : decode cX7_momentNow 7 = .ok (.imul, 1) := by decide +kernel
theorem dX7_momentNow_8 : decode cX7_momentNow 8 = .ok (.aload_n 0, 1) := by decide +kernel
theorem dX7_momentNow_9 : decode cX7_momentNow 9 = .ok (.getfield 89, 3) := by decide +kernel
theorem dX7_momentNow_12 : decode cX7_momentNow 12 = .ok (.iadd, 1) := by decide +kernel
theorem dX7_momentNow_13 : decode cX7_momentNow 13 = .ok (.ireturn, 1) := by decide +kernel
theorem dX7_goBackTo_0 : decode cX7_goBackTo 0 = .ok (.aload_n 0, 1) := by decide +kernel
theorem dX7_goBackTo_1 : decode cX7_goBackTo 1 = .ok (.iload_n 1, 1) := by decide +kernel
theorem dX7_goBackTo_2 : decode cX7_goBackTo 2 = .ok (.sipush 4096, 3) := by decide +kernel
theorem dX7_goBackTo_5 : decode cX7_goBackTo 5 = .ok (.irem, 1) := by decide +kernel
theorem dX7_goBackTo_6 : decode cX7_goBackTo 6 = .ok (.putfield 89, 3) := by decide +kernel
theorem dX7_goBackTo_9 : decode cX7_goBackTo 9 = .ok (.aload_n 0, 1) := by decide +kernel
theorem dX7_goBackTo_10 : decode cX7_goBackTo 10 = .ok (.iload_n 1, 1) := by decide +kernel
theorem dX7_goBackTo_11 : decode cX7_goBackTo 11 = .ok (.sipush 4096, 3) := by decide +kernel
theorem dX7_goBackTo_14 : decode cX7_goBackTo 14 = .ok (.idiv, 1) := by decide +kernel
theorem dX7_goBackTo_15 : decode cX7_goBackTo 15 = .ok (.putfield 93, 3) := by decide +kernel
theorem dX7_goBackTo_18 : decode cX7_goBackTo 18 = .ok (.return_, 1) := by decide +kernel
set_option maxRecDepth 20000 in
theorem ggX7_emptySlots_X4_put : GoodIn wsX7_emptySlots wsX4_put := goodIn_r _ [6, 7, 22] (by decide +kernel) (by decide +kernel)
set_option maxRecDepth 20000 in
theorem gX7_emptySlots_X4_put : GoodIn wsX7_emptySlots (wsV RX7 241 RX4 yX4_put wsX4_put) := goodIn_app (goodIn_of _ (by decide +kernel)) ggX7_emptySlots_X4_put
theorem dX7_emptySlots_0 : decode cX7_emptySlots 0 = .ok (.iconst 0, 1) := by decide +kernel
theorem dX7_emptySlots_1 : decode cX7_emptySlots 1 = .ok (.istore_n 1, 1) := by decide +kernel
theorem dX7_emptySlots_2 : decode cX7_emptySlots 2 = .ok (.iload_n 1, 1) := by decide +kernel
theorem dX7_emptySlots_3 : decode cX7_emptySlots 3 = .ok (.iconst 2, 1) := by decide +kernel
theorem dX7_emptySlots_4 : decode cX7_emptySlots 4 = .ok (.if_icmp .ge 19, 3) := by decide +kernel
theorem dX7_emptySlots_7 : decode cX7_emptySlots 7 = .ok (.aload_n 0, 1) := by decide +kernel
theorem dX7_emptySlots_8 : decode cX7_emptySlots 8 = .ok (.getfield 61, 3) := by decide +kernel
theorem dX7_emptySlots_11 : decode cX7_emptySlots 11 = .ok (.iload_n 1, 1) := by decide +kernel
theorem dX7_emptySlots_12 : decode cX7_emptySlots 12 = .ok (.bipush (-9), 2) := by decide +kernel
theorem dX7_emptySlots_14 : decode cX7_emptySlots 14 = .ok (.invokevirtual 241, 3) := by decide +kernel
theorem dX7_emptySlots_17 : decode cX7_emptySlots 17 = .ok (.iinc 1 1, 3) := by decide +kernel
theorem dX7_emptySlots_20 : decode cX7_emptySlots 20 = .ok (.goto (-18), 3) := by decide +kernel
theorem dX7_emptySlots_23 : decode cX7_emptySlots 23 = .ok (.return_, 1) := by decide +kernel
theorem dX7_agreesWithTold_0 : decode cX7_agreesWithTold 0 = .ok (.iload_n 1, 1) := by decide +kernel
theorem dX7_agreesWithTold_1 : decode cX7_agreesWithTold 1 = .ok (.aload_n 0, 1) := by decide +kernel
theorem dX7_agreesWithTold_2 : decode cX7_agreesWithTold 2 = .ok (.getfield 221, 3) := by decide +kernel
theorem dX7_agreesWithTold_5 : decode cX7_agreesWithTold 5 = .ok (.iand, 1) := by decide +kernel
theorem dX7_agreesWithTold_6 : decode cX7_agreesWithTold 6 = .ok (.aload_n 0, 1) := by decide +kernel
theorem dX7_agreesWithTold_7 : decode cX7_agreesWithTold 7 = .ok (.getfield 221, 3) := by decide +kernel
theorem dX7_agreesWithTold_10 : decode cX7_agreesWithTold 10 = .ok (.if_icmp .ne 16, 3) := by decide +kernel
theorem dX7_agreesWithTold_13 : decode cX7_agreesWithTold 13 = .ok (.iload_n 1, 1) := by decide +kernel
theorem dX7_agreesWithTold_14 : decode cX7_agreesWithTold 14 = .ok (.aload_n 0, 1) := by decide +kernel
theorem dX7_agreesWithTold_15 : decode cX7_agreesWithTold 15 = .ok (.getfield 224, 3) := by decide +kernel
theorem dX7_agreesWithTold_18 : decode cX7_agreesWithTold 18 = .ok (.iand, 1) := by decide +kernel
theorem dX7_agreesWithTold_19 : decode cX7_agreesWithTold 19 = .ok (.ifCond .ne 7, 3) := by decide +kernel
theorem dX7_agreesWithTold_22 : decode cX7_agreesWithTold 22 = .ok (.iconst 1, 1) := by decide +kernel
theorem dX7_agreesWithTold_23 : decode cX7_agreesWithTold 23 = .ok (.goto 4, 3) := by decide +kernel
theorem dX7_agreesWithTold_26 : decode cX7_agreesWithTold 26 = .ok (.iconst 0, 1) := by decide +kernel
theorem dX7_agreesWithTold_27 : decode cX7_agreesWithTold 27 = .ok (.ireturn, 1) := by decide +kernel
set_option maxRecDepth 20000 in
theorem ggX7_areBarred_X5_canGrant : GoodIn wsX7_areBarred wsX5_canGrant := goodIn_r _ [6, 7, 8, 9, 10, 5, 11, 12, 13, 14, 15, 16, 17, 18, 19, 20, 21, 22, 23, 24, 25, 26, 27, 28, 29, 30, 31, 32, 33, 34, 35, 36, 37, 38, 39, 40, 41, 42, 43, 44, 45, 46, 47, 48, 49, 50, 51, 52, 53, 54, 55, 56, 57, 58, 59, 60, 61, 62, 63, 64, 65, 66, 67, 68, 69, 70, 71, 86, 87, 88, 89, 90, 91, 92, 93, 94, 95, 96, 97, 98, 99, 100, 101, 102, 103] (by decide +kernel) (by decide +kernel)
set_option maxRecDepth 20000 in
theorem gX7_areBarred_X5_canGrant : GoodIn wsX7_areBarred (wsV RX7 251 RX5 yX5_canGrant wsX5_canGrant) := goodIn_app (goodIn_of _ (by decide +kernel)) ggX7_areBarred_X5_canGrant
theorem dX7_areBarred_0 : decode cX7_areBarred 0 = .ok (.aload_n 0, 1) := by decide +kernel
theorem dX7_areBarred_1 : decode cX7_areBarred 1 = .ok (.getfield 38, 3) := by decide +kernel
theorem dX7_areBarred_4 : decode cX7_areBarred 4 = .ok (.iload_n 3, 1) := by decide +kernel
theorem dX7_areBarred_5 : decode cX7_areBarred 5 = .ok (.iconst 1, 1) := by decide +kernel
theorem dX7_areBarred_6 : decode cX7_areBarred 6 = .ok (.iload_n 1, 1) := by decide +kernel
theorem dX7_areBarred_7 : decode cX7_areBarred 7 = .ok (.ishl, 1) := by decide +kernel
theorem dX7_areBarred_8 : decode cX7_areBarred 8 = .ok (.invokevirtual 251, 3) := by decide +kernel
theorem dX7_areBarred_11 : decode cX7_areBarred 11 = .ok (.ifCond .eq 39, 3) := by decide +kernel
theorem dX7_areBarred_14 : decode cX7_areBarred 14 = .ok (.aload_n 0, 1) := by decide +kernel
theorem dX7_areBarred_15 : decode cX7_areBarred 15 = .ok (.getfield 38, 3) := by decide +kernel
theorem dX7_areBarred_18 : decode cX7_areBarred 18 = .ok (.iload_n 3, 1) := by decide +kernel
theorem dX7_areBarred_19 : decode cX7_areBarred 19 = .ok (.iconst 1, 1) := by decide +kernel
theorem dX7_areBarred_20 : decode cX7_areBarred 20 = .ok (.iload_n 2, 1) := by decide +kernel
theorem dX7_areBarred_21 : decode cX7_areBarred 21 = .ok (.ishl, 1) := by decide +kernel
theorem dX7_areBarred_22 : decode cX7_areBarred 22 = .ok (.invokevirtual 251, 3) := by decide +kernel
theorem dX7_areBarred_25 : decode cX7_areBarred 25 = .ok (.ifCond .eq 25, 3) := by decide +kernel
theorem dX7_areBarred_28 : decode cX7_areBarred 28 = .ok (.aload_n 0, 1) := by decide +kernel
theorem dX7_areBarred_29 : decode cX7_areBarred 29 = .ok (.getfield 38, 3) := by decide +kernel
theorem dX7_areBarred_32 : decode cX7_areBarred 32 = .ok (.iload_n 3, 1) := by decide +kernel
theorem dX7_areBarred_33 : decode cX7_areBarred 33 = .ok (.iconst 1, 1) := by decide +kernel
theorem dX7_areBarred_34 : decode cX7_areBarred 34 = .ok (.iload_n 1, 1) := by decide +kernel
theorem dX7_areBarred_35 : decode cX7_areBarred 35 = .ok (.ishl, 1) := by decide +kernel
theorem dX7_areBarred_36 : decode cX7_areBarred 36 = .ok (.iconst 1, 1) := by decide +kernel
theorem dX7_areBarred_37 : decode cX7_areBarred 37 = .ok (.iload_n 2, 1) := by decide +kernel
theorem dX7_areBarred_38 : decode cX7_areBarred 38 = .ok (.ishl, 1) := by decide +kernel
theorem dX7_areBarred_39 : decode cX7_areBarred 39 = .ok (.ior, 1) := by decide +kernel
theorem dX7_areBarred_40 : decode cX7_areBarred 40 = .ok (.invokevirtual 251, 3) := by decide +kernel
theorem dX7_areBarred_43 : decode cX7_areBarred 43 = .ok (.ifCond .ne 7, 3) := by decide +kernel
theorem dX7_areBarred_46 : decode cX7_areBarred 46 = .ok (.iconst 1, 1) := by decide +kernel
theorem dX7_areBarred_47 : decode cX7_areBarred 47 = .ok (.goto 4, 3) := by decide +kernel
theorem dX7_areBarred_50 : decode cX7_areBarred 50 = .ok (.iconst 0, 1) := by decide +kernel
theorem dX7_areBarred_51 : decode cX7_areBarred 51 = .ok (.ireturn, 1) := by decide +kernel
set_option maxRecDepth 20000 in
theorem ggX7_inLeastTerms_X7_commonDivisor : GoodIn wsX7_inLeastTerms wsX7_commonDivisor := goodIn_r _ [4] (by decide +kernel) (by decide +kernel)
set_option maxRecDepth 20000 in
theorem gX7_inLeastTerms_X7_commonDivisor : GoodIn wsX7_inLeastTerms (va_wsS RX7 254 yX7_commonDivisor wsX7_commonDivisor) := goodIn_app (goodIn_of _ (by decide +kernel)) ggX7_inLeastTerms_X7_commonDivisor
theorem dX7_inLeastTerms_0 : decode cX7_inLeastTerms 0 = .ok (.iload_n 0, 1) := by decide +kernel
theorem dX7_inLeastTerms_1 : decode cX7_inLeastTerms 1 = .ok (.iload_n 1, 1) := by decide +kernel
theorem dX7_inLeastTerms_2 : decode cX7_inLeastTerms 2 = .ok (.invokestatic 254, 3) := by decide +kernel
theorem dX7_inLeastTerms_5 : decode cX7_inLeastTerms 5 = .ok (.istore_n 3, 1) := by decide +kernel
theorem dX7_inLeastTerms_6 : decode cX7_inLeastTerms 6 = .ok (.iload_n 2, 1) := by decide +kernel
theorem dX7_inLeastTerms_7 : decode cX7_inLeastTerms 7 = .ok (.ifCond .eq 7, 3) := by decide +kernel
theorem dX7_inLeastTerms_10 : decode cX7_inLeastTerms 10 = .ok (.iload_n 0, 1) := by decide +kernel
theorem dX7_inLeastTerms_11 : decode cX7_inLeastTerms 11 = .ok (.goto 4, 3) := by decide +kernel
theorem dX7_inLeastTerms_14 : decode cX7_inLeastTerms 14 = .ok (.iload_n 1, 1) := by decide +kernel
theorem dX7_inLeastTerms_15 : decode cX7_inLeastTerms 15 = .ok (.istore 4, 2) := by decide +kernel
theorem dX7_inLeastTerms_17 : decode cX7_inLeastTerms 17 = .ok (.iload_n 3, 1) := by decide +kernel
theorem dX7_inLeastTerms_18 : decode cX7_inLeastTerms 18 = .ok (.ifCond .ne 8, 3) := by decide +kernel
theorem dX7_inLeastTerms_21 : decode cX7_inLeastTerms 21 = .ok (.iload 4, 2) := by decide +kernel
theorem dX7_inLeastTerms_23 : decode cX7_inLeastTerms 23 = .ok (.goto 7, 3) := by decide +kernel
theorem dX7_inLeastTerms_26 : decode cX7_inLeastTerms 26 = .ok (.iload 4, 2) := by decide +kernel
theorem dX7_inLeastTerms_28 : decode cX7_inLeastTerms 28 = .ok (.iload_n 3, 1) := by decide +kernel
theorem dX7_inLeastTerms_29 : decode cX7_inLeastTerms 29 = .ok (.idiv, 1) := by decide +kernel
theorem dX7_inLeastTerms_30 : decode cX7_inLeastTerms 30 = .ok (.ireturn, 1) := by decide +kernel
theorem dX7_commonDivisor_0 : decode cX7_commonDivisor 0 = .ok (.iload_n 0, 1) := by decide +kernel
theorem dX7_commonDivisor_1 : decode cX7_commonDivisor 1 = .ok (.istore_n 2, 1) := by decide +kernel
theorem dX7_commonDivisor_2 : decode cX7_commonDivisor 2 = .ok (.iload_n 1, 1) := by decide +kernel
theorem dX7_commonDivisor_3 : decode cX7_commonDivisor 3 = .ok (.istore_n 3, 1) := by decide +kernel
theorem dX7_commonDivisor_4 : decode cX7_commonDivisor 4 = .ok (.iconst 0, 1) := by decide +kernel
theorem dX7_commonDivisor_5 : decode cX7_commonDivisor 5 = .ok (.istore 4, 2) := by decide +kernel
theorem dX7_commonDivisor_7 : decode cX7_commonDivisor 7 = .ok (.iload 4, 2) := by decide +kernel
theorem dX7_commonDivisor_9 : decode cX7_commonDivisor 9 = .ok (.bipush 64, 2) := by decide +kernel
theorem dX7_commonDivisor_11 : decode cX7_commonDivisor 11 = .ok (.if_icmp .ge 23, 3) := by decide +kernel
theorem dX7_commonDivisor_14 : decode cX7_commonDivisor 14 = .ok (.iload_n 3, 1) := by decide +kernel
theorem dX7_commonDivisor_15 : decode cX7_commonDivisor 15 = .ok (.ifCond .eq 19, 3) := by decide +kernel
theorem dX7_commonDivisor_18 : decode cX7_commonDivisor 18 = .ok (.iload_n 2, 1) := by decide +kernel
theorem dX7_commonDivisor_19 : decode cX7_commonDivisor 19 = .ok (.iload_n 3, 1) := by decide +kernel
theorem dX7_commonDivisor_20 : decode cX7_commonDivisor 20 = .ok (.irem, 1) := by decide +kernel
theorem dX7_commonDivisor_21 : decode cX7_commonDivisor 21 = .ok (.istore 5, 2) := by decide +kernel
theorem dX7_commonDivisor_23 : decode cX7_commonDivisor 23 = .ok (.iload_n 3, 1) := by decide +kernel
theorem dX7_commonDivisor_24 : decode cX7_commonDivisor 24 = .ok (.istore_n 2, 1) := by decide +kernel
theorem dX7_commonDivisor_25 : decode cX7_commonDivisor 25 = .ok (.iload 5, 2) := by decide +kernel
theorem dX7_commonDivisor_27 : decode cX7_commonDivisor 27 = .ok (.istore_n 3, 1) := by decide +kernel
theorem dX7_commonDivisor_28 : decode cX7_commonDivisor 28 = .ok (.iinc 4 1, 3) := by decide +kernel
theorem dX7_commonDivisor_31 : decode cX7_commonDivisor 31 = .ok (.goto (-24), 3) := by decide +kernel
theorem dX7_commonDivisor_34 : decode cX7_commonDivisor 34 = .ok (.iload_n 2, 1) := by decide +kernel
theorem dX7_commonDivisor_35 : decode cX7_commonDivisor 35 = .ok (.ireturn, 1) := by decide +kernel
theorem dX7_factorial_0 : decode cX7_factorial 0 = .ok (.iconst 1, 1) := by decide +kernel
theorem dX7_factorial_1 : decode cX7_factorial 1 = .ok (.istore_n 1, 1) := by decide +kernel
theorem dX7_factorial_2 : decode cX7_factorial 2 = .ok (.iconst 2, 1) := by decide +kernel
theorem dX7_factorial_3 : decode cX7_factorial 3 = .ok (.istore_n 2, 1) := by decide +kernel
theorem dX7_factorial_4 : decode cX7_factorial 4 = .ok (.iload_n 2, 1) := by decide +kernel
theorem dX7_factorial_5 : decode cX7_factorial 5 = .ok (.iload_n 0, 1) := by decide +kernel
theorem dX7_factorial_6 : decode cX7_factorial 6 = .ok (.if_icmp .gt 13, 3) := by decide +kernel
theorem dX7_factorial_9 : decode cX7_factorial 9 = .ok (.iload_n 1, 1) := by decide +kernel
theorem dX7_factorial_10 : decode cX7_factorial 10 = .ok (.iload_n 2, 1) := by decide +kernel
theorem dX7_factorial_11 : decode cX7_factorial 11 = .ok (.imul, 1) := by decide +kernel
theorem dX7_factorial_12 : decode cX7_factorial 12 = .ok (.istore_n 1, 1) := by decide +kernel
theorem dX7_factorial_13 : decode cX7_factorial 13 = .ok (.iinc 2 1, 3) := by decide +kernel
theorem dX7_factorial_16 : decode cX7_factorial 16 = .ok (.goto (-12), 3) := by decide +kernel
theorem dX7_factorial_19 : decode cX7_factorial 19 = .ok (.iload_n 1, 1) := by decide +kernel
theorem dX7_factorial_20 : decode cX7_factorial 20 = .ok (.ireturn, 1) := by decide +kernel
theorem dX7_power_0 : decode cX7_power 0 = .ok (.iconst 1, 1) := by decide +kernel
theorem dX7_power_1 : decode cX7_power 1 = .ok (.istore_n 2, 1) := by decide +kernel
theorem dX7_power_2 : decode cX7_power 2 = .ok (.iconst 0, 1) := by decide +kernel
theorem dX7_power_3 : decode cX7_power 3 = .ok (.istore_n 3, 1) := by decide +kernel
theorem dX7_power_4 : decode cX7_power 4 = .ok (.iload_n 3, 1) := by decide +kernel
theorem dX7_power_5 : decode cX7_power 5 = .ok (.iload_n 1, 1) := by decide +kernel
theorem dX7_power_6 : decode cX7_power 6 = .ok (.if_icmp .ge 13, 3) := by decide +kernel
theorem dX7_power_9 : decode cX7_power 9 = .ok (.iload_n 2, 1) := by decide +kernel
theorem dX7_power_10 : decode cX7_power 10 = .ok (.iload_n 0, 1) := by decide +kernel
theorem dX7_power_11 : decode cX7_power 11 = .ok (.imul, 1) := by decide +kernel
theorem dX7_power_12 : decode cX7_power 12 = .ok (.istore_n 2, 1) := by decide +kernel
theorem dX7_power_13 : decode cX7_power 13 = .ok (.iinc 3 1, 3) := by decide +kernel
theorem dX7_power_16 : decode cX7_power 16 = .ok (.goto (-12), 3) := by decide +kernel
theorem dX7_power_19 : decode cX7_power 19 = .ok (.iload_n 2, 1) := by decide +kernel
theorem dX7_power_20 : decode cX7_power 20 = .ok (.ireturn, 1) := by decide +kernel
