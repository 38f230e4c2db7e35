set_option maxRecDepth 20000 in
theorem ggX7_with_X7_length : GoodIn wsX7_with wsX7_length := goodIn_r _ [4] (by decide +kernel) (by decide +kernel)
set_option maxRecDepth 20000 in
theorem gX7_with_X7_length : GoodIn wsX7_with (va_wsS RX7 9 yX7_length wsX7_length) := goodIn_app (goodIn_of _ (by decide +kernel)) ggX7_with_X7_length
theorem dX7_with_0 : decode cX7_with 0 = .ok (.iload_n 0, 1) := by decide +kernel
theorem dX7_with_1 : decode cX7_with 1 = .ok (.invokestatic 9, 3) := by decide +kernel
theorem dX7_with_4 : decode cX7_with 4 = .ok (.istore_n 2, 1) := by decide +kernel
theorem dX7_with_5 : decode cX7_with 5 = .ok (.iload_n 2, 1) := by decide +kernel
theorem dX7_with_6 : decode cX7_with 6 = .ok (.bipush 6, 2) := by decide +kernel
theorem dX7_with_8 : decode cX7_with 8 = .ok (.if_icmp .ge 17, 3) := by decide +kernel
theorem dX7_with_11 : decode cX7_with 11 = .ok (.iload_n 0, 1) := by decide +kernel
theorem dX7_with_12 : decode cX7_with 12 = .ok (.iconst 1, 1) := by decide +kernel
theorem dX7_with_13 : decode cX7_with 13 = .ok (.iadd, 1) := by decide +kernel
theorem dX7_with_14 : decode cX7_with 14 = .ok (.iload_n 1, 1) := by decide +kernel
theorem dX7_with_15 : decode cX7_with 15 = .ok (.iconst 3, 1) := by decide +kernel
theorem dX7_with_16 : decode cX7_with 16 = .ok (.iconst 4, 1) := by decide +kernel
theorem dX7_with_17 : decode cX7_with 17 = .ok (.iload_n 2, 1) := by decide +kernel
theorem dX7_with_18 : decode cX7_with 18 = .ok (.imul, 1) := by decide +kernel
theorem dX7_with_19 : decode cX7_with 19 = .ok (.iadd, 1) := by decide +kernel
theorem dX7_with_20 : decode cX7_with 20 = .ok (.ishl, 1) := by decide +kernel
theorem dX7_with_21 : decode cX7_with 21 = .ok (.ior, 1) := by decide +kernel
theorem dX7_with_22 : decode cX7_with 22 = .ok (.goto 4, 3) := by decide +kernel
theorem dX7_with_25 : decode cX7_with 25 = .ok (.iload_n 0, 1) := by decide +kernel
theorem dX7_with_26 : decode cX7_with 26 = .ok (.ireturn, 1) := by decide +kernel
set_option maxRecDepth 20000 in
theorem ggX8_init_X6_init : GoodIn wsX8_init wsX6_init := goodIn_r _ [30, 31, 2, 3, 32, 33, 95, 96] (by decide +kernel) (by decide +kernel)
set_option maxRecDepth 20000 in
theorem gX8_init_X6_init_n9 : GoodIn wsX8_init (wsX6_init) := ggX8_init_X6_init
set_option maxRecDepth 20000 in
theorem ggX8_init_X2_init : GoodIn wsX8_init wsX2_init := goodIn_r _ [36, 37, 2, 3, 38, 39, 40, 104, 105, 106, 107, 108, 109] (by decide +kernel) (by decide +kernel)
set_option maxRecDepth 20000 in
theorem gX8_init_X2_init : GoodIn wsX8_init (wsX2_init) := ggX8_init_X2_init
set_option maxRecDepth 20000 in
theorem ggX8_init_X5_init : GoodIn wsX8_init wsX5_init := goodIn_r _ [42, 43, 2, 3, 38, 44, 45, 110, 111, 112] (by decide +kernel) (by decide +kernel)
set_option maxRecDepth 20000 in
theorem gX8_init_X5_init_n27 : GoodIn wsX8_init (wsX5_init) := ggX8_init_X5_init
set_option maxRecDepth 20000 in
theorem ggX8_init_X1_init : GoodIn wsX8_init wsX1_init := goodIn_r _ [47, 48, 2, 3, 49, 50, 51, 52, 53, 113, 114, 115, 116, 117, 118, 119] (by decide +kernel) (by decide +kernel)
set_option maxRecDepth 20000 in
theorem gX8_init_X1_init_n34 : GoodIn wsX8_init (wsX1_init) := ggX8_init_X1_init
set_option maxRecDepth 20000 in
theorem ggX8_init_X3_init : GoodIn wsX8_init wsX3_init := goodIn_r _ [55, 56, 2, 3, 38, 57, 120] (by decide +kernel) (by decide +kernel)
set_option maxRecDepth 20000 in
theorem gX8_init_X3_init_n41 : GoodIn wsX8_init (wsX3_init) := ggX8_init_X3_init
set_option maxRecDepth 20000 in
theorem ggX8_init_X0_init : GoodIn wsX8_init wsX0_init := goodIn_r _ [60, 61, 2, 3, 38, 62, 63, 64, 65, 66, 67, 68, 69, 70, 71, 72, 73, 74, 75, 76, 77, 78, 79, 26, 80, 81, 82, 83, 84, 85, 86, 87, 88, 89, 90, 91, 92, 93, 94, 121, 122, 123, 124, 125, 126, 127, 128, 129, 130, 131, 132, 133, 134] (by decide +kernel) (by decide +kernel)
set_option maxRecDepth 20000 in
theorem gX8_init_X0_init : GoodIn wsX8_init (wsX0_init) := ggX8_init_X0_init
theorem dX8_init_0 : decode cX8_init 0 = .ok (.aload_n 0, 1) := by decide +kernel
theorem dX8_init_1 : decode cX8_init 1 = .ok (.invokespecial 1, 3) := by decide +kernel
theorem dX8_init_4 : decode cX8_init 4 = .ok (.aload_n 0, 1) := by decide +kernel
theorem dX8_init_5 : decode cX8_init 5 = .ok (.new 7, 3) := by decide +kernel
theorem dX8_init_8 : decode cX8_init 8 = .ok (.dup, 1) := by decide +kernel
theorem dX8_init_9 : decode cX8_init 9 = .ok (.invokespecial 9, 3) := by decide +kernel
theorem dX8_init_12 : decode cX8_init 12 = .ok (.putfield 10, 3) := by decide +kernel
theorem dX8_init_15 : decode cX8_init 15 = .ok (.aload_n 0, 1) := by decide +kernel
theorem dX8_init_16 : decode cX8_init 16 = .ok (.new 16, 3) := by decide +kernel
theorem dX8_init_19 : decode cX8_init 19 = .ok (.dup, 1) := by decide +kernel
theorem dX8_init_20 : decode cX8_init 20 = .ok (.aload_n 0, 1) := by decide +kernel
theorem dX8_init_21 : decode cX8_init 21 = .ok (.getfield 10, 3) := by decide +kernel
theorem dX8_init_24 : decode cX8_init 24 = .ok (.invokespecial 18, 3) := by decide +kernel
theorem dX8_init_27 : decode cX8_init 27 = .ok (.putfield 21, 3) := by decide +kernel
theorem dX8_init_30 : decode cX8_init 30 = .ok (.aload_n 0, 1) := by decide +kernel
theorem dX8_init_31 : decode cX8_init 31 = .ok (.new 25, 3) := by decide +kernel
theorem dX8_init_34 : decode cX8_init 34 = .ok (.dup, 1) := by decide +kernel
theorem dX8_init_35 : decode cX8_init 35 = .ok (.invokespecial 27, 3) := by decide +kernel
theorem dX8_init_38 : decode cX8_init 38 = .ok (.putfield 28, 3) := by decide +kernel
theorem dX8_init_41 : decode cX8_init 41 = .ok (.aload_n 0, 1) := by decide +kernel
theorem dX8_init_42 : decode cX8_init 42 = .ok (.new 32, 3) := by decide +kernel
theorem dX8_init_45 : decode cX8_init 45 = .ok (.dup, 1) := by decide +kernel
theorem dX8_init_46 : decode cX8_init 46 = .ok (.invokespecial 34, 3) := by decide +kernel
theorem dX8_init_49 : decode cX8_init 49 = .ok (.putfield 35, 3) := by decide +kernel
theorem dX8_init_52 : decode cX8_init 52 = .ok (.aload_n 0, 1) := by decide +kernel
theorem dX8_init_53 : decode cX8_init 53 = .ok (.new 39, 3) := by decide +kernel
theorem dX8_init_56 : decode cX8_init 56 = .ok (.dup, 1) := by decide +kernel
theorem dX8_init_57 : decode cX8_init 57 = .ok (.invokespecial 41, 3) := by decide +kernel
theorem dX8_init_60 : decode cX8_init 60 = .ok (.putfield 42, 3) := by decide +kernel
theorem dX8_init_63 : decode cX8_init 63 = .ok (.aload_n 0, 1) := by decide +kernel
theorem dX8_init_64 : decode cX8_init 64 = .ok (.new 46, 3) := by decide +kernel
theorem dX8_init_67 : decode cX8_init 67 = .ok (.dup, 1) := by decide +kernel
theorem dX8_init_68 : decode cX8_init 68 = .ok (.invokespecial 48, 3) := by decide +kernel
theorem dX8_init_71 : decode cX8_init 71 = .ok (.putfield 49, 3) := by decide +kernel
theorem dX8_init_74 : decode cX8_init 74 = .ok (.aload_n 0, 1) := by decide +kernel
theorem dX8_init_75 : decode cX8_init 75 = .ok (.new 46, 3) := by decide +kernel
theorem dX8_init_78 : decode cX8_init 78 = .ok (.dup, 1) := by decide +kernel
theorem dX8_init_79 : decode cX8_init 79 = .ok (.invokespecial 48, 3) := by decide +kernel
theorem dX8_init_82 : decode cX8_init 82 = .ok (.putfield 53, 3) := by decide +kernel
theorem dX8_init_85 : decode cX8_init 85 = .ok (.return_, 1) := by decide +kernel
set_option maxRecDepth 20000 in
theorem ggX8_write_X6_length : GoodIn wsX8_write wsX6_length := goodIn_r _ [6, 7, 20, 21] (by decide +kernel) (by decide +kernel)
set_option maxRecDepth 20000 in
theorem gX8_write_X6_length : GoodIn wsX8_write (wsV RX8 56 RX6 yX6_length wsX6_length) := goodIn_app (goodIn_of _ (by decide +kernel)) ggX8_write_X6_length
set_option maxRecDepth 20000 in
theorem ggX8_write_X6_append : GoodIn wsX8_write wsX6_append := goodIn_r _ [11, 7, 12, 20, 21] (by decide +kernel) (by decide +kernel)
set_option maxRecDepth 20000 in
theorem gX8_write_X6_append : GoodIn wsX8_write (wsV RX8 60 RX6 yX6_append wsX6_append) := goodIn_app (goodIn_of _ (by decide +kernel)) ggX8_write_X6_append
theorem dX8_write_0 : decode cX8_write 0 = .ok (.iload_n 1, 1) := by decide +kernel
theorem dX8_write_1 : decode cX8_write 1 = .ok (.iconst 1, 1) := by decide +kernel
theorem dX8_write_2 : decode cX8_write 2 = .ok (.if_icmp .lt 9, 3) := by decide +kernel
theorem dX8_write_5 : decode cX8_write 5 = .ok (.iload_n 1, 1) := by decide +kernel
theorem dX8_write_6 : decode cX8_write 6 = .ok (.bipush 8, 2) := by decide +kernel
theorem dX8_write_8 : decode cX8_write 8 = .ok (.if_icmp .le 5, 3) := by decide +kernel
theorem dX8_write_11 : decode cX8_write 11 = .ok (.iconst (-1), 1) := by decide +kernel
theorem dX8_write_12 : decode cX8_write 12 = .ok (.ireturn, 1) := by decide +kernel
theorem dX8_write_13 : decode cX8_write 13 = .ok (.aload_n 0, 1) := by decide +kernel
theorem dX8_write_14 : decode cX8_write 14 = .ok (.getfield 10, 3) := by decide +kernel
theorem dX8_write_17 : decode cX8_write 17 = .ok (.invokevirtual 56, 3) := by decide +kernel
theorem dX8_write_20 : decode cX8_write 20 = .ok (.iload_n 1, 1) := by decide +kernel
theorem dX8_write_21 : decode cX8_write 21 = .ok (.iadd, 1) := by decide +kernel
theorem dX8_write_22 : decode cX8_write 22 = .ok (.sipush 500, 3) := by decide +kernel
theorem dX8_write_25 : decode cX8_write 25 = .ok (.if_icmp .le 6, 3) := by decide +kernel
theorem dX8_write_28 : decode cX8_write 28 = .ok (.bipush (-3), 2) := by decide +kernel
theorem dX8_write_30 : decode cX8_write 30 = .ok (.ireturn, 1) := by decide +kernel
theorem dX8_write_31 : decode cX8_write 31 = .ok (.iload_n 1, 1) := by decide +kernel
theorem dX8_write_32 : decode cX8_write 32 = .ok (.iconst 1, 1) := by decide +kernel
theorem dX8_write_33 : decode cX8_write 33 = .ok (.isub, 1) := by decide +kernel
theorem dX8_write_34 : decode cX8_write 34 = .ok (.istore 4, 2) := by decide +kernel
theorem dX8_write_36 : decode cX8_write 36 = .ok (.iload 4, 2) := by decide +kernel
theorem dX8_write_38 : decode cX8_write 38 = .ok (.ifCond .lt 28, 3) := by decide +kernel
theorem dX8_write_41 : decode cX8_write 41 = .ok (.aload_n 0, 1) := by decide +kernel
theorem dX8_write_42 : decode cX8_write 42 = .ok (.getfield 10, 3) := by decide +kernel
theorem dX8_write_45 : decode cX8_write 45 = .ok (.lload_n 2, 1) := by decide +kernel
theorem dX8_write_46 : decode cX8_write 46 = .ok (.bipush 8, 2) := by decide +kernel
theorem dX8_write_48 : decode cX8_write 48 = .ok (.iload 4, 2) := by decide +kernel
theorem dX8_write_50 : decode cX8_write 50 = .ok (.imul, 1) := by decide +kernel
theorem dX8_write_51 : decode cX8_write 51 = .ok (.lushr, 1) := by decide +kernel
theorem dX8_write_52 : decode cX8_write 52 = .ok (.l2i, 1) := by decide +kernel
theorem dX8_write_53 : decode cX8_write 53 = .ok (.sipush 255, 3) := by decide +kernel
theorem dX8_write_56 : decode cX8_write 56 = .ok (.iand, 1) := by decide +kernel
theorem dX8_write_57 : decode cX8_write 57 = .ok (.invokevirtual 60, 3) := by decide +kernel
theorem dX8_write_60 : decode cX8_write 60 = .ok (.iinc 4 (-1), 3) := by decide +kernel
theorem dX8_write_63 : decode cX8_write 63 = .ok (.goto (-27), 3) := by decide +kernel
theorem dX8_write_66 : decode cX8_write 66 = .ok (.aload_n 0, 1) := by decide +kernel
theorem dX8_write_67 : decode cX8_write 67 = .ok (.getfield 10, 3) := by decide +kernel
theorem dX8_write_70 : decode cX8_write 70 = .ok (.invokevirtual 56, 3) := by decide +kernel
theorem dX8_write_73 : decode cX8_write 73 = .ok (.ireturn, 1) := by decide +kernel
set_option maxRecDepth 20000 in
theorem ggX8_wipe_X6_length : GoodIn wsX8_wipe wsX6_length := goodIn_r _ [6, 7, 19, 20] (by decide +kernel) (by decide +kernel)
set_option maxRecDepth 20000 in
theorem gX8_wipe_X6_length : GoodIn wsX8_wipe (wsV RX8 56 RX6 yX6_length wsX6_length) := goodIn_app (goodIn_of _ (by decide +kernel)) ggX8_wipe_X6_length
set_option maxRecDepth 20000 in
theorem ggX8_wipe_X6_clear : GoodIn wsX8_wipe wsX6_clear := goodIn_r _ [11, 7, 19, 20] (by decide +kernel) (by decide +kernel)
set_option maxRecDepth 20000 in
theorem gX8_wipe_X6_clear : GoodIn wsX8_wipe (wsV RX8 64 RX6 yX6_clear wsX6_clear) := goodIn_app (goodIn_of _ (by decide +kernel)) ggX8_wipe_X6_clear
theorem dX8_wipe_0 : decode cX8_wipe 0 = .ok (.aload_n 0, 1) := by decide +kernel
theorem dX8_wipe_1 : decode cX8_wipe 1 = .ok (.getfield 10, 3) := by decide +kernel
theorem dX8_wipe_4 : decode cX8_wipe 4 = .ok (.invokevirtual 56, 3) := by decide +kernel
theorem dX8_wipe_7 : decode cX8_wipe 7 = .ok (.istore_n 1, 1) := by decide +kernel
theorem dX8_wipe_8 : decode cX8_wipe 8 = .ok (.aload_n 0, 1) := by decide +kernel
theorem dX8_wipe_9 : decode cX8_wipe 9 = .ok (.getfield 10, 3) := by decide +kernel
theorem dX8_wipe_12 : decode cX8_wipe 12 = .ok (.invokevirtual 64, 3) := by decide +kernel
theorem dX8_wipe_15 : decode cX8_wipe 15 = .ok (.iload_n 1, 1) := by decide +kernel
theorem dX8_wipe_16 : decode cX8_wipe 16 = .ok (.ireturn, 1) := by decide +kernel
set_option maxRecDepth 20000 in
theorem ggX8_fault_X8_tryText : GoodIn wsX8_fault wsX8_tryText := goodIn_r _ [5, 6, 7, 8, 9, 10, 11, 12, 13, 14, 15, 16, 17, 18, 19, 20, 21, 22, 23, 24, 25, 26, 27, 28, 29, 30, 31, 32, 33, 34, 35, 36, 37, 38, 39, 40, 41, 42, 43, 44, 45, 46, 47, 48, 49, 50, 51, 52, 53, 54, 55, 56, 57, 58, 59, 60, 61, 62, 63, 64, 65, 66, 67, 68, 69, 70, 71, 72, 73, 74, 75, 76, 77, 78, 79, 80, 81, 82, 83, 84, 85, 86, 87, 88, 89, 90, 91, 92, 93, 94, 95, 96, 97, 98, 99, 100, 101, 102, 103, 104, 105, 106, 107, 108, 109, 110, 111, 112, 113, 114, 115, 116, 117, 118, 119, 120, 121, 122, 123, 124, 125, 126, 127, 128, 129, 130, 131, 132, 133, 134, 135, 136, 137, 138, 139, 140, 141, 142, 143, 144, 145, 146, 147, 148, 149, 150, 151, 152, 153, 154, 155, 156, 157, 158, 159, 160, 161, 162, 163, 164, 165, 166, 167, 168, 169, 170, 171, 172] (by decide +kernel) (by decide +kernel)
set_option maxRecDepth 20000 in
theorem gX8_fault_X8_tryText : GoodIn wsX8_fault (wsV RX8 67 RX8 yX8_tryText wsX8_tryText) := goodIn_app (goodIn_of _ (by decide +kernel)) ggX8_fault_X8_tryText
theorem dX8_fault_0 : decode cX8_fault 0 = .ok (.aload_n 0, 1) := by decide +kernel
theorem dX8_fault_1 : decode cX8_fault 1 = .ok (.invokevirtual 67, 3) := by decide +kernel
theorem dX8_fault_4 : decode cX8_fault 4 = .ok (.ireturn, 1) := by decide +kernel
set_option maxRecDepth 20000 in
theorem ggX8_lay_X8_tryText : GoodIn wsX8_lay wsX8_tryText := goodIn_r _ [8, 2, 9, 10, 11, 12, 13, 14, 15, 16, 17, 18, 19, 20, 21, 22, 23, 24, 25, 26, 27, 28, 29, 30, 31, 32, 33, 34, 35, 36, 37, 38, 39, 40, 41, 42, 43, 44, 45, 46, 47, 48, 49, 50, 51, 52, 53, 54, 55, 56, 57, 58, 59, 60, 61, 62, 63, 64, 65, 66, 67, 68, 69, 70, 71, 72, 73, 74, 75, 76, 77, 78, 79, 80, 81, 82, 83, 84, 85, 86, 87, 88, 89, 90, 91, 92, 93, 94, 95, 96, 97, 98, 99, 100, 101, 102, 103, 104, 105, 106, 107, 108, 109, 110, 111, 112, 113, 114, 115, 116, 117, 118, 119, 120, 121, 122, 123, 124, 125, 126, 127, 128, 129, 130, 131, 132, 133, 134, 135, 136, 137, 138, 139, 140, 141, 142, 143, 144, 145, 166, 167, 168, 169, 170, 171, 172, 173, 174, 175, 176, 177, 178, 179, 180, 181, 182, 183, 184, 185, 186, 187, 188, 189, 190, 191, 192, 193, 194] (by decide +kernel) (by decide +kernel)
set_option maxRecDepth 20000 in
theorem gX8_lay_X8_tryText : GoodIn wsX8_lay (wsV RX8 67 RX8 yX8_tryText wsX8_tryText) := goodIn_app (goodIn_of _ (by decide +kernel)) ggX8_lay_X8_tryText
set_option maxRecDepth 20000 in
theorem ggX8_lay_X5_clear : GoodIn wsX8_lay wsX5_clear := goodIn_r _ [150, 151, 152, 153, 27, 28, 29, 195, 196, 197] (by decide +kernel) (by decide +kernel)
set_option maxRecDepth 20000 in
theorem gX8_lay_X5_clear : GoodIn wsX8_lay (wsV RX8 70 RX5 yX5_clear wsX5_clear) := goodIn_app (goodIn_of _ (by decide +kernel)) ggX8_lay_X5_clear
set_option maxRecDepth 20000 in
theorem ggX8_lay_X8_toldMeanings : GoodIn wsX8_lay wsX8_toldMeanings := goodIn_r _ [157, 1, 158, 159, 160, 14, 161, 162, 163, 164, 165, 16, 114, 115, 116, 166, 167, 168, 169, 170, 171, 172, 173, 174, 175, 176, 177, 178, 179, 180, 181] (by decide +kernel) (by decide +kernel)
set_option maxRecDepth 20000 in
theorem gX8_lay_X8_toldMeanings : GoodIn wsX8_lay (wsV RX8 71 RX8 yX8_toldMeanings wsX8_toldMeanings) := goodIn_app (goodIn_of _ (by decide +kernel)) ggX8_lay_X8_toldMeanings
theorem dX8_lay_0 : decode cX8_lay 0 = .ok (.aload_n 0, 1) := by decide +kernel
theorem dX8_lay_1 : decode cX8_lay 1 = .ok (.invokevirtual 67, 3) := by decide +kernel
theorem dX8_lay_4 : decode cX8_lay 4 = .ok (.bipush (-4), 2) := by decide +kernel
theorem dX8_lay_6 : decode cX8_lay 6 = .ok (.if_icmp .eq 6, 3) := by decide +kernel
theorem dX8_lay_9 : decode cX8_lay 9 = .ok (.bipush (-2), 2) := by decide +kernel
theorem dX8_lay_11 : decode cX8_lay 11 = .ok (.ireturn, 1) := by decide +kernel
theorem dX8_lay_12 : decode cX8_lay 12 = .ok (.aload_n 0, 1) := by decide +kernel
theorem dX8_lay_13 : decode cX8_lay 13 = .ok (.getfield 49, 3) := by decide +kernel
theorem dX8_lay_16 : decode cX8_lay 16 = .ok (.astore_n 1, 1) := by decide +kernel
theorem dX8_lay_17 : decode cX8_lay 17 = .ok (.aload_n 0, 1) := by decide +kernel
theorem dX8_lay_18 : decode cX8_lay 18 = .ok (.aload_n 0, 1) := by decide +kernel
theorem dX8_lay_19 : decode cX8_lay 19 = .ok (.getfield 53, 3) := by decide +kernel
theorem dX8_lay_22 : decode cX8_lay 22 = .ok (.putfield 49, 3) := by decide +kernel
theorem dX8_lay_25 : decode cX8_lay 25 = .ok (.aload_n 0, 1) := by decide +kernel
theorem dX8_lay_26 : decode cX8_lay 26 = .ok (.aload_n 1, 1) := by decide +kernel
theorem dX8_lay_27 : decode cX8_lay 27 = .ok (.putfield 53, 3) := by decide +kernel
theorem dX8_lay_30 : decode cX8_lay 30 = .ok (.aload_n 0, 1) := by decide +kernel
theorem dX8_lay_31 : decode cX8_lay 31 = .ok (.getfield 28, 3) := by decide +kernel
theorem dX8_lay_34 : decode cX8_lay 34 = .ok (.invokevirtual 70, 3) := by decide +kernel
theorem dX8_lay_37 : decode cX8_lay 37 = .ok (.aload_n 0, 1) := by decide +kernel
theorem dX8_lay_38 : decode cX8_lay 38 = .ok (.invokevirtual 71, 3) := by decide +kernel
theorem dX8_lay_41 : decode cX8_lay 41 = .ok (.ireturn, 1) := by decide +kernel
set_option maxRecDepth 20000 in
theorem ggX8_word_X8_isPeople : GoodIn wsX8_word wsX8_isPeople := goodIn_r _ [5] (by decide +kernel) (by decide +kernel)
set_option maxRecDepth 20000 in
theorem gX8_word_X8_isPeople : GoodIn wsX8_word (va_wsS RX8 74 yX8_isPeople wsX8_isPeople) := goodIn_app (goodIn_of _ (by decide +kernel)) ggX8_word_X8_isPeople
set_option maxRecDepth 20000 in
theorem ggX8_word_X8_isMeaning : GoodIn wsX8_word wsX8_isMeaning := goodIn_r _ [8] (by decide +kernel) (by decide +kernel)
set_option maxRecDepth 20000 in
theorem gX8_word_X8_isMeaning : GoodIn wsX8_word (va_wsS RX8 78 yX8_isMeaning wsX8_isMeaning) := goodIn_app (goodIn_of _ (by decide +kernel)) ggX8_word_X8_isMeaning
set_option maxRecDepth 20000 in
theorem ggX8_word_X0_wordOf : GoodIn wsX8_word wsX0_wordOf := goodIn_r _ [13, 14, 15, 16, 12, 17, 48, 49, 50, 51, 52, 53, 54, 55, 56] (by decide +kernel) (by decide +kernel)
set_option maxRecDepth 20000 in
theorem gX8_word_X0_wordOf : GoodIn wsX8_word (wsV RX8 81 RX0 yX0_wordOf wsX0_wordOf) := goodIn_app (goodIn_of _ (by decide +kernel)) ggX8_word_X0_wordOf
set_option maxRecDepth 20000 in
theorem ggX8_word_X0_saidBy : GoodIn wsX8_word wsX0_saidBy := goodIn_r _ [21, 22, 23, 24, 25, 26, 27, 28, 29, 30, 31, 12, 32, 33, 34, 35, 36, 37, 38, 48, 49, 50, 51, 52, 53, 54, 55, 56] (by decide +kernel) (by decide +kernel)
set_option maxRecDepth 20000 in
theorem gX8_word_X0_saidBy : GoodIn wsX8_word (wsV RX8 85 RX0 yX0_saidBy wsX0_saidBy) := goodIn_app (goodIn_of _ (by decide +kernel)) ggX8_word_X0_saidBy
set_option maxRecDepth 20000 in
theorem ggX8_word_X7_length : GoodIn wsX8_word wsX7_length := goodIn_r _ [25] (by decide +kernel) (by decide +kernel)
set_option maxRecDepth 20000 in
theorem gX8_word_X7_length : GoodIn wsX8_word (va_wsS RX8 88 yX7_length wsX7_length) := goodIn_app (goodIn_of _ (by decide +kernel)) ggX8_word_X7_length
set_option maxRecDepth 20000 in
theorem ggX8_word_X7_soundAt : GoodIn wsX8_word wsX7_soundAt := goodIn_r _ [28] (by decide +kernel) (by decide +kernel)
set_option maxRecDepth 20000 in
theorem gX8_word_X7_soundAt : GoodIn wsX8_word (va_wsS RX8 93 yX7_soundAt wsX7_soundAt) := goodIn_app (goodIn_of _ (by decide +kernel)) ggX8_word_X7_soundAt
theorem dX8_word_0 : decode cX8_word 0 = .ok (.iload_n 1, 1) := by decide +kernel
theorem dX8_word_1 : decode cX8_word 1 = .ok (.invokestatic 74, 3) := by decide +kernel
theorem dX8_word_4 : decode cX8_word 4 = .ok (.ifCond .eq 30, 3) := by decide +kernel
theorem dX8_word_7 : decode cX8_word 7 = .ok (.iload_n 2, 1) := by decide +kernel
theorem dX8_word_8 : decode cX8_word 8 = .ok (.invokestatic 78, 3) := by decide +kernel
theorem dX8_word_11 : decode cX8_word 11 = .ok (.ifCond .eq 23, 3) := by decide +kernel
theorem dX8_word_14 : decode cX8_word 14 = .ok (.iload_n 3, 1) := by decide +kernel
theorem dX8_word_15 : decode cX8_word 15 = .ok (.invokestatic 74, 3) := by decide +kernel
theorem dX8_word_18 : decode cX8_word 18 = .ok (.ifCond .eq 16, 3) := by decide +kernel
theorem dX8_word_21 : decode cX8_word 21 = .ok (.iload 4, 2) := by decide +kernel
theorem dX8_word_23 : decode cX8_word 23 = .ok (.iconst (-1), 1) := by decide +kernel
theorem dX8_word_24 : decode cX8_word 24 = .ok (.if_icmp .lt 10, 3) := by decide +kernel
theorem dX8_word_27 : decode cX8_word 27 = .ok (.iload 4, 2) := by decide +kernel
theorem dX8_word_29 : decode cX8_word 29 = .ok (.bipush 6, 2) := by decide +kernel
theorem dX8_word_31 : decode cX8_word 31 = .ok (.if_icmp .lt 5, 3) := by decide +kernel
theorem dX8_word_34 : decode cX8_word 34 = .ok (.iconst (-1), 1) := by decide +kernel
theorem dX8_word_35 : decode cX8_word 35 = .ok (.ireturn, 1) := by decide +kernel
theorem dX8_word_36 : decode cX8_word 36 = .ok (.aload_n 0, 1) := by decide +kernel
theorem dX8_word_37 : decode cX8_word 37 = .ok (.getfield 49, 3) := by decide +kernel
theorem dX8_word_40 : decode cX8_word 40 = .ok (.iload_n 1, 1) := by decide +kernel
theorem dX8_word_41 : decode cX8_word 41 = .ok (.iload_n 2, 1) := by decide +kernel
theorem dX8_word_42 : decode cX8_word 42 = .ok (.invokevirtual 81, 3) := by decide +kernel
theorem dX8_word_45 : decode cX8_word 45 = .ok (.istore 5, 2) := by decide +kernel
theorem dX8_word_47 : decode cX8_word 47 = .ok (.iload_n 3, 1) := by decide +kernel
theorem dX8_word_48 : decode cX8_word 48 = .ok (.iload_n 1, 1) := by decide +kernel
theorem dX8_word_49 : decode cX8_word 49 = .ok (.if_icmp .eq 15, 3) := by decide +kernel
theorem dX8_word_52 : decode cX8_word 52 = .ok (.aload_n 0, 1) := by decide +kernel
theorem dX8_word_53 : decode cX8_word 53 = .ok (.getfield 49, 3) := by decide +kernel
theorem dX8_word_56 : decode cX8_word 56 = .ok (.iload_n 3, 1) := by decide +kernel
theorem dX8_word_57 : decode cX8_word 57 = .ok (.iload 5, 2) := by decide +kernel
theorem dX8_word_59 : decode cX8_word 59 = .ok (.invokevirtual 85, 3) := by decide +kernel
theorem dX8_word_62 : decode cX8_word 62 = .ok (.istore 5, 2) := by decide +kernel
theorem dX8_word_64 : decode cX8_word 64 = .ok (.iload 4, 2) := by decide +kernel
theorem dX8_word_66 : decode cX8_word 66 = .ok (.ifCond .ge 9, 3) := by decide +kernel
theorem dX8_word_69 : decode cX8_word 69 = .ok (.iload 5, 2) := by decide +kernel
theorem dX8_word_71 : decode cX8_word 71 = .ok (.invokestatic 88, 3) := by decide +kernel
theorem dX8_word_74 : decode cX8_word 74 = .ok (.ireturn, 1) := by decide +kernel
theorem dX8_word_75 : decode cX8_word 75 = .ok (.iload 4, 2) := by decide +kernel
theorem dX8_word_77 : decode cX8_word 77 = .ok (.iload 5, 2) := by decide +kernel
theorem dX8_word_79 : decode cX8_word 79 = .ok (.invokestatic 88, 3) := by decide +kernel
theorem dX8_word_82 : decode cX8_word 82 = .ok (.if_icmp .ge 13, 3) := by decide +kernel
theorem dX8_word_85 : decode cX8_word 85 = .ok (.iload 5, 2) := by decide +kernel
theorem dX8_word_87 : decode cX8_word 87 = .ok (.iload 4, 2) := by decide +kernel
theorem dX8_word_89 : decode cX8_word 89 = .ok (.invokestatic 93, 3) := by decide +kernel
theorem dX8_word_92 : decode cX8_word 92 = .ok (.goto 5, 3) := by decide +kernel
theorem dX8_word_95 : decode cX8_word 95 = .ok (.bipush (-4), 2) := by decide +kernel
theorem dX8_word_97 : decode cX8_word 97 = .ok (.ireturn, 1) := by decide +kernel
set_option maxRecDepth 20000 in
theorem ggX8_far_X8_isPeople : GoodIn wsX8_far wsX8_isPeople := goodIn_r _ [6] (by decide +kernel) (by decide +kernel)
set_option maxRecDepth 20000 in
theorem gX8_far_X8_isPeople : GoodIn wsX8_far (va_wsS RX8 74 yX8_isPeople wsX8_isPeople) := goodIn_app (goodIn_of _ (by decide +kernel)) ggX8_far_X8_isPeople
set_option maxRecDepth 20000 in
theorem ggX8_far_X8_isMeaning : GoodIn wsX8_far wsX8_isMeaning := goodIn_r _ [9] (by decide +kernel) (by decide +kernel)
set_option maxRecDepth 20000 in
theorem gX8_far_X8_isMeaning : GoodIn wsX8_far (va_wsS RX8 78 yX8_isMeaning wsX8_isMeaning) := goodIn_app (goodIn_of _ (by decide +kernel)) ggX8_far_X8_isMeaning
set_option maxRecDepth 20000 in
theorem ggX8_far_X0_wordOf : GoodIn wsX8_far wsX0_wordOf := goodIn_r _ [14, 15, 16, 17, 13, 18, 43, 44, 45, 46, 47, 48, 49, 50, 51] (by decide +kernel) (by decide +kernel)
set_option maxRecDepth 20000 in
theorem gX8_far_X0_wordOf : GoodIn wsX8_far (wsV RX8 81 RX0 yX0_wordOf wsX0_wordOf) := goodIn_app (goodIn_of _ (by decide +kernel)) ggX8_far_X0_wordOf
set_option maxRecDepth 20000 in
theorem ggX8_far_X3_apart : GoodIn wsX8_far wsX3_apart := goodIn_r _ [23, 24, 25, 26, 27, 28, 29, 30, 31, 32, 33, 34, 35, 52] (by decide +kernel) (by decide +kernel)
set_option maxRecDepth 20000 in
theorem gX8_far_X3_apart : GoodIn wsX8_far (wsV RX8 96 RX3 yX3_apart wsX3_apart) := goodIn_app (goodIn_of _ (by decide +kernel)) ggX8_far_X3_apart
theorem dX8_far_0 : decode cX8_far 0 = .ok (.iload_n 1, 1) := by decide +kernel
theorem dX8_far_1 : decode cX8_far 1 = .ok (.invokestatic 74, 3) := by decide +kernel
theorem dX8_far_4 : decode cX8_far 4 = .ok (.ifCond .eq 25, 3) := by decide +kernel
theorem dX8_far_7 : decode cX8_far 7 = .ok (.iload_n 2, 1) := by decide +kernel
theorem dX8_far_8 : decode cX8_far 8 = .ok (.invokestatic 78, 3) := by decide +kernel
theorem dX8_far_11 : decode cX8_far 11 = .ok (.ifCond .eq 18, 3) := by decide +kernel
theorem dX8_far_14 : decode cX8_far 14 = .ok (.iload_n 3, 1) := by decide +kernel
theorem dX8_far_15 : decode cX8_far 15 = .ok (.invokestatic 74, 3) := by decide +kernel
theorem dX8_far_18 : decode cX8_far 18 = .ok (.ifCond .eq 11, 3) := by decide +kernel
theorem dX8_far_21 : decode cX8_far 21 = .ok (.iload 4, 2) := by decide +kernel
theorem dX8_far_23 : decode cX8_far 23 = .ok (.invokestatic 78, 3) := by decide +kernel
theorem dX8_far_26 : decode cX8_far 26 = .ok (.ifCond .ne 5, 3) := by decide +kernel
theorem dX8_far_29 : decode cX8_far 29 = .ok (.iconst (-1), 1) := by decide +kernel
theorem dX8_far_30 : decode cX8_far 30 = .ok (.ireturn, 1) := by decide +kernel
theorem dX8_far_31 : decode cX8_far 31 = .ok (.aload_n 0, 1) := by decide +kernel
theorem dX8_far_32 : decode cX8_far 32 = .ok (.getfield 49, 3) := by decide +kernel
theorem dX8_far_35 : decode cX8_far 35 = .ok (.iload_n 1, 1) := by decide +kernel
theorem dX8_far_36 : decode cX8_far 36 = .ok (.iload_n 2, 1) := by decide +kernel
theorem dX8_far_37 : decode cX8_far 37 = .ok (.invokevirtual 81, 3) := by decide +kernel
theorem dX8_far_40 : decode cX8_far 40 = .ok (.istore 5, 2) := by decide +kernel
theorem dX8_far_42 : decode cX8_far 42 = .ok (.aload_n 0, 1) := by decide +kernel
theorem dX8_far_43 : decode cX8_far 43 = .ok (.getfield 49, 3) := by decide +kernel
theorem dX8_far_46 : decode cX8_far 46 = .ok (.iload_n 3, 1) := by decide +kernel
theorem dX8_far_47 : decode cX8_far 47 = .ok (.iload 4, 2) := by decide +kernel
theorem dX8_far_49 : decode cX8_far 49 = .ok (.invokevirtual 81, 3) := by decide +kernel
theorem dX8_far_52 : decode cX8_far 52 = .ok (.istore 6, 2) := by decide +kernel
theorem dX8_far_54 : decode cX8_far 54 = .ok (.iload 5, 2) := by decide +kernel
theorem dX8_far_56 : decode cX8_far 56 = .ok (.ifCond .eq 8, 3) := by decide +kernel
theorem dX8_far_59 : decode cX8_far 59 = .ok (.iload 6, 2) := by decide +kernel
theorem dX8_far_61 : decode cX8_far 61 = .ok (.ifCond .ne 6, 3) := by decide +kernel
theorem dX8_far_64 : decode cX8_far 64 = .ok (.bipush (-2), 2) := by decide +kernel
theorem dX8_far_66 : decode cX8_far 66 = .ok (.ireturn, 1) := by decide +kernel
theorem dX8_far_67 : decode cX8_far 67 = .ok (.aload_n 0, 1) := by decide +kernel
theorem dX8_far_68 : decode cX8_far 68 = .ok (.getfield 42, 3) := by decide +kernel
theorem dX8_far_71 : decode cX8_far 71 = .ok (.iload 5, 2) := by decide +kernel
theorem dX8_far_73 : decode cX8_far 73 = .ok (.iload 6, 2) := by decide +kernel
theorem dX8_far_75 : decode cX8_far 75 = .ok (.invokevirtual 96, 3) := by decide +kernel
theorem dX8_far_78 : decode cX8_far 78 = .ok (.ireturn, 1) := by decide +kernel
set_option maxRecDepth 20000 in
theorem ggX8_like_X8_isMeaning : GoodIn wsX8_like wsX8_isMeaning := goodIn_r _ [5] (by decide +kernel) (by decide +kernel)
set_option maxRecDepth 20000 in
theorem gX8_like_X8_isMeaning : GoodIn wsX8_like (va_wsS RX8 78 yX8_isMeaning wsX8_isMeaning) := goodIn_app (goodIn_of _ (by decide +kernel)) ggX8_like_X8_isMeaning
set_option maxRecDepth 20000 in
theorem ggX8_like_X0_isTold : GoodIn wsX8_like wsX0_isTold := goodIn_r _ [10, 11, 12, 13, 9, 14, 15, 16, 17, 18, 72, 73, 74, 75, 76, 77, 78, 79, 80] (by decide +kernel) (by decide +kernel)
set_option maxRecDepth 20000 in
theorem gX8_like_X0_isTold : GoodIn wsX8_like (wsV RX8 99 RX0 yX0_isTold wsX0_isTold) := goodIn_app (goodIn_of _ (by decide +kernel)) ggX8_like_X0_isTold
set_option maxRecDepth 20000 in
theorem ggX8_like_X8_likeOfMeaning : GoodIn wsX8_like wsX8_likeOfMeaning := goodIn_r _ [22, 23, 1, 24, 12, 13, 9, 14, 15, 16, 17, 18, 25, 26, 27, 28, 29, 30, 31, 32, 33, 34, 35, 36, 37, 38, 39, 40, 41, 42, 43, 44, 45, 46, 47, 48, 49, 50, 51, 52, 53, 54, 55, 56, 57, 58, 59, 60, 61, 62, 63, 64, 65, 66, 67, 68, 69, 70, 71, 72, 73, 74, 75, 76, 77, 78, 79, 80, 81] (by decide +kernel) (by decide +kernel)
set_option maxRecDepth 20000 in
theorem gX8_like_X8_likeOfMeaning : GoodIn wsX8_like (wsV RX8 102 RX8 yX8_likeOfMeaning wsX8_likeOfMeaning) := goodIn_app (goodIn_of _ (by decide +kernel)) ggX8_like_X8_likeOfMeaning
theorem dX8_like_0 : decode cX8_like 0 = .ok (.iload_n 1, 1) := by decide +kernel
theorem dX8_like_1 : decode cX8_like 1 = .ok (.invokestatic 78, 3) := by decide +kernel
theorem dX8_like_4 : decode cX8_like 4 = .ok (.ifCond .ne 5, 3) := by decide +kernel
theorem dX8_like_7 : decode cX8_like 7 = .ok (.iconst (-1), 1) := by decide +kernel
theorem dX8_like_8 : decode cX8_like 8 = .ok (.ireturn, 1) := by decide +kernel
theorem dX8_like_9 : decode cX8_like 9 = .ok (.aload_n 0, 1) := by decide +kernel
theorem dX8_like_10 : decode cX8_like 10 = .ok (.getfield 49, 3) := by decide +kernel
theorem dX8_like_13 : decode cX8_like 13 = .ok (.iload_n 1, 1) := by decide +kernel
theorem dX8_like_14 : decode cX8_like 14 = .ok (.invokevirtual 99, 3) := by decide +kernel
theorem dX8_like_17 : decode cX8_like 17 = .ok (.ifCond .eq 11, 3) := by decide +kernel
theorem dX8_like_20 : decode cX8_like 20 = .ok (.aload_n 0, 1) := by decide +kernel
theorem dX8_like_21 : decode cX8_like 21 = .ok (.iload_n 1, 1) := by decide +kernel
theorem dX8_like_22 : decode cX8_like 22 = .ok (.invokevirtual 102, 3) := by decide +kernel
theorem dX8_like_25 : decode cX8_like 25 = .ok (.goto 5, 3) := by decide +kernel
theorem dX8_like_28 : decode cX8_like 28 = .ok (.bipush (-2), 2) := by decide +kernel
theorem dX8_like_30 : decode cX8_like 30 = .ok (.ireturn, 1) := by decide +kernel
set_option maxRecDepth 20000 in
theorem ggX8_stand_X8_isMeaning : GoodIn wsX8_stand wsX8_isMeaning := goodIn_r _ [6] (by decide +kernel) (by decide +kernel)
set_option maxRecDepth 20000 in
theorem gX8_stand_X8_isMeaning : GoodIn wsX8_stand (va_wsS RX8 78 yX8_isMeaning wsX8_isMeaning) := goodIn_app (goodIn_of _ (by decide +kernel)) ggX8_stand_X8_isMeaning
set_option maxRecDepth 20000 in
theorem ggX8_stand_X8_isPeople : GoodIn wsX8_stand wsX8_isPeople := goodIn_r _ [9] (by decide +kernel) (by decide +kernel)
set_option maxRecDepth 20000 in
theorem gX8_stand_X8_isPeople : GoodIn wsX8_stand (va_wsS RX8 74 yX8_isPeople wsX8_isPeople) := goodIn_app (goodIn_of _ (by decide +kernel)) ggX8_stand_X8_isPeople
set_option maxRecDepth 20000 in
theorem ggX8_stand_X0_isTold : GoodIn wsX8_stand wsX0_isTold := goodIn_r _ [14, 15, 16, 17, 13, 18, 19, 20, 21, 22, 36, 37, 38, 39, 40, 41, 42, 43, 44] (by decide +kernel) (by decide +kernel)
set_option maxRecDepth 20000 in
theorem gX8_stand_X0_isTold : GoodIn wsX8_stand (wsV RX8 99 RX0 yX0_isTold wsX0_isTold) := goodIn_app (goodIn_of _ (by decide +kernel)) ggX8_stand_X0_isTold
set_option maxRecDepth 20000 in
theorem ggX8_stand_X5_of : GoodIn wsX8_stand wsX5_of := goodIn_r _ [27, 28, 45, 46, 47] (by decide +kernel) (by decide +kernel)
set_option maxRecDepth 20000 in
theorem gX8_stand_X5_of : GoodIn wsX8_stand (wsV RX8 105 RX5 yX5_of wsX5_of) := goodIn_app (goodIn_of _ (by decide +kernel)) ggX8_stand_X5_of
theorem dX8_stand_0 : decode cX8_stand 0 = .ok (.iload_n 1, 1) := by decide +kernel
theorem dX8_stand_1 : decode cX8_stand 1 = .ok (.invokestatic 78, 3) := by decide +kernel
theorem dX8_stand_4 : decode cX8_stand 4 = .ok (.ifCond .eq 10, 3) := by decide +kernel
theorem dX8_stand_7 : decode cX8_stand 7 = .ok (.iload_n 2, 1) := by decide +kernel
theorem dX8_stand_8 : decode cX8_stand 8 = .ok (.invokestatic 74, 3) := by decide +kernel
theorem dX8_stand_11 : decode cX8_stand 11 = .ok (.ifCond .ne 5, 3) := by decide +kernel
theorem dX8_stand_14 : decode cX8_stand 14 = .ok (.iconst (-1), 1) := by decide +kernel
theorem dX8_stand_15 : decode cX8_stand 15 = .ok (.ireturn, 1) := by decide +kernel
theorem dX8_stand_16 : decode cX8_stand 16 = .ok (.aload_n 0, 1) := by decide +kernel
theorem dX8_stand_17 : decode cX8_stand 17 = .ok (.getfield 49, 3) := by decide +kernel
theorem dX8_stand_20 : decode cX8_stand 20 = .ok (.iload_n 1, 1) := by decide +kernel
theorem dX8_stand_21 : decode cX8_stand 21 = .ok (.invokevirtual 99, 3) := by decide +kernel
theorem dX8_stand_24 : decode cX8_stand 24 = .ok (.ifCond .eq 15, 3) := by decide +kernel
theorem dX8_stand_27 : decode cX8_stand 27 = .ok (.aload_n 0, 1) := by decide +kernel
theorem dX8_stand_28 : decode cX8_stand 28 = .ok (.getfield 28, 3) := by decide +kernel
theorem dX8_stand_31 : decode cX8_stand 31 = .ok (.iload_n 1, 1) := by decide +kernel
theorem dX8_stand_32 : decode cX8_stand 32 = .ok (.iload_n 2, 1) := by decide +kernel
theorem dX8_stand_33 : decode cX8_stand 33 = .ok (.invokevirtual 105, 3) := by decide +kernel
theorem dX8_stand_36 : decode cX8_stand 36 = .ok (.goto 5, 3) := by decide +kernel
theorem dX8_stand_39 : decode cX8_stand 39 = .ok (.bipush (-2), 2) := by decide +kernel
theorem dX8_stand_41 : decode cX8_stand 41 = .ok (.ireturn, 1) := by decide +kernel
set_option maxRecDepth 20000 in
theorem ggX8_set_X8_isMeaning : GoodIn wsX8_set wsX8_isMeaning := goodIn_r _ [6] (by decide +kernel) (by decide +kernel)
set_option maxRecDepth 20000 in
theorem gX8_set_X8_isMeaning : GoodIn wsX8_set (va_wsS RX8 78 yX8_isMeaning wsX8_isMeaning) := goodIn_app (goodIn_of _ (by decide +kernel)) ggX8_set_X8_isMeaning
set_option maxRecDepth 20000 in
theorem ggX8_set_X8_isStand : GoodIn wsX8_set wsX8_isStand := goodIn_r _ [10, 1, 11, 12, 13, 14, 15, 16, 35, 36, 37, 38, 39, 40, 41, 42, 43, 44, 45, 46, 47, 48, 49, 50] (by decide +kernel) (by decide +kernel)
set_option maxRecDepth 20000 in
theorem gX8_set_X8_isStand : GoodIn wsX8_set (wsV RX8 108 RX8 yX8_isStand wsX8_isStand) := goodIn_app (goodIn_of _ (by decide +kernel)) ggX8_set_X8_isStand
set_option maxRecDepth 20000 in
theorem ggX8_set_X0_isTold : GoodIn wsX8_set wsX0_isTold := goodIn_r _ [20, 21, 22, 23, 14, 24, 25, 26, 27, 28, 42, 43, 44, 45, 46, 47, 48, 49, 50] (by decide +kernel) (by decide +kernel)
set_option maxRecDepth 20000 in
theorem gX8_set_X0_isTold : GoodIn wsX8_set (wsV RX8 99 RX0 yX0_isTold wsX0_isTold) := goodIn_app (goodIn_of _ (by decide +kernel)) ggX8_set_X0_isTold
set_option maxRecDepth 20000 in
theorem ggX8_set_X5_put : GoodIn wsX8_set wsX5_put := goodIn_r _ [33, 34, 51, 52, 53] (by decide +kernel) (by decide +kernel)
set_option maxRecDepth 20000 in
theorem gX8_set_X5_put : GoodIn wsX8_set (wsV RX8 112 RX5 yX5_put wsX5_put) := goodIn_app (goodIn_of _ (by decide +kernel)) ggX8_set_X5_put
theorem dX8_set_0 : decode cX8_set 0 = .ok (.iload_n 1, 1) := by decide +kernel
theorem dX8_set_1 : decode cX8_set 1 = .ok (.invokestatic 78, 3) := by decide +kernel
theorem dX8_set_4 : decode cX8_set 4 = .ok (.ifCond .eq 12, 3) := by decide +kernel
theorem dX8_set_7 : decode cX8_set 7 = .ok (.aload_n 0, 1) := by decide +kernel
theorem dX8_set_8 : decode cX8_set 8 = .ok (.iload_n 2, 1) := by decide +kernel
theorem dX8_set_9 : decode cX8_set 9 = .ok (.iload_n 3, 1) := by decide +kernel
theorem dX8_set_10 : decode cX8_set 10 = .ok (.invokevirtual 108, 3) := by decide +kernel
theorem dX8_set_13 : decode cX8_set 13 = .ok (.ifCond .ne 5, 3) := by decide +kernel
theorem dX8_set_16 : decode cX8_set 16 = .ok (.iconst (-1), 1) := by decide +kernel
theorem dX8_set_17 : decode cX8_set 17 = .ok (.ireturn, 1) := by decide +kernel
theorem dX8_set_18 : decode cX8_set 18 = .ok (.aload_n 0, 1) := by decide +kernel
theorem dX8_set_19 : decode cX8_set 19 = .ok (.getfield 49, 3) := by decide +kernel
theorem dX8_set_22 : decode cX8_set 22 = .ok (.iload_n 1, 1) := by decide +kernel
theorem dX8_set_23 : decode cX8_set 23 = .ok (.invokevirtual 99, 3) := by decide +kernel
theorem dX8_set_26 : decode cX8_set 26 = .ok (.ifCond .ne 6, 3) := by decide +kernel
theorem dX8_set_29 : decode cX8_set 29 = .ok (.bipush (-2), 2) := by decide +kernel
theorem dX8_set_31 : decode cX8_set 31 = .ok (.ireturn, 1) := by decide +kernel
theorem dX8_set_32 : decode cX8_set 32 = .ok (.aload_n 0, 1) := by decide +kernel
theorem dX8_set_33 : decode cX8_set 33 = .ok (.getfield 28, 3) := by decide +kernel
theorem dX8_set_36 : decode cX8_set 36 = .ok (.iload_n 1, 1) := by decide +kernel
theorem dX8_set_37 : decode cX8_set 37 = .ok (.iload_n 2, 1) := by decide +kernel
theorem dX8_set_38 : decode cX8_set 38 = .ok (.iload_n 3, 1) := by decide +kernel
theorem dX8_set_39 : decode cX8_set 39 = .ok (.invokevirtual 112, 3) := by decide +kernel
theorem dX8_set_42 : decode cX8_set 42 = .ok (.iconst 1, 1) := by decide +kernel
theorem dX8_set_43 : decode cX8_set 43 = .ok (.ireturn, 1) := by decide +kernel
set_option maxRecDepth 20000 in
theorem ggX8_million_X8_isMeaning : GoodIn wsX8_million wsX8_isMeaning := goodIn_r _ [6] (by decide +kernel) (by decide +kernel)
set_option maxRecDepth 20000 in
theorem gX8_million_X8_isMeaning : GoodIn wsX8_million (va_wsS RX8 78 yX8_isMeaning wsX8_isMeaning) := goodIn_app (goodIn_of _ (by decide +kernel)) ggX8_million_X8_isMeaning
set_option maxRecDepth 20000 in
theorem ggX8_million_X8_isMeetings : GoodIn wsX8_million wsX8_isMeetings := goodIn_r _ [9] (by decide +kernel) (by decide +kernel)
set_option maxRecDepth 20000 in
theorem gX8_million_X8_isMeetings : GoodIn wsX8_million (va_wsS RX8 116 yX8_isMeetings wsX8_isMeetings) := goodIn_app (goodIn_of _ (by decide +kernel)) ggX8_million_X8_isMeetings
set_option maxRecDepth 20000 in
theorem ggX8_million_X8_isStand : GoodIn wsX8_million wsX8_isStand := goodIn_r _ [13, 1, 14, 15, 16, 17, 18, 19, 167, 168, 169, 170, 171, 172, 173, 174, 175, 176, 177, 178, 179, 180, 181, 182] (by decide +kernel) (by decide +kernel)
set_option maxRecDepth 20000 in
theorem gX8_million_X8_isStand : GoodIn wsX8_million (wsV RX8 108 RX8 yX8_isStand wsX8_isStand) := goodIn_app (goodIn_of _ (by decide +kernel)) ggX8_million_X8_isStand
set_option maxRecDepth 20000 in
theorem ggX8_million_X0_isTold : GoodIn wsX8_million wsX0_isTold := goodIn_r _ [23, 24, 25, 26, 17, 27, 28, 29, 30, 31, 174, 175, 176, 177, 178, 179, 180, 181, 182] (by decide +kernel) (by decide +kernel)
set_option maxRecDepth 20000 in
theorem gX8_million_X0_isTold : GoodIn wsX8_million (wsV RX8 99 RX0 yX0_isTold wsX0_isTold) := goodIn_app (goodIn_of _ (by decide +kernel)) ggX8_million_X0_isTold
set_option maxRecDepth 20000 in
theorem ggX8_million_X8_startCrowdAsNow : GoodIn wsX8_million wsX8_startCrowdAsNow := goodIn_r _ [35, 2, 1, 36, 37, 38, 39, 5, 40, 41, 42, 43, 44, 45, 46, 47, 48, 49, 50, 25, 26, 17, 27, 28, 29, 30, 31, 51, 52, 53, 54, 55, 56, 57, 58, 59, 60, 61, 62, 63, 64, 65, 66, 67, 68, 69, 70, 71, 72, 73, 74, 75, 76, 77, 78, 79, 80, 81, 82, 83, 84, 85, 86, 87, 88, 89, 90, 91, 92, 93, 94, 95, 96, 97, 98, 99, 100, 101, 102, 103, 104, 105, 106, 107, 108, 109, 110, 111, 112, 14, 15, 16, 18, 19, 113, 114, 115, 116, 117, 118, 119, 120, 121, 122, 123, 124, 125, 126, 127, 128, 129, 130, 131, 132, 133, 134, 135, 136, 137, 138, 139, 167, 168, 169, 170, 171, 172, 173, 174, 175, 176, 177, 178, 179, 180, 181, 182, 183, 184, 185, 186, 187, 188, 189, 190, 191, 192, 193] (by decide +kernel) (by decide +kernel)
set_option maxRecDepth 20000 in
theorem gX8_million_X8_startCrowdAsNow : GoodIn wsX8_million (wsV RX8 119 RX8 yX8_startCrowdAsNow wsX8_startCrowdAsNow) := goodIn_app (goodIn_of _ (by decide +kernel)) ggX8_million_X8_startCrowdAsNow
set_option maxRecDepth 20000 in
theorem ggX8_million_X1_meet : GoodIn wsX8_million wsX1_meet := goodIn_r _ [143, 144, 145, 146, 109, 147, 148, 131, 149, 150, 151, 152, 153, 119, 120, 154, 155, 156, 157, 111, 112, 137, 138, 139, 158, 159, 160, 161, 162, 184, 185, 186, 187, 188, 189, 190] (by decide +kernel) (by decide +kernel)
set_option maxRecDepth 20000 in
theorem gX8_million_X1_meet : GoodIn wsX8_million (wsV RX8 122 RX1 yX1_meet wsX1_meet) := goodIn_app (goodIn_of _ (by decide +kernel)) ggX8_million_X1_meet
set_option maxRecDepth 20000 in
theorem ggX8_million_X1_inStand : GoodIn wsX8_million wsX1_inStand := goodIn_r _ [166, 131, 137, 138, 109, 139, 184, 185, 186, 187, 188, 189, 190] (by decide +kernel) (by decide +kernel)
set_option maxRecDepth 20000 in
theorem gX8_million_X1_inStand : GoodIn wsX8_million (wsV RX8 125 RX1 yX1_inStand wsX1_inStand) := goodIn_app (goodIn_of _ (by decide +kernel)) ggX8_million_X1_inStand
theorem dX8_million_0 : decode cX8_million 0 = .ok (.iload_n 1, 1) := by decide +kernel
theorem dX8_million_1 : decode cX8_million 1 = .ok (.invokestatic 78, 3) := by decide +kernel
theorem dX8_million_4 : decode cX8_million 4 = .ok (.ifCond .eq 20, 3) := by decide +kernel
theorem dX8_million_7 : decode cX8_million 7 = .ok (.iload_n 2, 1) := by decide +kernel
theorem dX8_million_8 : decode cX8_million 8 = .ok (.invokestatic 116, 3) := by decide +kernel
theorem dX8_million_11 : decode cX8_million 11 = .ok (.ifCond .eq 13, 3) := by decide +kernel
theorem dX8_million_14 : decode cX8_million 14 = .ok (.aload_n 0, 1) := by decide +kernel
theorem dX8_million_15 : decode cX8_million 15 = .ok (.iload_n 3, 1) := by decide +kernel
theorem dX8_million_16 : decode cX8_million 16 = .ok (.iload 4, 2) := by decide +kernel
theorem dX8_million_18 : decode cX8_million 18 = .ok (.invokevirtual 108, 3) := by decide +kernel
theorem dX8_million_21 : decode cX8_million 21 = .ok (.ifCond .ne 5, 3) := by decide +kernel
theorem dX8_million_24 : decode cX8_million 24 = .ok (.iconst (-1), 1) := by decide +kernel
theorem dX8_million_25 : decode cX8_million 25 = .ok (.ireturn, 1) := by decide +kernel
theorem dX8_million_26 : decode cX8_million 26 = .ok (.aload_n 0, 1) := by decide +kernel
theorem dX8_million_27 : decode cX8_million 27 = .ok (.getfield 49, 3) := by decide +kernel
theorem dX8_million_30 : decode cX8_million 30 = .ok (.iload_n 1, 1) := by decide +kernel
theorem dX8_million_31 : decode cX8_million 31 = .ok (.invokevirtual 99, 3) := by decide +kernel
theorem dX8_million_34 : decode cX8_million 34 = .ok (.ifCond .ne 6, 3) := by decide +kernel
theorem dX8_million_37 : decode cX8_million 37 = .ok (.bipush (-2), 2) := by decide +kernel
theorem dX8_million_39 : decode cX8_million 39 = .ok (.ireturn, 1) := by decide +kernel
theorem dX8_million_40 : decode cX8_million 40 = .ok (.aload_n 0, 1) := by decide +kernel
theorem dX8_million_41 : decode cX8_million 41 = .ok (.iload_n 1, 1) := by decide +kernel
theorem dX8_million_42 : decode cX8_million 42 = .ok (.invokevirtual 119, 3) := by decide +kernel
theorem dX8_million_45 : decode cX8_million 45 = .ok (.aload_n 0, 1) := by decide +kernel
theorem dX8_million_46 : decode cX8_million 46 = .ok (.getfield 35, 3) := by decide +kernel
theorem dX8_million_49 : decode cX8_million 49 = .ok (.iload_n 2, 1) := by decide +kernel
theorem dX8_million_50 : decode cX8_million 50 = .ok (.invokevirtual 122, 3) := by decide +kernel
theorem dX8_million_53 : decode cX8_million 53 = .ok (.aload_n 0, 1) := by decide +kernel
theorem dX8_million_54 : decode cX8_million 54 = .ok (.getfield 35, 3) := by decide +kernel
theorem dX8_million_57 : decode cX8_million 57 = .ok (.iload_n 3, 1) := by decide +kernel
theorem dX8_million_58 : decode cX8_million 58 = .ok (.iload 4, 2) := by decide +kernel
theorem dX8_million_60 : decode cX8_million 60 = .ok (.invokevirtual 125, 3) := by decide +kernel
theorem dX8_million_63 : decode cX8_million 63 = .ok (.l2i, 1) := by decide +kernel
theorem dX8_million_64 : decode cX8_million 64 = .ok (.ireturn, 1) := by decide +kernel
set_option maxRecDepth 20000 in
theorem ggX8_won_X8_isMeaning : GoodIn wsX8_won wsX8_isMeaning := goodIn_r _ [6] (by decide +kernel) (by decide +kernel)
set_option maxRecDepth 20000 in
theorem gX8_won_X8_isMeaning : GoodIn wsX8_won (va_wsS RX8 78 yX8_isMeaning wsX8_isMeaning) := goodIn_app (goodIn_of _ (by decide +kernel)) ggX8_won_X8_isMeaning
set_option maxRecDepth 20000 in
theorem ggX8_won_X8_isMeetings : GoodIn wsX8_won wsX8_isMeetings := goodIn_r _ [9] (by decide +kernel) (by decide +kernel)
set_option maxRecDepth 20000 in
theorem gX8_won_X8_isMeetings : GoodIn wsX8_won (va_wsS RX8 116 yX8_isMeetings wsX8_isMeetings) := goodIn_app (goodIn_of _ (by decide +kernel)) ggX8_won_X8_isMeetings
set_option maxRecDepth 20000 in
theorem ggX8_won_X8_isPeople : GoodIn wsX8_won wsX8_isPeople := goodIn_r _ [12] (by decide +kernel) (by decide +kernel)
set_option maxRecDepth 20000 in
theorem gX8_won_X8_isPeople : GoodIn wsX8_won (va_wsS RX8 74 yX8_isPeople wsX8_isPeople) := goodIn_app (goodIn_of _ (by decide +kernel)) ggX8_won_X8_isPeople
set_option maxRecDepth 20000 in
theorem ggX8_won_X0_isTold : GoodIn wsX8_won wsX0_isTold := goodIn_r _ [17, 18, 19, 20, 16, 21, 22, 23, 24, 25, 177, 178, 179, 180, 181, 182, 183, 184, 185] (by decide +kernel) (by decide +kernel)
set_option maxRecDepth 20000 in
theorem gX8_won_X0_isTold : GoodIn wsX8_won (wsV RX8 99 RX0 yX0_isTold wsX0_isTold) := goodIn_app (goodIn_of _ (by decide +kernel)) ggX8_won_X0_isTold
set_option maxRecDepth 20000 in
theorem ggX8_won_X8_startCrowdAsNow : GoodIn wsX8_won wsX8_startCrowdAsNow := goodIn_r _ [29, 2, 1, 30, 31, 32, 33, 5, 34, 35, 36, 37, 38, 39, 40, 41, 42, 43, 44, 19, 20, 16, 21, 22, 23, 24, 25, 45, 46, 47, 48, 49, 50, 51, 52, 53, 54, 55, 56, 57, 58, 59, 60, 61, 62, 63, 64, 65, 66, 67, 68, 69, 70, 71, 72, 73, 74, 75, 76, 77, 78, 79, 80, 81, 82, 83, 84, 85, 86, 87, 88, 89, 90, 91, 92, 93, 94, 95, 96, 97, 98, 99, 100, 101, 102, 103, 104, 105, 106, 107, 108, 109, 110, 111, 112, 113, 114, 115, 116, 117, 118, 119, 120, 121, 122, 123, 124, 125, 126, 127, 128, 129, 130, 131, 132, 133, 134, 135, 136, 137, 138, 170, 171, 172, 173, 174, 175, 176, 177, 178, 179, 180, 181, 182, 183, 184, 185, 186, 187, 188, 189, 190, 191, 192, 193, 194, 195, 196] (by decide +kernel) (by decide +kernel)
set_option maxRecDepth 20000 in
theorem gX8_won_X8_startCrowdAsNow : GoodIn wsX8_won (wsV RX8 119 RX8 yX8_startCrowdAsNow wsX8_startCrowdAsNow) := goodIn_app (goodIn_of _ (by decide +kernel)) ggX8_won_X8_startCrowdAsNow
set_option maxRecDepth 20000 in
theorem ggX8_won_X1_meet : GoodIn wsX8_won wsX1_meet := goodIn_r _ [142, 143, 144, 145, 103, 146, 147, 130, 148, 149, 150, 151, 152, 118, 119, 153, 154, 155, 156, 105, 106, 136, 137, 138, 157, 158, 159, 160, 161, 187, 188, 189, 190, 191, 192, 193] (by decide +kernel) (by decide +kernel)
set_option maxRecDepth 20000 in
theorem gX8_won_X1_meet : GoodIn wsX8_won (wsV RX8 122 RX1 yX1_meet wsX1_meet) := goodIn_app (goodIn_of _ (by decide +kernel)) ggX8_won_X1_meet
set_option maxRecDepth 20000 in
theorem ggX8_won_X1_allSaying : GoodIn wsX8_won wsX1_allSaying := goodIn_r _ [165, 119, 118, 166, 167, 168, 103, 169, 130, 136, 137, 138, 187, 188, 189, 190, 191, 192, 193] (by decide +kernel) (by decide +kernel)
set_option maxRecDepth 20000 in
theorem gX8_won_X1_allSaying : GoodIn wsX8_won (wsV RX8 129 RX1 yX1_allSaying wsX1_allSaying) := goodIn_app (goodIn_of _ (by decide +kernel)) ggX8_won_X1_allSaying
theorem dX8_won_0 : decode cX8_won 0 = .ok (.iload_n 1, 1) := by decide +kernel
theorem dX8_won_1 : decode cX8_won 1 = .ok (.invokestatic 78, 3) := by decide +kernel
theorem dX8_won_4 : decode cX8_won 4 = .ok (.ifCond .eq 17, 3) := by decide +kernel
theorem dX8_won_7 : decode cX8_won 7 = .ok (.iload_n 2, 1) := by decide +kernel
theorem dX8_won_8 : decode cX8_won 8 = .ok (.invokestatic 116, 3) := by decide +kernel
theorem dX8_won_11 : decode cX8_won 11 = .ok (.ifCond .eq 10, 3) := by decide +kernel
theorem dX8_won_14 : decode cX8_won 14 = .ok (.iload_n 3, 1) := by decide +kernel
theorem dX8_won_15 : decode cX8_won 15 = .ok (.invokestatic 74, 3) := by decide +kernel
theorem dX8_won_18 : decode cX8_won 18 = .ok (.ifCond .ne 5, 3) := by decide +kernel
theorem dX8_won_21 : decode cX8_won 21 = .ok (.iconst (-1), 1) := by decide +kernel
theorem dX8_won_22 : decode cX8_won 22 = .ok (.ireturn, 1) := by decide +kernel
theorem dX8_won_23 : decode cX8_won 23 = .ok (.aload_n 0, 1) := by decide +kernel
theorem dX8_won_24 : decode cX8_won 24 = .ok (.getfield 49, 3) := by decide +kernel
theorem dX8_won_27 : decode cX8_won 27 = .ok (.iload_n 1, 1) := by decide +kernel
theorem dX8_won_28 : decode cX8_won 28 = .ok (.invokevirtual 99, 3) := by decide +kernel
theorem dX8_won_31 : decode cX8_won 31 = .ok (.ifCond .ne 6, 3) := by decide +kernel
theorem dX8_won_34 : decode cX8_won 34 = .ok (.bipush (-2), 2) := by decide +kernel
theorem dX8_won_36 : decode cX8_won 36 = .ok (.ireturn, 1) := by decide +kernel
theorem dX8_won_37 : decode cX8_won 37 = .ok (.aload_n 0, 1) := by decide +kernel
theorem dX8_won_38 : decode cX8_won 38 = .ok (.iload_n 1, 1) := by decide +kernel
theorem dX8_won_39 : decode cX8_won 39 = .ok (.invokevirtual 119, 3) := by decide +kernel
theorem dX8_won_42 : decode cX8_won 42 = .ok (.aload_n 0, 1) := by decide +kernel
theorem dX8_won_43 : decode cX8_won 43 = .ok (.getfield 35, 3) := by decide +kernel
theorem dX8_won_46 : decode cX8_won 46 = .ok (.iload_n 2, 1) := by decide +kernel
theorem dX8_won_47 : decode cX8_won 47 = .ok (.invokevirtual 122, 3) := by decide +kernel
theorem dX8_won_50 : decode cX8_won 50 = .ok (.aload_n 0, 1) := by decide +kernel
theorem dX8_won_51 : decode cX8_won 51 = .ok (.getfield 35, 3) := by decide +kernel
theorem dX8_won_54 : decode cX8_won 54 = .ok (.iload_n 3, 1) := by decide +kernel
theorem dX8_won_55 : decode cX8_won 55 = .ok (.invokevirtual 129, 3) := by decide +kernel
theorem dX8_won_58 : decode cX8_won 58 = .ok (.l2i, 1) := by decide +kernel
theorem dX8_won_59 : decode cX8_won 59 = .ok (.ireturn, 1) := by decide +kernel
set_option maxRecDepth 20000 in
theorem ggX8_soon_X8_isMeaning : GoodIn wsX8_soon wsX8_isMeaning := goodIn_r _ [7] (by decide +kernel) (by decide +kernel)
set_option maxRecDepth 20000 in
theorem gX8_soon_X8_isMeaning : GoodIn wsX8_soon (va_wsS RX8 78 yX8_isMeaning wsX8_isMeaning) := goodIn_app (goodIn_of _ (by decide +kernel)) ggX8_soon_X8_isMeaning
set_option maxRecDepth 20000 in
theorem ggX8_soon_X8_isHundredths : GoodIn wsX8_soon wsX8_isHundredths := goodIn_r _ [10] (by decide +kernel) (by decide +kernel)
set_option maxRecDepth 20000 in
theorem gX8_soon_X8_isHundredths : GoodIn wsX8_soon (va_wsS RX8 133 yX8_isHundredths wsX8_isHundredths) := goodIn_app (goodIn_of _ (by decide +kernel)) ggX8_soon_X8_isHundredths
set_option maxRecDepth 20000 in
theorem ggX8_soon_X0_isTold : GoodIn wsX8_soon wsX0_isTold := goodIn_r _ [15, 16, 17, 18, 14, 19, 20, 21, 22, 23, 171, 172, 173, 174, 175, 176, 177, 178, 179] (by decide +kernel) (by decide +kernel)
set_option maxRecDepth 20000 in
theorem gX8_soon_X0_isTold : GoodIn wsX8_soon (wsV RX8 99 RX0 yX0_isTold wsX0_isTold) := goodIn_app (goodIn_of _ (by decide +kernel)) ggX8_soon_X0_isTold
set_option maxRecDepth 20000 in
theorem ggX8_soon_X8_startCrowdAsNow : GoodIn wsX8_soon wsX8_startCrowdAsNow := goodIn_r _ [27, 2, 1, 28, 29, 30, 31, 6, 32, 33, 34, 35, 36, 37, 38, 39, 40, 41, 42, 17, 18, 14, 19, 20, 21, 22, 23, 43, 44, 45, 46, 47, 48, 49, 50, 51, 52, 53, 54, 55, 56, 57, 58, 59, 60, 61, 62, 63, 64, 65, 66, 67, 68, 69, 70, 71, 72, 73, 74, 75, 76, 77, 78, 79, 80, 81, 82, 83, 84, 85, 86, 87, 88, 89, 90, 91, 92, 93, 94, 95, 96, 97, 98, 99, 100, 101, 102, 103, 104, 105, 106, 107, 108, 109, 110, 111, 112, 113, 114, 115, 116, 117, 118, 119, 120, 121, 122, 123, 124, 125, 126, 127, 128, 129, 130, 131, 132, 133, 134, 135, 136, 164, 165, 166, 167, 168, 169, 170, 171, 172, 173, 174, 175, 176, 177, 178, 179, 180, 181, 182, 183, 184, 185, 186, 187, 188, 189, 190] (by decide +kernel) (by decide +kernel)
set_option maxRecDepth 20000 in
theorem gX8_soon_X8_startCrowdAsNow : GoodIn wsX8_soon (wsV RX8 119 RX8 yX8_startCrowdAsNow wsX8_startCrowdAsNow) := goodIn_app (goodIn_of _ (by decide +kernel)) ggX8_soon_X8_startCrowdAsNow
set_option maxRecDepth 20000 in
theorem ggX8_soon_X1_allSaying : GoodIn wsX8_soon wsX1_allSaying := goodIn_r _ [140, 117, 116, 141, 142, 143, 101, 144, 128, 134, 135, 136, 181, 182, 183, 184, 185, 186, 187] (by decide +kernel) (by decide +kernel)
set_option maxRecDepth 20000 in
theorem gX8_soon_X1_allSaying : GoodIn wsX8_soon (wsV RX8 129 RX1 yX1_allSaying wsX1_allSaying) := goodIn_app (goodIn_of _ (by decide +kernel)) ggX8_soon_X1_allSaying
set_option maxRecDepth 20000 in
theorem ggX8_soon_X1_meetOnce : GoodIn wsX8_soon wsX1_meetOnce := goodIn_r _ [148, 149, 128, 150, 151, 152, 153, 154, 116, 117, 155, 156, 157, 101, 158, 103, 104, 134, 135, 136, 159, 160, 161, 162, 163, 181, 182, 183, 184, 185, 186, 187] (by decide +kernel) (by decide +kernel)
set_option maxRecDepth 20000 in
theorem gX8_soon_X1_meetOnce : GoodIn wsX8_soon (wsV RX8 138 RX1 yX1_meetOnce wsX1_meetOnce) := goodIn_app (goodIn_of _ (by decide +kernel)) ggX8_soon_X1_meetOnce
theorem dX8_soon_0 : decode cX8_soon 0 = .ok (.iload_n 1, 1) := by decide +kernel
theorem dX8_soon_1 : decode cX8_soon 1 = .ok (.invokestatic 78, 3) := by decide +kernel
theorem dX8_soon_4 : decode cX8_soon 4 = .ok (.ifCond .eq 10, 3) := by decide +kernel
theorem dX8_soon_7 : decode cX8_soon 7 = .ok (.iload_n 2, 1) := by decide +kernel
theorem dX8_soon_8 : decode cX8_soon 8 = .ok (.invokestatic 133, 3) := by decide +kernel
theorem dX8_soon_11 : decode cX8_soon 11 = .ok (.ifCond .ne 5, 3) := by decide +kernel
theorem dX8_soon_14 : decode cX8_soon 14 = .ok (.iconst (-1), 1) := by decide +kernel
theorem dX8_soon_15 : decode cX8_soon 15 = .ok (.ireturn, 1) := by decide +kernel
theorem dX8_soon_16 : decode cX8_soon 16 = .ok (.aload_n 0, 1) := by decide +kernel
theorem dX8_soon_17 : decode cX8_soon 17 = .ok (.getfield 49, 3) := by decide +kernel
theorem dX8_soon_20 : decode cX8_soon 20 = .ok (.iload_n 1, 1) := by decide +kernel
theorem dX8_soon_21 : decode cX8_soon 21 = .ok (.invokevirtual 99, 3) := by decide +kernel
theorem dX8_soon_24 : decode cX8_soon 24 = .ok (.ifCond .ne 6, 3) := by decide +kernel
theorem dX8_soon_27 : decode cX8_soon 27 = .ok (.bipush (-2), 2) := by decide +kernel
theorem dX8_soon_29 : decode cX8_soon 29 = .ok (.ireturn, 1) := by decide +kernel
theorem dX8_soon_30 : decode cX8_soon 30 = .ok (.aload_n 0, 1) := by decide +kernel
theorem dX8_soon_31 : decode cX8_soon 31 = .ok (.iload_n 1, 1) := by decide +kernel
theorem dX8_soon_32 : decode cX8_soon 32 = .ok (.invokevirtual 119, 3) := by decide +kernel
theorem dX8_soon_35 : decode cX8_soon 35 = .ok (.iconst 0, 1) := by decide +kernel
theorem dX8_soon_36 : decode cX8_soon 36 = .ok (.istore_n 3, 1) := by decide +kernel
theorem dX8_soon_37 : decode cX8_soon 37 = .ok (.iload_n 3, 1) := by decide +kernel
theorem dX8_soon_38 : decode cX8_soon 38 = .ok (.sipush 200, 3) := by decide +kernel
theorem dX8_soon_41 : decode cX8_soon 41 = .ok (.if_icmp .gt 51, 3) := by decide +kernel
theorem dX8_soon_44 : decode cX8_soon 44 = .ok (.aload_n 0, 1) := by decide +kernel
theorem dX8_soon_45 : decode cX8_soon 45 = .ok (.getfield 35, 3) := by decide +kernel
theorem dX8_soon_48 : decode cX8_soon 48 = .ok (.iconst 0, 1) := by decide +kernel
theorem dX8_soon_49 : decode cX8_soon 49 = .ok (.invokevirtual 129, 3) := by decide +kernel
theorem dX8_soon_52 : decode cX8_soon 52 = .ok (.aload_n 0, 1) := by decide +kernel
theorem dX8_soon_53 : decode cX8_soon 53 = .ok (.getfield 35, 3) := by decide +kernel
theorem dX8_soon_56 : decode cX8_soon 56 = .ok (.iconst 1, 1) := by decide +kernel
theorem dX8_soon_57 : decode cX8_soon 57 = .ok (.invokevirtual 129, 3) := by decide +kernel
theorem dX8_soon_60 : decode cX8_soon 60 = .ok (.ladd, 1) := by decide +kernel
theorem dX8_soon_61 : decode cX8_soon 61 = .ok (.iload_n 2, 1) := by decide +kernel
theorem dX8_soon_62 : decode cX8_soon 62 = .ok (.i2l, 1) := by decide +kernel
theorem dX8_soon_63 : decode cX8_soon 63 = .ok (.ldc2_w 136, 3) := by decide +kernel
theorem dX8_soon_66 : decode cX8_soon 66 = .ok (.lmul, 1) := by decide +kernel
theorem dX8_soon_67 : decode cX8_soon 67 = .ok (.lcmp, 1) := by decide +kernel
theorem dX8_soon_68 : decode cX8_soon 68 = .ok (.ifCond .lt 5, 3) := by decide +kernel
theorem dX8_soon_71 : decode cX8_soon 71 = .ok (.iload_n 3, 1) := by decide +kernel
theorem dX8_soon_72 : decode cX8_soon 72 = .ok (.ireturn, 1) := by decide +kernel
theorem dX8_soon_73 : decode cX8_soon 73 = .ok (.aload_n 0, 1) := by decide +kernel
theorem dX8_soon_74 : decode cX8_soon 74 = .ok (.getfield 35, 3) := by decide +kernel
theorem dX8_soon_77 : decode cX8_soon 77 = .ok (.invokevirtual 138, 3) := by decide +kernel
theorem dX8_soon_80 : decode cX8_soon 80 = .ok (.ifCond .ne 6, 3) := by decide +kernel
theorem dX8_soon_83 : decode cX8_soon 83 = .ok (.bipush (-4), 2) := by decide +kernel
theorem dX8_soon_85 : decode cX8_soon 85 = .ok (.ireturn, 1) := by decide +kernel
theorem dX8_soon_86 : decode cX8_soon 86 = .ok (.iinc 3 1, 3) := by decide +kernel
theorem dX8_soon_89 : decode cX8_soon 89 = .ok (.goto (-52), 3) := by decide +kernel
theorem dX8_soon_92 : decode cX8_soon 92 = .ok (.bipush (-4), 2) := by decide +kernel
theorem dX8_soon_94 : decode cX8_soon 94 = .ok (.ireturn, 1) := by decide +kernel
set_option maxRecDepth 20000 in
theorem ggX8_use_X8_isMeaning : GoodIn wsX8_use wsX8_isMeaning := goodIn_r _ [7] (by decide +kernel) (by decide +kernel)
set_option maxRecDepth 20000 in
theorem gX8_use_X8_isMeaning : GoodIn wsX8_use (va_wsS RX8 78 yX8_isMeaning wsX8_isMeaning) := goodIn_app (goodIn_of _ (by decide +kernel)) ggX8_use_X8_isMeaning
set_option maxRecDepth 20000 in
theorem ggX8_use_X8_isMeetings : GoodIn wsX8_use wsX8_isMeetings := goodIn_r _ [10] (by decide +kernel) (by decide +kernel)
set_option maxRecDepth 20000 in
theorem gX8_use_X8_isMeetings : GoodIn wsX8_use (va_wsS RX8 116 yX8_isMeetings wsX8_isMeetings) := goodIn_app (goodIn_of _ (by decide +kernel)) ggX8_use_X8_isMeetings
set_option maxRecDepth 20000 in
theorem ggX8_use_X0_isTold : GoodIn wsX8_use wsX0_isTold := goodIn_r _ [15, 16, 17, 18, 14, 19, 20, 21, 22, 23, 175, 176, 177, 178, 179, 180, 181, 182, 183] (by decide +kernel) (by decide +kernel)
set_option maxRecDepth 20000 in
theorem gX8_use_X0_isTold : GoodIn wsX8_use (wsV RX8 99 RX0 yX0_isTold wsX0_isTold) := goodIn_app (goodIn_of _ (by decide +kernel)) ggX8_use_X0_isTold
set_option maxRecDepth 20000 in
theorem ggX8_use_X8_startCrowdAsNow : GoodIn wsX8_use wsX8_startCrowdAsNow := goodIn_r _ [27, 2, 1, 28, 29, 30, 31, 6, 32, 33, 34, 35, 36, 37, 38, 39, 40, 41, 42, 17, 18, 14, 19, 20, 21, 22, 23, 43, 44, 45, 46, 47, 48, 49, 50, 51, 52, 53, 54, 55, 56, 57, 58, 59, 60, 61, 62, 63, 64, 65, 66, 67, 68, 69, 70, 71, 72, 73, 74, 75, 76, 77, 78, 79, 80, 81, 82, 83, 84, 85, 86, 87, 88, 89, 90, 91, 92, 93, 94, 95, 96, 97, 98, 99, 100, 101, 102, 103, 104, 105, 106, 107, 108, 109, 110, 111, 112, 113, 114, 115, 116, 117, 118, 119, 120, 121, 122, 123, 124, 125, 126, 127, 128, 129, 130, 131, 132, 133, 134, 135, 136, 168, 169, 170, 171, 172, 173, 174, 175, 176, 177, 178, 179, 180, 181, 182, 183, 184, 185, 186, 187, 188, 189, 190, 191, 192, 193, 194] (by decide +kernel) (by decide +kernel)
set_option maxRecDepth 20000 in
theorem gX8_use_X8_startCrowdAsNow : GoodIn wsX8_use (wsV RX8 119 RX8 yX8_startCrowdAsNow wsX8_startCrowdAsNow) := goodIn_app (goodIn_of _ (by decide +kernel)) ggX8_use_X8_startCrowdAsNow
set_option maxRecDepth 20000 in
theorem ggX8_use_X1_meet : GoodIn wsX8_use wsX1_meet := goodIn_r _ [140, 141, 142, 143, 101, 144, 145, 128, 146, 147, 148, 149, 150, 116, 117, 151, 152, 153, 154, 103, 104, 134, 135, 136, 155, 156, 157, 158, 159, 185, 186, 187, 188, 189, 190, 191] (by decide +kernel) (by decide +kernel)
set_option maxRecDepth 20000 in
theorem gX8_use_X1_meet : GoodIn wsX8_use (wsV RX8 122 RX1 yX1_meet wsX1_meet) := goodIn_app (goodIn_of _ (by decide +kernel)) ggX8_use_X1_meet
set_option maxRecDepth 20000 in
theorem ggX8_use_X1_sayingWordZero : GoodIn wsX8_use wsX1_sayingWordZero := goodIn_r _ [163, 116, 117, 164, 165, 166, 101, 167, 128, 134, 135, 136, 185, 186, 187, 188, 189, 190, 191] (by decide +kernel) (by decide +kernel)
set_option maxRecDepth 20000 in
theorem gX8_use_X1_sayingWordZero : GoodIn wsX8_use (wsV RX8 142 RX1 yX1_sayingWordZero wsX1_sayingWordZero) := goodIn_app (goodIn_of _ (by decide +kernel)) ggX8_use_X1_sayingWordZero
theorem dX8_use_0 : decode cX8_use 0 = .ok (.iload_n 1, 1) := by decide +kernel
theorem dX8_use_1 : decode cX8_use 1 = .ok (.invokestatic 78, 3) := by decide +kernel
theorem dX8_use_4 : decode cX8_use 4 = .ok (.ifCond .eq 10, 3) := by decide +kernel
theorem dX8_use_7 : decode cX8_use 7 = .ok (.iload_n 2, 1) := by decide +kernel
theorem dX8_use_8 : decode cX8_use 8 = .ok (.invokestatic 116, 3) := by decide +kernel
theorem dX8_use_11 : decode cX8_use 11 = .ok (.ifCond .ne 5, 3) := by decide +kernel
theorem dX8_use_14 : decode cX8_use 14 = .ok (.iconst (-1), 1) := by decide +kernel
theorem dX8_use_15 : decode cX8_use 15 = .ok (.ireturn, 1) := by decide +kernel
theorem dX8_use_16 : decode cX8_use 16 = .ok (.aload_n 0, 1) := by decide +kernel
theorem dX8_use_17 : decode cX8_use 17 = .ok (.getfield 49, 3) := by decide +kernel
theorem dX8_use_20 : decode cX8_use 20 = .ok (.iload_n 1, 1) := by decide +kernel
theorem dX8_use_21 : decode cX8_use 21 = .ok (.invokevirtual 99, 3) := by decide +kernel
theorem dX8_use_24 : decode cX8_use 24 = .ok (.ifCond .ne 6, 3) := by decide +kernel
theorem dX8_use_27 : decode cX8_use 27 = .ok (.bipush (-2), 2) := by decide +kernel
theorem dX8_use_29 : decode cX8_use 29 = .ok (.ireturn, 1) := by decide +kernel
theorem dX8_use_30 : decode cX8_use 30 = .ok (.aload_n 0, 1) := by decide +kernel
theorem dX8_use_31 : decode cX8_use 31 = .ok (.iload_n 1, 1) := by decide +kernel
theorem dX8_use_32 : decode cX8_use 32 = .ok (.invokevirtual 119, 3) := by decide +kernel
theorem dX8_use_35 : decode cX8_use 35 = .ok (.aload_n 0, 1) := by decide +kernel
theorem dX8_use_36 : decode cX8_use 36 = .ok (.getfield 35, 3) := by decide +kernel
theorem dX8_use_39 : decode cX8_use 39 = .ok (.iload_n 2, 1) := by decide +kernel
theorem dX8_use_40 : decode cX8_use 40 = .ok (.invokevirtual 122, 3) := by decide +kernel
theorem dX8_use_43 : decode cX8_use 43 = .ok (.aload_n 0, 1) := by decide +kernel
theorem dX8_use_44 : decode cX8_use 44 = .ok (.getfield 35, 3) := by decide +kernel
theorem dX8_use_47 : decode cX8_use 47 = .ok (.invokevirtual 142, 3) := by decide +kernel
theorem dX8_use_50 : decode cX8_use 50 = .ok (.ldc2_w 146, 3) := by decide +kernel
theorem dX8_use_53 : decode cX8_use 53 = .ok (.ldiv, 1) := by decide +kernel
theorem dX8_use_54 : decode cX8_use 54 = .ok (.l2i, 1) := by decide +kernel
theorem dX8_use_55 : decode cX8_use 55 = .ok (.ireturn, 1) := by decide +kernel
set_option maxRecDepth 20000 in
theorem ggX8_traders_X8_isMeaning : GoodIn wsX8_traders wsX8_isMeaning := goodIn_r _ [7] (by decide +kernel) (by decide +kernel)
set_option maxRecDepth 20000 in
theorem gX8_traders_X8_isMeaning : GoodIn wsX8_traders (va_wsS RX8 78 yX8_isMeaning wsX8_isMeaning) := goodIn_app (goodIn_of _ (by decide +kernel)) ggX8_traders_X8_isMeaning
set_option maxRecDepth 20000 in
theorem ggX8_traders_X8_isMeetings : GoodIn wsX8_traders wsX8_isMeetings := goodIn_r _ [10] (by decide +kernel) (by decide +kernel)
set_option maxRecDepth 20000 in
theorem gX8_traders_X8_isMeetings : GoodIn wsX8_traders (va_wsS RX8 116 yX8_isMeetings wsX8_isMeetings) := goodIn_app (goodIn_of _ (by decide +kernel)) ggX8_traders_X8_isMeetings
set_option maxRecDepth 20000 in
theorem ggX8_traders_X8_isPeople : GoodIn wsX8_traders wsX8_isPeople := goodIn_r _ [13] (by decide +kernel) (by decide +kernel)
set_option maxRecDepth 20000 in
theorem gX8_traders_X8_isPeople : GoodIn wsX8_traders (va_wsS RX8 74 yX8_isPeople wsX8_isPeople) := goodIn_app (goodIn_of _ (by decide +kernel)) ggX8_traders_X8_isPeople
set_option maxRecDepth 20000 in
theorem ggX8_traders_X8_isHundredths : GoodIn wsX8_traders wsX8_isHundredths := goodIn_r _ [16] (by decide +kernel) (by decide +kernel)
set_option maxRecDepth 20000 in
theorem gX8_traders_X8_isHundredths : GoodIn wsX8_traders (va_wsS RX8 133 yX8_isHundredths wsX8_isHundredths) := goodIn_app (goodIn_of _ (by decide +kernel)) ggX8_traders_X8_isHundredths
set_option maxRecDepth 20000 in
theorem ggX8_traders_X0_isTold : GoodIn wsX8_traders wsX0_isTold := goodIn_r _ [21, 22, 23, 24, 20, 25, 26, 27, 28, 29, 165, 166, 167, 168, 169, 170, 171, 172, 173] (by decide +kernel) (by decide +kernel)
set_option maxRecDepth 20000 in
theorem gX8_traders_X0_isTold : GoodIn wsX8_traders (wsV RX8 99 RX0 yX0_isTold wsX0_isTold) := goodIn_app (goodIn_of _ (by decide +kernel)) ggX8_traders_X0_isTold
set_option maxRecDepth 20000 in
theorem ggX8_traders_X8_takeHabits : GoodIn wsX8_traders wsX8_takeHabits := goodIn_r _ [33, 2, 1, 34, 35, 36, 6, 37, 38, 39, 40, 41, 42, 43, 23, 24, 20, 25, 26, 27, 28, 29, 44, 45, 46, 47, 48, 49, 50, 51, 52, 53, 54, 55, 56, 57, 58, 59, 60, 61, 62, 63, 64, 65, 66, 67, 68, 69, 70, 71, 72, 73, 74, 75, 76, 77, 78, 79, 80, 81, 82, 83, 84, 85, 86, 87, 88, 89, 90, 91, 92, 93, 94, 95, 96, 97, 98, 99, 100, 101, 102, 103, 104, 105, 158, 159, 160, 161, 162, 163, 164, 165, 166, 167, 168, 169, 170, 171, 172, 173, 174, 175, 176, 177, 178, 179, 180, 181] (by decide +kernel) (by decide +kernel)
set_option maxRecDepth 20000 in
theorem gX8_traders_X8_takeHabits : GoodIn wsX8_traders (wsV RX8 148 RX8 yX8_takeHabits wsX8_takeHabits) := goodIn_app (goodIn_of _ (by decide +kernel)) ggX8_traders_X8_takeHabits
set_option maxRecDepth 20000 in
theorem ggX8_traders_X1_gather : GoodIn wsX8_traders wsX1_gather := goodIn_r _ [109, 110, 80, 72, 81, 111, 71, 73, 112, 113, 175, 176, 177, 178, 179, 180, 181] (by decide +kernel) (by decide +kernel)
set_option maxRecDepth 20000 in
theorem gX8_traders_X1_gather : GoodIn wsX8_traders (wsV RX8 151 RX1 yX1_gather wsX1_gather) := goodIn_app (goodIn_of _ (by decide +kernel)) ggX8_traders_X1_gather
set_option maxRecDepth 20000 in
theorem ggX8_traders_X1_begin : GoodIn wsX8_traders wsX1_begin := goodIn_r _ [117, 118, 119, 120, 121, 122, 123, 124, 125, 102, 126, 175, 176, 177, 178, 179, 180, 181] (by decide +kernel) (by decide +kernel)
set_option maxRecDepth 20000 in
theorem gX8_traders_X1_begin : GoodIn wsX8_traders (wsV RX8 155 RX1 yX1_begin wsX1_begin) := goodIn_app (goodIn_of _ (by decide +kernel)) ggX8_traders_X1_begin
set_option maxRecDepth 20000 in
theorem ggX8_traders_X1_meet : GoodIn wsX8_traders wsX1_meet := goodIn_r _ [130, 131, 132, 133, 102, 134, 135, 118, 136, 137, 138, 139, 140, 112, 113, 141, 142, 143, 144, 104, 105, 124, 125, 126, 145, 146, 147, 148, 149, 175, 176, 177, 178, 179, 180, 181] (by decide +kernel) (by decide +kernel)
set_option maxRecDepth 20000 in
theorem gX8_traders_X1_meet : GoodIn wsX8_traders (wsV RX8 122 RX1 yX1_meet wsX1_meet) := goodIn_app (goodIn_of _ (by decide +kernel)) ggX8_traders_X1_meet
set_option maxRecDepth 20000 in
theorem ggX8_traders_X1_allSaying : GoodIn wsX8_traders wsX1_allSaying := goodIn_r _ [153, 113, 112, 154, 155, 156, 102, 157, 118, 124, 125, 126, 175, 176, 177, 178, 179, 180, 181] (by decide +kernel) (by decide +kernel)
set_option maxRecDepth 20000 in
theorem gX8_traders_X1_allSaying : GoodIn wsX8_traders (wsV RX8 129 RX1 yX1_allSaying wsX1_allSaying) := goodIn_app (goodIn_of _ (by decide +kernel)) ggX8_traders_X1_allSaying
theorem dX8_traders_0 : decode cX8_traders 0 = .ok (.iload_n 1, 1) := by decide +kernel
theorem dX8_traders_1 : decode cX8_traders 1 = .ok (.invokestatic 78, 3) := by decide +kernel
theorem dX8_traders_4 : decode cX8_traders 4 = .ok (.ifCond .eq 25, 3) := by decide +kernel
theorem dX8_traders_7 : decode cX8_traders 7 = .ok (.iload_n 2, 1) := by decide +kernel
theorem dX8_traders_8 : decode cX8_traders 8 = .ok (.invokestatic 116, 3) := by decide +kernel
theorem dX8_traders_11 : decode cX8_traders 11 = .ok (.ifCond .eq 18, 3) := by decide +kernel
theorem dX8_traders_14 : decode cX8_traders 14 = .ok (.iload_n 3, 1) := by decide +kernel
theorem dX8_traders_15 : decode cX8_traders 15 = .ok (.invokestatic 74, 3) := by decide +kernel
theorem dX8_traders_18 : decode cX8_traders 18 = .ok (.ifCond .eq 11, 3) := by decide +kernel
theorem dX8_traders_21 : decode cX8_traders 21 = .ok (.iload 4, 2) := by decide +kernel
theorem dX8_traders_23 : decode cX8_traders 23 = .ok (.invokestatic 133, 3) := by decide +kernel
theorem dX8_traders_26 : decode cX8_traders 26 = .ok (.ifCond .ne 5, 3) := by decide +kernel
theorem dX8_traders_29 : decode cX8_traders 29 = .ok (.iconst (-1), 1) := by decide +kernel
theorem dX8_traders_30 : decode cX8_traders 30 = .ok (.ireturn, 1) := by decide +kernel
theorem dX8_traders_31 : decode cX8_traders 31 = .ok (.aload_n 0, 1) := by decide +kernel
theorem dX8_traders_32 : decode cX8_traders 32 = .ok (.getfield 49, 3) := by decide +kernel
theorem dX8_traders_35 : decode cX8_traders 35 = .ok (.iload_n 1, 1) := by decide +kernel
theorem dX8_traders_36 : decode cX8_traders 36 = .ok (.invokevirtual 99, 3) := by decide +kernel
theorem dX8_traders_39 : decode cX8_traders 39 = .ok (.ifCond .ne 6, 3) := by decide +kernel
theorem dX8_traders_42 : decode cX8_traders 42 = .ok (.bipush (-2), 2) := by decide +kernel
theorem dX8_traders_44 : decode cX8_traders 44 = .ok (.ireturn, 1) := by decide +kernel
theorem dX8_traders_45 : decode cX8_traders 45 = .ok (.aload_n 0, 1) := by decide +kernel
theorem dX8_traders_46 : decode cX8_traders 46 = .ok (.iload_n 1, 1) := by decide +kernel
theorem dX8_traders_47 : decode cX8_traders 47 = .ok (.invokevirtual 148, 3) := by decide +kernel
theorem dX8_traders_50 : decode cX8_traders 50 = .ok (.iconst 1, 1) := by decide +kernel
theorem dX8_traders_51 : decode cX8_traders 51 = .ok (.istore 5, 2) := by decide +kernel
theorem dX8_traders_53 : decode cX8_traders 53 = .ok (.iload 5, 2) := by decide +kernel
theorem dX8_traders_55 : decode cX8_traders 55 = .ok (.bipush 8, 2) := by decide +kernel
theorem dX8_traders_57 : decode cX8_traders 57 = .ok (.if_icmp .gt 59, 3) := by decide +kernel
theorem dX8_traders_60 : decode cX8_traders 60 = .ok (.aload_n 0, 1) := by decide +kernel
theorem dX8_traders_61 : decode cX8_traders 61 = .ok (.getfield 35, 3) := by decide +kernel
theorem dX8_traders_64 : decode cX8_traders 64 = .ok (.iload 5, 2) := by decide +kernel
theorem dX8_traders_66 : decode cX8_traders 66 = .ok (.iload 5, 2) := by decide +kernel
theorem dX8_traders_68 : decode cX8_traders 68 = .ok (.invokevirtual 151, 3) := by decide +kernel
theorem dX8_traders_71 : decode cX8_traders 71 = .ok (.aload_n 0, 1) := by decide +kernel
theorem dX8_traders_72 : decode cX8_traders 72 = .ok (.getfield 35, 3) := by decide +kernel
theorem dX8_traders_75 : decode cX8_traders 75 = .ok (.iconst 0, 1) := by decide +kernel
theorem dX8_traders_76 : decode cX8_traders 76 = .ok (.iconst 0, 1) := by decide +kernel
theorem dX8_traders_77 : decode cX8_traders 77 = .ok (.invokevirtual 155, 3) := by decide +kernel
theorem dX8_traders_80 : decode cX8_traders 80 = .ok (.aload_n 0, 1) := by decide +kernel
theorem dX8_traders_81 : decode cX8_traders 81 = .ok (.getfield 35, 3) := by decide +kernel
theorem dX8_traders_84 : decode cX8_traders 84 = .ok (.iload_n 2, 1) := by decide +kernel
theorem dX8_traders_85 : decode cX8_traders 85 = .ok (.invokevirtual 122, 3) := by decide +kernel
theorem dX8_traders_88 : decode cX8_traders 88 = .ok (.aload_n 0, 1) := by decide +kernel
theorem dX8_traders_89 : decode cX8_traders 89 = .ok (.getfield 35, 3) := by decide +kernel
theorem dX8_traders_92 : decode cX8_traders 92 = .ok (.iload_n 3, 1) := by decide +kernel
theorem dX8_traders_93 : decode cX8_traders 93 = .ok (.invokevirtual 129, 3) := by decide +kernel
theorem dX8_traders_96 : decode cX8_traders 96 = .ok (.iload 4, 2) := by decide +kernel
theorem dX8_traders_98 : decode cX8_traders 98 = .ok (.i2l, 1) := by decide +kernel
theorem dX8_traders_99 : decode cX8_traders 99 = .ok (.ldc2_w 136, 3) := by decide +kernel
theorem dX8_traders_102 : decode cX8_traders 102 = .ok (.lmul, 1) := by decide +kernel
theorem dX8_traders_103 : decode cX8_traders 103 = .ok (.lcmp, 1) := by decide +kernel
theorem dX8_traders_104 : decode cX8_traders 104 = .ok (.ifCond .lt 6, 3) := by decide +kernel
theorem dX8_traders_107 : decode cX8_traders 107 = .ok (.iload 5, 2) := by decide +kernel
theorem dX8_traders_109 : decode cX8_traders 109 = .ok (.ireturn, 1) := by decide +kernel
theorem dX8_traders_110 : decode cX8_traders 110 = .ok (.iinc 5 1, 3) := by decide +kernel
theorem dX8_traders_113 : decode cX8_traders 113 = .ok (.goto (-60), 3) := by decide +kernel
theorem dX8_traders_116 : decode cX8_traders 116 = .ok (.bipush (-4), 2) := by decide +kernel
theorem dX8_traders_118 : decode cX8_traders 118 = .ok (.ireturn, 1) := by decide +kernel
set_option maxRecDepth 20000 in
theorem ggX8_ready_X8_isMeaning : GoodIn wsX8_ready wsX8_isMeaning := goodIn_r _ [8] (by decide +kernel) (by decide +kernel)
set_option maxRecDepth 20000 in
theorem gX8_ready_X8_isMeaning : GoodIn wsX8_ready (va_wsS RX8 78 yX8_isMeaning wsX8_isMeaning) := goodIn_app (goodIn_of _ (by decide +kernel)) ggX8_ready_X8_isMeaning
set_option maxRecDepth 20000 in
theorem ggX8_ready_X8_isMeetings : GoodIn wsX8_ready wsX8_isMeetings := goodIn_r _ [11] (by decide +kernel) (by decide +kernel)
set_option maxRecDepth 20000 in
theorem gX8_ready_X8_isMeetings : GoodIn wsX8_ready (va_wsS RX8 116 yX8_isMeetings wsX8_isMeetings) := goodIn_app (goodIn_of _ (by decide +kernel)) ggX8_ready_X8_isMeetings
set_option maxRecDepth 20000 in
theorem ggX8_ready_X8_isPeople : GoodIn wsX8_ready wsX8_isPeople := goodIn_r _ [14] (by decide +kernel) (by decide +kernel)
set_option maxRecDepth 20000 in
theorem gX8_ready_X8_isPeople : GoodIn wsX8_ready (va_wsS RX8 74 yX8_isPeople wsX8_isPeople) := goodIn_app (goodIn_of _ (by decide +kernel)) ggX8_ready_X8_isPeople
set_option maxRecDepth 20000 in
theorem ggX8_ready_X8_isHundredths : GoodIn wsX8_ready wsX8_isHundredths := goodIn_r _ [17] (by decide +kernel) (by decide +kernel)
set_option maxRecDepth 20000 in
theorem gX8_ready_X8_isHundredths : GoodIn wsX8_ready (va_wsS RX8 133 yX8_isHundredths wsX8_isHundredths) := goodIn_app (goodIn_of _ (by decide +kernel)) ggX8_ready_X8_isHundredths
set_option maxRecDepth 20000 in
theorem ggX8_ready_X0_isTold : GoodIn wsX8_ready wsX0_isTold := goodIn_r _ [22, 23, 24, 25, 21, 26, 27, 28, 29, 30, 168, 169, 170, 171, 172, 173, 174, 175, 176] (by decide +kernel) (by decide +kernel)
set_option maxRecDepth 20000 in
theorem gX8_ready_X0_isTold : GoodIn wsX8_ready (wsV RX8 99 RX0 yX0_isTold wsX0_isTold) := goodIn_app (goodIn_of _ (by decide +kernel)) ggX8_ready_X0_isTold
set_option maxRecDepth 20000 in
theorem ggX8_ready_X8_isAlike : GoodIn wsX8_ready wsX8_isAlike := goodIn_r _ [34, 1, 35, 36, 37, 7, 38, 39, 40, 24, 25, 21, 26, 27, 28, 29, 30, 41, 42, 43, 44, 45, 46, 47, 48, 49, 50, 51, 52, 53, 54, 55, 56, 57, 58, 59, 60, 61, 62, 63, 64, 65, 66, 67, 68, 69, 70, 71, 72, 73, 74, 75, 76, 77, 78, 79, 80, 81, 82, 83, 84, 85, 161, 162, 163, 164, 165, 166, 167, 168, 169, 170, 171, 172, 173, 174, 175, 176, 177] (by decide +kernel) (by decide +kernel)
set_option maxRecDepth 20000 in
theorem gX8_ready_X8_isAlike : GoodIn wsX8_ready (wsV RX8 158 RX8 yX8_isAlike wsX8_isAlike) := goodIn_app (goodIn_of _ (by decide +kernel)) ggX8_ready_X8_isAlike
set_option maxRecDepth 20000 in
theorem ggX8_ready_X0_tradersOf : GoodIn wsX8_ready wsX0_tradersOf := goodIn_r _ [89, 90, 168, 169, 170, 171, 172, 173, 174, 175, 176] (by decide +kernel) (by decide +kernel)
set_option maxRecDepth 20000 in
theorem gX8_ready_X0_tradersOf : GoodIn wsX8_ready (wsV RX8 161 RX0 yX0_tradersOf wsX0_tradersOf) := goodIn_app (goodIn_of _ (by decide +kernel)) ggX8_ready_X0_tradersOf
set_option maxRecDepth 20000 in
theorem ggX8_ready_X1_gather : GoodIn wsX8_ready wsX1_gather := goodIn_r _ [95, 96, 77, 69, 78, 97, 68, 70, 98, 99, 178, 179, 180, 181, 182, 183, 184] (by decide +kernel) (by decide +kernel)
set_option maxRecDepth 20000 in
theorem gX8_ready_X1_gather : GoodIn wsX8_ready (wsV RX8 151 RX1 yX1_gather wsX1_gather) := goodIn_app (goodIn_of _ (by decide +kernel)) ggX8_ready_X1_gather
set_option maxRecDepth 20000 in
theorem ggX8_ready_X0_speaksOfTen : GoodIn wsX8_ready wsX0_speaksOfTen := goodIn_r _ [103, 104, 168, 169, 170, 171, 172, 173, 174, 175, 176] (by decide +kernel) (by decide +kernel)
set_option maxRecDepth 20000 in
theorem gX8_ready_X0_speaksOfTen : GoodIn wsX8_ready (wsV RX8 164 RX0 yX0_speaksOfTen wsX0_speaksOfTen) := goodIn_app (goodIn_of _ (by decide +kernel)) ggX8_ready_X0_speaksOfTen
set_option maxRecDepth 20000 in
theorem ggX8_ready_X1_habits : GoodIn wsX8_ready wsX1_habits := goodIn_r _ [108, 109, 110, 178, 179, 180, 181, 182, 183, 184] (by decide +kernel) (by decide +kernel)
set_option maxRecDepth 20000 in
theorem gX8_ready_X1_habits : GoodIn wsX8_ready (wsV RX8 167 RX1 yX1_habits wsX1_habits) := goodIn_app (goodIn_of _ (by decide +kernel)) ggX8_ready_X1_habits
set_option maxRecDepth 20000 in
theorem ggX8_ready_X5_of : GoodIn wsX8_ready wsX5_of := goodIn_r _ [115, 116, 185, 186, 187] (by decide +kernel) (by decide +kernel)
set_option maxRecDepth 20000 in
theorem gX8_ready_X5_of : GoodIn wsX8_ready (wsV RX8 105 RX5 yX5_of wsX5_of) := goodIn_app (goodIn_of _ (by decide +kernel)) ggX8_ready_X5_of
set_option maxRecDepth 20000 in
theorem ggX8_ready_X1_begin : GoodIn wsX8_ready wsX1_begin := goodIn_r _ [120, 121, 122, 123, 124, 125, 126, 127, 128, 94, 129, 178, 179, 180, 181, 182, 183, 184] (by decide +kernel) (by decide +kernel)
set_option maxRecDepth 20000 in
theorem gX8_ready_X1_begin : GoodIn wsX8_ready (wsV RX8 155 RX1 yX1_begin wsX1_begin) := goodIn_app (goodIn_of _ (by decide +kernel)) ggX8_ready_X1_begin
set_option maxRecDepth 20000 in
theorem ggX8_ready_X1_meet : GoodIn wsX8_ready wsX1_meet := goodIn_r _ [133, 134, 135, 136, 94, 137, 138, 121, 139, 140, 141, 142, 143, 98, 99, 144, 145, 146, 147, 109, 110, 127, 128, 129, 148, 149, 150, 151, 152, 178, 179, 180, 181, 182, 183, 184] (by decide +kernel) (by decide +kernel)
set_option maxRecDepth 20000 in
theorem gX8_ready_X1_meet : GoodIn wsX8_ready (wsV RX8 122 RX1 yX1_meet wsX1_meet) := goodIn_app (goodIn_of _ (by decide +kernel)) ggX8_ready_X1_meet
set_option maxRecDepth 20000 in
theorem ggX8_ready_X1_allSaying : GoodIn wsX8_ready wsX1_allSaying := goodIn_r _ [156, 99, 98, 157, 158, 159, 94, 160, 121, 127, 128, 129, 178, 179, 180, 181, 182, 183, 184] (by decide +kernel) (by decide +kernel)
set_option maxRecDepth 20000 in
theorem gX8_ready_X1_allSaying : GoodIn wsX8_ready (wsV RX8 129 RX1 yX1_allSaying wsX1_allSaying) := goodIn_app (goodIn_of _ (by decide +kernel)) ggX8_ready_X1_allSaying
theorem dX8_ready_0 : decode cX8_ready 0 = .ok (.iload_n 1, 1) := by decide +kernel
theorem dX8_ready_1 : decode cX8_ready 1 = .ok (.invokestatic 78, 3) := by decide +kernel
theorem dX8_ready_4 : decode cX8_ready 4 = .ok (.ifCond .eq 25, 3) := by decide +kernel
theorem dX8_ready_7 : decode cX8_ready 7 = .ok (.iload_n 2, 1) := by decide +kernel
theorem dX8_ready_8 : decode cX8_ready 8 = .ok (.invokestatic 116, 3) := by decide +kernel
theorem dX8_ready_11 : decode cX8_ready 11 = .ok (.ifCond .eq 18, 3) := by decide +kernel
theorem dX8_ready_14 : decode cX8_ready 14 = .ok (.iload_n 3, 1) := by decide +kernel
theorem dX8_ready_15 : decode cX8_ready 15 = .ok (.invokestatic 74, 3) := by decide +kernel
theorem dX8_ready_18 : decode cX8_ready 18 = .ok (.ifCond .eq 11, 3) := by decide +kernel
theorem dX8_ready_21 : decode cX8_ready 21 = .ok (.iload 4, 2) := by decide +kernel
theorem dX8_ready_23 : decode cX8_ready 23 = .ok (.invokestatic 133, 3) := by decide +kernel
theorem dX8_ready_26 : decode cX8_ready 26 = .ok (.ifCond .ne 5, 3) := by decide +kernel
theorem dX8_ready_29 : decode cX8_ready 29 = .ok (.iconst (-1), 1) := by decide +kernel
theorem dX8_ready_30 : decode cX8_ready 30 = .ok (.ireturn, 1) := by decide +kernel
theorem dX8_ready_31 : decode cX8_ready 31 = .ok (.aload_n 0, 1) := by decide +kernel
theorem dX8_ready_32 : decode cX8_ready 32 = .ok (.getfield 49, 3) := by decide +kernel
theorem dX8_ready_35 : decode cX8_ready 35 = .ok (.iload_n 1, 1) := by decide +kernel
theorem dX8_ready_36 : decode cX8_ready 36 = .ok (.invokevirtual 99, 3) := by decide +kernel
theorem dX8_ready_39 : decode cX8_ready 39 = .ok (.ifCond .ne 6, 3) := by decide +kernel
theorem dX8_ready_42 : decode cX8_ready 42 = .ok (.bipush (-2), 2) := by decide +kernel
theorem dX8_ready_44 : decode cX8_ready 44 = .ok (.ireturn, 1) := by decide +kernel
theorem dX8_ready_45 : decode cX8_ready 45 = .ok (.aload_n 0, 1) := by decide +kernel
theorem dX8_ready_46 : decode cX8_ready 46 = .ok (.iload_n 1, 1) := by decide +kernel
theorem dX8_ready_47 : decode cX8_ready 47 = .ok (.invokevirtual 158, 3) := by decide +kernel
theorem dX8_ready_50 : decode cX8_ready 50 = .ok (.istore 5, 2) := by decide +kernel
theorem dX8_ready_52 : decode cX8_ready 52 = .ok (.aload_n 0, 1) := by decide +kernel
theorem dX8_ready_53 : decode cX8_ready 53 = .ok (.getfield 35, 3) := by decide +kernel
theorem dX8_ready_56 : decode cX8_ready 56 = .ok (.aload_n 0, 1) := by decide +kernel
theorem dX8_ready_57 : decode cX8_ready 57 = .ok (.getfield 49, 3) := by decide +kernel
theorem dX8_ready_60 : decode cX8_ready 60 = .ok (.iconst 0, 1) := by decide +kernel
theorem dX8_ready_61 : decode cX8_ready 61 = .ok (.invokevirtual 161, 3) := by decide +kernel
theorem dX8_ready_64 : decode cX8_ready 64 = .ok (.aload_n 0, 1) := by decide +kernel
theorem dX8_ready_65 : decode cX8_ready 65 = .ok (.getfield 49, 3) := by decide +kernel
theorem dX8_ready_68 : decode cX8_ready 68 = .ok (.iconst 1, 1) := by decide +kernel
theorem dX8_ready_69 : decode cX8_ready 69 = .ok (.invokevirtual 161, 3) := by decide +kernel
theorem dX8_ready_72 : decode cX8_ready 72 = .ok (.invokevirtual 151, 3) := by decide +kernel
theorem dX8_ready_75 : decode cX8_ready 75 = .ok (.iconst 0, 1) := by decide +kernel
theorem dX8_ready_76 : decode cX8_ready 76 = .ok (.istore 6, 2) := by decide +kernel
theorem dX8_ready_78 : decode cX8_ready 78 = .ok (.iload 6, 2) := by decide +kernel
theorem dX8_ready_80 : decode cX8_ready 80 = .ok (.bipush 10, 2) := by decide +kernel
theorem dX8_ready_82 : decode cX8_ready 82 = .ok (.if_icmp .gt 95, 3) := by decide +kernel
theorem dX8_ready_85 : decode cX8_ready 85 = .ok (.iload 5, 2) := by decide +kernel
theorem dX8_ready_87 : decode cX8_ready 87 = .ok (.ifCond .eq 7, 3) := by decide +kernel
theorem dX8_ready_90 : decode cX8_ready 90 = .ok (.iconst 0, 1) := by decide +kernel
theorem dX8_ready_91 : decode cX8_ready 91 = .ok (.goto 5, 3) := by decide +kernel
theorem dX8_ready_94 : decode cX8_ready 94 = .ok (.iload 6, 2) := by decide +kernel
theorem dX8_ready_96 : decode cX8_ready 96 = .ok (.istore 7, 2) := by decide +kernel
theorem dX8_ready_98 : decode cX8_ready 98 = .ok (.aload_n 0, 1) := by decide +kernel
theorem dX8_ready_99 : decode cX8_ready 99 = .ok (.getfield 35, 3) := by decide +kernel
theorem dX8_ready_102 : decode cX8_ready 102 = .ok (.aload_n 0, 1) := by decide +kernel
theorem dX8_ready_103 : decode cX8_ready 103 = .ok (.getfield 49, 3) := by decide +kernel
theorem dX8_ready_106 : decode cX8_ready 106 = .ok (.invokevirtual 164, 3) := by decide +kernel
theorem dX8_ready_109 : decode cX8_ready 109 = .ok (.iload 7, 2) := by decide +kernel
theorem dX8_ready_111 : decode cX8_ready 111 = .ok (.iload 7, 2) := by decide +kernel
theorem dX8_ready_113 : decode cX8_ready 113 = .ok (.invokevirtual 167, 3) := by decide +kernel
theorem dX8_ready_116 : decode cX8_ready 116 = .ok (.aload_n 0, 1) := by decide +kernel
theorem dX8_ready_117 : decode cX8_ready 117 = .ok (.getfield 35, 3) := by decide +kernel
theorem dX8_ready_120 : decode cX8_ready 120 = .ok (.aload_n 0, 1) := by decide +kernel
theorem dX8_ready_121 : decode cX8_ready 121 = .ok (.getfield 28, 3) := by decide +kernel
theorem dX8_ready_124 : decode cX8_ready 124 = .ok (.iload_n 1, 1) := by decide +kernel
theorem dX8_ready_125 : decode cX8_ready 125 = .ok (.iconst 0, 1) := by decide +kernel
theorem dX8_ready_126 : decode cX8_ready 126 = .ok (.invokevirtual 105, 3) := by decide +kernel
theorem dX8_ready_129 : decode cX8_ready 129 = .ok (.aload_n 0, 1) := by decide +kernel
theorem dX8_ready_130 : decode cX8_ready 130 = .ok (.getfield 28, 3) := by decide +kernel
theorem dX8_ready_133 : decode cX8_ready 133 = .ok (.iload_n 1, 1) := by decide +kernel
theorem dX8_ready_134 : decode cX8_ready 134 = .ok (.iconst 1, 1) := by decide +kernel
theorem dX8_ready_135 : decode cX8_ready 135 = .ok (.invokevirtual 105, 3) := by decide +kernel
theorem dX8_ready_138 : decode cX8_ready 138 = .ok (.invokevirtual 155, 3) := by decide +kernel
theorem dX8_ready_141 : decode cX8_ready 141 = .ok (.aload_n 0, 1) := by decide +kernel
theorem dX8_ready_142 : decode cX8_ready 142 = .ok (.getfield 35, 3) := by decide +kernel
theorem dX8_ready_145 : decode cX8_ready 145 = .ok (.iload_n 2, 1) := by decide +kernel
theorem dX8_ready_146 : decode cX8_ready 146 = .ok (.invokevirtual 122, 3) := by decide +kernel
theorem dX8_ready_149 : decode cX8_ready 149 = .ok (.aload_n 0, 1) := by decide +kernel
theorem dX8_ready_150 : decode cX8_ready 150 = .ok (.getfield 35, 3) := by decide +kernel
theorem dX8_ready_153 : decode cX8_ready 153 = .ok (.iload_n 3, 1) := by decide +kernel
theorem dX8_ready_154 : decode cX8_ready 154 = .ok (.invokevirtual 129, 3) := by decide +kernel
theorem dX8_ready_157 : decode cX8_ready 157 = .ok (.iload 4, 2) := by decide +kernel
theorem dX8_ready_159 : decode cX8_ready 159 = .ok (.i2l, 1) := by decide +kernel
theorem dX8_ready_160 : decode cX8_ready 160 = .ok (.ldc2_w 136, 3) := by decide +kernel
theorem dX8_ready_163 : decode cX8_ready 163 = .ok (.lmul, 1) := by decide +kernel
theorem dX8_ready_164 : decode cX8_ready 164 = .ok (.lcmp, 1) := by decide +kernel
theorem dX8_ready_165 : decode cX8_ready 165 = .ok (.ifCond .lt 6, 3) := by decide +kernel
theorem dX8_ready_168 : decode cX8_ready 168 = .ok (.iload 6, 2) := by decide +kernel
theorem dX8_ready_170 : decode cX8_ready 170 = .ok (.ireturn, 1) := by decide +kernel
theorem dX8_ready_171 : decode cX8_ready 171 = .ok (.iinc 6 1, 3) := by decide +kernel
theorem dX8_ready_174 : decode cX8_ready 174 = .ok (.goto (-96), 3) := by decide +kernel
theorem dX8_ready_177 : decode cX8_ready 177 = .ok (.bipush (-4), 2) := by decide +kernel
theorem dX8_ready_179 : decode cX8_ready 179 = .ok (.ireturn, 1) := by decide +kernel
set_option maxRecDepth 20000 in
theorem ggX8_summer_X0_isTold : GoodIn wsX8_summer wsX0_isTold := goodIn_r _ [6, 7, 8, 9, 5, 10, 11, 12, 13, 14, 127, 128, 129, 130, 131, 132, 133, 134, 135] (by decide +kernel) (by decide +kernel)
set_option maxRecDepth 20000 in
theorem gX8_summer_X0_isTold : GoodIn wsX8_summer (wsV RX8 99 RX0 yX0_isTold wsX0_isTold) := goodIn_app (goodIn_of _ (by decide +kernel)) ggX8_summer_X0_isTold
set_option maxRecDepth 20000 in
theorem ggX8_summer_X8_isAlike : GoodIn wsX8_summer wsX8_isAlike := goodIn_r _ [19, 1, 20, 21, 22, 18, 23, 24, 25, 8, 9, 5, 10, 11, 12, 13, 14, 26, 27, 28, 29, 30, 31, 32, 33, 34, 35, 36, 37, 38, 39, 40, 41, 42, 43, 44, 45, 46, 47, 48, 49, 50, 51, 52, 53, 54, 55, 56, 57, 58, 59, 60, 61, 62, 63, 64, 65, 66, 67, 68, 69, 70, 120, 121, 122, 123, 124, 125, 126, 127, 128, 129, 130, 131, 132, 133, 134, 135, 136] (by decide +kernel) (by decide +kernel)
set_option maxRecDepth 20000 in
theorem gX8_summer_X8_isAlike : GoodIn wsX8_summer (wsV RX8 158 RX8 yX8_isAlike wsX8_isAlike) := goodIn_app (goodIn_of _ (by decide +kernel)) ggX8_summer_X8_isAlike
set_option maxRecDepth 20000 in
theorem ggX8_summer_X8_meetByDraw : GoodIn wsX8_summer wsX8_meetByDraw := goodIn_r _ [74, 1, 75, 76, 77, 18, 78, 79, 80, 81, 82, 83, 84, 85, 86, 5, 87, 88, 89, 90, 91, 92, 93, 94, 95, 96, 97, 98, 99, 100, 101, 102, 103, 104, 105, 106, 107, 108, 120, 121, 122, 123, 124, 125, 126, 127, 128, 129, 130, 131, 132, 133, 134, 135, 137, 138, 139] (by decide +kernel) (by decide +kernel)
set_option maxRecDepth 20000 in
theorem gX8_summer_X8_meetByDraw : GoodIn wsX8_summer (wsV RX8 170 RX8 yX8_meetByDraw wsX8_meetByDraw) := goodIn_app (goodIn_of _ (by decide +kernel)) ggX8_summer_X8_meetByDraw
set_option maxRecDepth 20000 in
theorem ggX8_summer_X8_tongueBits : GoodIn wsX8_summer wsX8_tongueBits := goodIn_r _ [112, 1, 75, 84, 85, 86, 5, 87, 88, 2, 3, 4, 6, 7, 8, 9, 10, 11, 12, 13, 14, 89, 90, 91, 92, 93, 94, 15, 16, 17, 18, 19, 20, 21, 22, 23, 24, 25, 26, 27, 28, 29, 30, 31, 32, 33, 34, 35, 36, 37, 38, 39, 40, 41, 42, 43, 44, 45, 46, 47, 48, 49, 50, 51, 52, 53, 54, 55, 56, 57, 58, 59, 60, 61, 62, 63, 64, 65, 66, 67, 68, 69, 70, 120, 121, 122, 123, 124, 125, 126, 127, 128, 129, 130, 131, 132, 133, 134, 135, 137, 138, 139, 136] (by decide +kernel) (by decide +kernel)
set_option maxRecDepth 20000 in
theorem gX8_summer_X8_tongueBits : GoodIn wsX8_summer (wsV RX8 173 RX8 yX8_tongueBits wsX8_tongueBits) := goodIn_app (goodIn_of _ (by decide +kernel)) ggX8_summer_X8_tongueBits
set_option maxRecDepth 20000 in
theorem ggX8_summer_J6_bitCount_0f7a4 : GoodIn wsX8_summer wsJ6_bitCount_0f7a4 := goodIn_r _ [116, 117, 118, 119] (by decide +kernel) (by decide +kernel)
set_option maxRecDepth 20000 in
theorem gX8_summer_J6_bitCount_0f7a4 : GoodIn wsX8_summer (va_wsS RX8 176 yJ6_bitCount_0f7a4 wsJ6_bitCount_0f7a4) := goodIn_app (goodIn_of _ (by decide +kernel)) ggX8_summer_J6_bitCount_0f7a4
theorem dX8_summer_0 : decode cX8_summer 0 = .ok (.iload_n 1, 1) := by decide +kernel
theorem dX8_summer_1 : decode cX8_summer 1 = .ok (.ifCond .lt 21, 3) := by decide +kernel
theorem dX8_summer_4 : decode cX8_summer 4 = .ok (.iload_n 1, 1) := by decide +kernel
theorem dX8_summer_5 : decode cX8_summer 5 = .ok (.sipush 9999, 3) := by decide +kernel
theorem dX8_summer_8 : decode cX8_summer 8 = .ok (.if_icmp .gt 14, 3) := by decide +kernel
theorem dX8_summer_11 : decode cX8_summer 11 = .ok (.iload_n 2, 1) := by decide +kernel
theorem dX8_summer_12 : decode cX8_summer 12 = .ok (.iconst 1, 1) := by decide +kernel
theorem dX8_summer_13 : decode cX8_summer 13 = .ok (.if_icmp .lt 9, 3) := by decide +kernel
theorem dX8_summer_16 : decode cX8_summer 16 = .ok (.iload_n 2, 1) := by decide +kernel
theorem dX8_summer_17 : decode cX8_summer 17 = .ok (.bipush 99, 2) := by decide +kernel
theorem dX8_summer_19 : decode cX8_summer 19 = .ok (.if_icmp .le 5, 3) := by decide +kernel
theorem dX8_summer_22 : decode cX8_summer 22 = .ok (.iconst (-1), 1) := by decide +kernel
theorem dX8_summer_23 : decode cX8_summer 23 = .ok (.ireturn, 1) := by decide +kernel
theorem dX8_summer_24 : decode cX8_summer 24 = .ok (.iconst 0, 1) := by decide +kernel
theorem dX8_summer_25 : decode cX8_summer 25 = .ok (.istore_n 3, 1) := by decide +kernel
theorem dX8_summer_26 : decode cX8_summer 26 = .ok (.iload_n 3, 1) := by decide +kernel
theorem dX8_summer_27 : decode cX8_summer 27 = .ok (.bipush 8, 2) := by decide +kernel
theorem dX8_summer_29 : decode cX8_summer 29 = .ok (.if_icmp .ge 51, 3) := by decide +kernel
theorem dX8_summer_32 : decode cX8_summer 32 = .ok (.aload_n 0, 1) := by decide +kernel
theorem dX8_summer_33 : decode cX8_summer 33 = .ok (.getfield 49, 3) := by decide +kernel
theorem dX8_summer_36 : decode cX8_summer 36 = .ok (.iload_n 3, 1) := by decide +kernel
theorem dX8_summer_37 : decode cX8_summer 37 = .ok (.invokevirtual 99, 3) := by decide +kernel
theorem dX8_summer_40 : decode cX8_summer 40 = .ok (.ifCond .eq 34, 3) := by decide +kernel
theorem dX8_summer_43 : decode cX8_summer 43 = .ok (.aload_n 0, 1) := by decide +kernel
theorem dX8_summer_44 : decode cX8_summer 44 = .ok (.iload_n 3, 1) := by decide +kernel
theorem dX8_summer_45 : decode cX8_summer 45 = .ok (.invokevirtual 158, 3) := by decide +kernel
theorem dX8_summer_48 : decode cX8_summer 48 = .ok (.ifCond .ne 26, 3) := by decide +kernel
theorem dX8_summer_51 : decode cX8_summer 51 = .ok (.iconst 0, 1) := by decide +kernel
theorem dX8_summer_52 : decode cX8_summer 52 = .ok (.istore 4, 2) := by decide +kernel
theorem dX8_summer_54 : decode cX8_summer 54 = .ok (.iload 4, 2) := by decide +kernel
theorem dX8_summer_56 : decode cX8_summer 56 = .ok (.iload_n 2, 1) := by decide +kernel
theorem dX8_summer_57 : decode cX8_summer 57 = .ok (.if_icmp .ge 17, 3) := by decide +kernel
theorem dX8_summer_60 : decode cX8_summer 60 = .ok (.aload_n 0, 1) := by decide +kernel
theorem dX8_summer_61 : decode cX8_summer 61 = .ok (.iload_n 1, 1) := by decide +kernel
theorem dX8_summer_62 : decode cX8_summer 62 = .ok (.iload 4, 2) := by decide +kernel
theorem dX8_summer_64 : decode cX8_summer 64 = .ok (.iload_n 3, 1) := by decide +kernel
theorem dX8_summer_65 : decode cX8_summer 65 = .ok (.invokevirtual 170, 3) := by decide +kernel
theorem dX8_summer_68 : decode cX8_summer 68 = .ok (.iinc 4 1, 3) := by decide +kernel
theorem dX8_summer_71 : decode cX8_summer 71 = .ok (.goto (-17), 3) := by decide +kernel
theorem dX8_summer_74 : decode cX8_summer 74 = .ok (.iinc 3 1, 3) := by decide +kernel
theorem dX8_summer_77 : decode cX8_summer 77 = .ok (.goto (-51), 3) := by decide +kernel
theorem dX8_summer_80 : decode cX8_summer 80 = .ok (.aload_n 0, 1) := by decide +kernel
theorem dX8_summer_81 : decode cX8_summer 81 = .ok (.iconst 0, 1) := by decide +kernel
theorem dX8_summer_82 : decode cX8_summer 82 = .ok (.invokevirtual 173, 3) := by decide +kernel
theorem dX8_summer_85 : decode cX8_summer 85 = .ok (.aload_n 0, 1) := by decide +kernel
theorem dX8_summer_86 : decode cX8_summer 86 = .ok (.iconst 1, 1) := by decide +kernel
theorem dX8_summer_87 : decode cX8_summer 87 = .ok (.invokevirtual 173, 3) := by decide +kernel
theorem dX8_summer_90 : decode cX8_summer 90 = .ok (.ior, 1) := by decide +kernel
theorem dX8_summer_91 : decode cX8_summer 91 = .ok (.invokestatic 176, 3) := by decide +kernel
theorem dX8_summer_94 : decode cX8_summer 94 = .ok (.ireturn, 1) := by decide +kernel
set_option maxRecDepth 20000 in
theorem ggX8_tongue_X8_isPeople : GoodIn wsX8_tongue wsX8_isPeople := goodIn_r _ [4] (by decide +kernel) (by decide +kernel)
set_option maxRecDepth 20000 in
theorem gX8_tongue_X8_isPeople : GoodIn wsX8_tongue (va_wsS RX8 74 yX8_isPeople wsX8_isPeople) := goodIn_app (goodIn_of _ (by decide +kernel)) ggX8_tongue_X8_isPeople
set_option maxRecDepth 20000 in
theorem ggX8_tongue_X8_tongueBits : GoodIn wsX8_tongue wsX8_tongueBits := goodIn_r _ [8, 9, 10, 11, 12, 13, 14, 15, 16, 17, 18, 19, 20, 21, 22, 23, 24, 25, 26, 27, 28, 29, 30, 31, 32, 33, 34, 35, 36, 37, 3, 38, 39, 40, 41, 42, 43, 44, 45, 46, 47, 48, 49, 50, 51, 52, 53, 54, 55, 56, 57, 58, 59, 60, 61, 62, 63, 64, 65, 66, 67, 68, 69, 70, 71, 72, 73, 74, 75, 76, 77, 78, 79, 80, 81, 82, 83, 84, 85, 86, 87, 88, 89, 90, 91, 92, 93, 94, 95, 96, 97, 98, 99, 100, 101, 102, 103, 104, 105, 106, 107, 108, 109] (by decide +kernel) (by decide +kernel)
set_option maxRecDepth 20000 in
theorem gX8_tongue_X8_tongueBits : GoodIn wsX8_tongue (wsV RX8 173 RX8 yX8_tongueBits wsX8_tongueBits) := goodIn_app (goodIn_of _ (by decide +kernel)) ggX8_tongue_X8_tongueBits
theorem dX8_tongue_0 : decode cX8_tongue 0 = .ok (.iload_n 1, 1) := by decide +kernel
theorem dX8_tongue_1 : decode cX8_tongue 1 = .ok (.invokestatic 74, 3) := by decide +kernel
theorem dX8_tongue_4 : decode cX8_tongue 4 = .ok (.ifCond .eq 11, 3) := by decide +kernel
theorem dX8_tongue_7 : decode cX8_tongue 7 = .ok (.aload_n 0, 1) := by decide +kernel
theorem dX8_tongue_8 : decode cX8_tongue 8 = .ok (.iload_n 1, 1) := by decide +kernel
theorem dX8_tongue_9 : decode cX8_tongue 9 = .ok (.invokevirtual 173, 3) := by decide +kernel
theorem dX8_tongue_12 : decode cX8_tongue 12 = .ok (.goto 4, 3) := by decide +kernel
theorem dX8_tongue_15 : decode cX8_tongue 15 = .ok (.iconst (-1), 1) := by decide +kernel
theorem dX8_tongue_16 : decode cX8_tongue 16 = .ok (.ireturn, 1) := by decide +kernel
set_option maxRecDepth 20000 in
theorem ggX8_from_X8_isEar : GoodIn wsX8_from wsX8_isEar := goodIn_r _ [9] (by decide +kernel) (by decide +kernel)
set_option maxRecDepth 20000 in
theorem gX8_from_X8_isEar : GoodIn wsX8_from (va_wsS RX8 181 yX8_isEar wsX8_isEar) := goodIn_app (goodIn_of _ (by decide +kernel)) ggX8_from_X8_isEar
set_option maxRecDepth 20000 in
theorem ggX8_from_X8_isMeaning : GoodIn wsX8_from wsX8_isMeaning := goodIn_r _ [12] (by decide +kernel) (by decide +kernel)
set_option maxRecDepth 20000 in
theorem gX8_from_X8_isMeaning : GoodIn wsX8_from (va_wsS RX8 78 yX8_isMeaning wsX8_isMeaning) := goodIn_app (goodIn_of _ (by decide +kernel)) ggX8_from_X8_isMeaning
set_option maxRecDepth 20000 in
theorem ggX8_from_X0_heardBy : GoodIn wsX8_from wsX0_heardBy := goodIn_r _ [17, 18, 19, 20, 16, 21, 68, 69, 70, 71, 72, 73, 74, 75, 76] (by decide +kernel) (by decide +kernel)
set_option maxRecDepth 20000 in
theorem gX8_from_X0_heardBy : GoodIn wsX8_from (wsV RX8 184 RX0 yX0_heardBy wsX0_heardBy) := goodIn_app (goodIn_of _ (by decide +kernel)) ggX8_from_X0_heardBy
set_option maxRecDepth 20000 in
theorem ggX8_from_X0_wordOf : GoodIn wsX8_from wsX0_wordOf := goodIn_r _ [25, 26, 27, 28, 16, 29, 68, 69, 70, 71, 72, 73, 74, 75, 76] (by decide +kernel) (by decide +kernel)
set_option maxRecDepth 20000 in
theorem gX8_from_X0_wordOf : GoodIn wsX8_from (wsV RX8 81 RX0 yX0_wordOf wsX0_wordOf) := goodIn_app (goodIn_of _ (by decide +kernel)) ggX8_from_X0_wordOf
set_option maxRecDepth 20000 in
theorem ggX8_from_X8_likeOfWordThere : GoodIn wsX8_from wsX8_likeOfWordThere := goodIn_r _ [33, 34, 35, 36, 37, 38, 39, 40, 3, 4, 5, 41, 42, 43, 44, 45, 46, 47, 48, 49, 50, 51, 52, 53, 54, 55, 61, 62, 63, 64, 65, 66, 67, 77] (by decide +kernel) (by decide +kernel)
set_option maxRecDepth 20000 in
theorem gX8_from_X8_likeOfWordThere : GoodIn wsX8_from (wsV RX8 187 RX8 yX8_likeOfWordThere wsX8_likeOfWordThere) := goodIn_app (goodIn_of _ (by decide +kernel)) ggX8_from_X8_likeOfWordThere
set_option maxRecDepth 20000 in
theorem ggX8_from_X0_alikeFrom : GoodIn wsX8_from wsX0_alikeFrom := goodIn_r _ [59, 60, 68, 69, 70, 71, 72, 73, 74, 75, 76] (by decide +kernel) (by decide +kernel)
set_option maxRecDepth 20000 in
theorem gX8_from_X0_alikeFrom : GoodIn wsX8_from (wsV RX8 195 RX0 yX0_alikeFrom wsX0_alikeFrom) := goodIn_app (goodIn_of _ (by decide +kernel)) ggX8_from_X0_alikeFrom
theorem dX8_from_0 : decode cX8_from 0 = .ok (.iload_n 1, 1) := by decide +kernel
theorem dX8_from_1 : decode cX8_from 1 = .ok (.invokestatic 181, 3) := by decide +kernel
theorem dX8_from_4 : decode cX8_from 4 = .ok (.ifCond .eq 10, 3) := by decide +kernel
theorem dX8_from_7 : decode cX8_from 7 = .ok (.iload_n 2, 1) := by decide +kernel
theorem dX8_from_8 : decode cX8_from 8 = .ok (.invokestatic 78, 3) := by decide +kernel
theorem dX8_from_11 : decode cX8_from 11 = .ok (.ifCond .ne 5, 3) := by decide +kernel
theorem dX8_from_14 : decode cX8_from 14 = .ok (.iconst (-1), 1) := by decide +kernel
theorem dX8_from_15 : decode cX8_from 15 = .ok (.ireturn, 1) := by decide +kernel
theorem dX8_from_16 : decode cX8_from 16 = .ok (.aload_n 0, 1) := by decide +kernel
theorem dX8_from_17 : decode cX8_from 17 = .ok (.getfield 49, 3) := by decide +kernel
theorem dX8_from_20 : decode cX8_from 20 = .ok (.iload_n 1, 1) := by decide +kernel
theorem dX8_from_21 : decode cX8_from 21 = .ok (.iload_n 2, 1) := by decide +kernel
theorem dX8_from_22 : decode cX8_from 22 = .ok (.invokevirtual 184, 3) := by decide +kernel
theorem dX8_from_25 : decode cX8_from 25 = .ok (.istore_n 3, 1) := by decide +kernel
theorem dX8_from_26 : decode cX8_from 26 = .ok (.iload_n 3, 1) := by decide +kernel
theorem dX8_from_27 : decode cX8_from 27 = .ok (.ifCond .ne 6, 3) := by decide +kernel
theorem dX8_from_30 : decode cX8_from 30 = .ok (.bipush (-2), 2) := by decide +kernel
theorem dX8_from_32 : decode cX8_from 32 = .ok (.ireturn, 1) := by decide +kernel
theorem dX8_from_33 : decode cX8_from 33 = .ok (.aload_n 0, 1) := by decide +kernel
theorem dX8_from_34 : decode cX8_from 34 = .ok (.iload_n 3, 1) := by decide +kernel
theorem dX8_from_35 : decode cX8_from 35 = .ok (.aload_n 0, 1) := by decide +kernel
theorem dX8_from_36 : decode cX8_from 36 = .ok (.getfield 49, 3) := by decide +kernel
theorem dX8_from_39 : decode cX8_from 39 = .ok (.iconst 0, 1) := by decide +kernel
theorem dX8_from_40 : decode cX8_from 40 = .ok (.iload_n 2, 1) := by decide +kernel
theorem dX8_from_41 : decode cX8_from 41 = .ok (.invokevirtual 81, 3) := by decide +kernel
theorem dX8_from_44 : decode cX8_from 44 = .ok (.invokevirtual 187, 3) := by decide +kernel
theorem dX8_from_47 : decode cX8_from 47 = .ok (.istore 4, 2) := by decide +kernel
theorem dX8_from_49 : decode cX8_from 49 = .ok (.aload_n 0, 1) := by decide +kernel
theorem dX8_from_50 : decode cX8_from 50 = .ok (.iload_n 3, 1) := by decide +kernel
theorem dX8_from_51 : decode cX8_from 51 = .ok (.aload_n 0, 1) := by decide +kernel
theorem dX8_from_52 : decode cX8_from 52 = .ok (.getfield 49, 3) := by decide +kernel
theorem dX8_from_55 : decode cX8_from 55 = .ok (.iconst 1, 1) := by decide +kernel
theorem dX8_from_56 : decode cX8_from 56 = .ok (.iload_n 2, 1) := by decide +kernel
theorem dX8_from_57 : decode cX8_from 57 = .ok (.invokevirtual 81, 3) := by decide +kernel
theorem dX8_from_60 : decode cX8_from 60 = .ok (.invokevirtual 187, 3) := by decide +kernel
theorem dX8_from_63 : decode cX8_from 63 = .ok (.istore 5, 2) := by decide +kernel
theorem dX8_from_65 : decode cX8_from 65 = .ok (.iload 4, 2) := by decide +kernel
theorem dX8_from_67 : decode cX8_from 67 = .ok (.iload 5, 2) := by decide +kernel
theorem dX8_from_69 : decode cX8_from 69 = .ok (.invokestatic 190, 3) := by decide +kernel
theorem dX8_from_72 : decode cX8_from 72 = .ok (.aload_n 0, 1) := by decide +kernel
theorem dX8_from_73 : decode cX8_from 73 = .ok (.getfield 49, 3) := by decide +kernel
theorem dX8_from_76 : decode cX8_from 76 = .ok (.invokevirtual 195, 3) := by decide +kernel
theorem dX8_from_79 : decode cX8_from 79 = .ok (.if_icmp .ge 6, 3) := by decide +kernel
theorem dX8_from_82 : decode cX8_from 82 = .ok (.bipush (-4), 2) := by decide +kernel
theorem dX8_from_84 : decode cX8_from 84 = .ok (.ireturn, 1) := by decide +kernel
theorem dX8_from_85 : decode cX8_from 85 = .ok (.iload 4, 2) := by decide +kernel
theorem dX8_from_87 : decode cX8_from 87 = .ok (.iload 5, 2) := by decide +kernel
theorem dX8_from_89 : decode cX8_from 89 = .ok (.if_icmp .lt 7, 3) := by decide +kernel
theorem dX8_from_92 : decode cX8_from 92 = .ok (.iconst 0, 1) := by decide +kernel
theorem dX8_from_93 : decode cX8_from 93 = .ok (.goto 4, 3) := by decide +kernel
theorem dX8_from_96 : decode cX8_from 96 = .ok (.iconst 1, 1) := by decide +kernel
theorem dX8_from_97 : decode cX8_from 97 = .ok (.ireturn, 1) := by decide +kernel
set_option maxRecDepth 20000 in
theorem ggX8_chance_X8_isEar : GoodIn wsX8_chance wsX8_isEar := goodIn_r _ [6] (by decide +kernel) (by decide +kernel)
set_option maxRecDepth 20000 in
theorem gX8_chance_X8_isEar : GoodIn wsX8_chance (va_wsS RX8 181 yX8_isEar wsX8_isEar) := goodIn_app (goodIn_of _ (by decide +kernel)) ggX8_chance_X8_isEar
set_option maxRecDepth 20000 in
theorem ggX8_chance_X8_isPeople : GoodIn wsX8_chance wsX8_isPeople := goodIn_r _ [9] (by decide +kernel) (by decide +kernel)
set_option maxRecDepth 20000 in
theorem gX8_chance_X8_isPeople : GoodIn wsX8_chance (va_wsS RX8 74 yX8_isPeople wsX8_isPeople) := goodIn_app (goodIn_of _ (by decide +kernel)) ggX8_chance_X8_isPeople
set_option maxRecDepth 20000 in
theorem ggX8_chance_X0_heardBy : GoodIn wsX8_chance wsX0_heardBy := goodIn_r _ [14, 15, 16, 17, 13, 18, 63, 64, 65, 66, 67, 68, 69, 70, 71] (by decide +kernel) (by decide +kernel)
set_option maxRecDepth 20000 in
theorem gX8_chance_X0_heardBy : GoodIn wsX8_chance (wsV RX8 184 RX0 yX0_heardBy wsX0_heardBy) := goodIn_app (goodIn_of _ (by decide +kernel)) ggX8_chance_X0_heardBy
set_option maxRecDepth 20000 in
theorem ggX8_chance_X0_wordOf : GoodIn wsX8_chance wsX0_wordOf := goodIn_r _ [22, 23, 24, 25, 13, 26, 63, 64, 65, 66, 67, 68, 69, 70, 71] (by decide +kernel) (by decide +kernel)
set_option maxRecDepth 20000 in
theorem gX8_chance_X0_wordOf : GoodIn wsX8_chance (wsV RX8 81 RX0 yX0_wordOf wsX0_wordOf) := goodIn_app (goodIn_of _ (by decide +kernel)) ggX8_chance_X0_wordOf
set_option maxRecDepth 20000 in
theorem ggX8_chance_X3_likeness : GoodIn wsX8_chance wsX3_likeness := goodIn_r _ [31, 32, 33, 34, 35, 36, 37, 38, 39, 40, 41, 42, 30, 43, 44, 45, 46, 47, 48, 49, 50, 72] (by decide +kernel) (by decide +kernel)
set_option maxRecDepth 20000 in
theorem gX8_chance_X3_likeness : GoodIn wsX8_chance (wsV RX8 198 RX3 yX3_likeness wsX3_likeness) := goodIn_app (goodIn_of _ (by decide +kernel)) ggX8_chance_X3_likeness
set_option maxRecDepth 20000 in
theorem ggX8_chance_X0_alikeFrom : GoodIn wsX8_chance wsX0_alikeFrom := goodIn_r _ [54, 55, 63, 64, 65, 66, 67, 68, 69, 70, 71] (by decide +kernel) (by decide +kernel)
set_option maxRecDepth 20000 in
theorem gX8_chance_X0_alikeFrom : GoodIn wsX8_chance (wsV RX8 195 RX0 yX0_alikeFrom wsX0_alikeFrom) := goodIn_app (goodIn_of _ (by decide +kernel)) ggX8_chance_X0_alikeFrom
theorem dX8_chance_0 : decode cX8_chance 0 = .ok (.iload_n 1, 1) := by decide +kernel
theorem dX8_chance_1 : decode cX8_chance 1 = .ok (.invokestatic 181, 3) := by decide +kernel
theorem dX8_chance_4 : decode cX8_chance 4 = .ok (.ifCond .eq 19, 3) := by decide +kernel
theorem dX8_chance_7 : decode cX8_chance 7 = .ok (.iload_n 2, 1) := by decide +kernel
theorem dX8_chance_8 : decode cX8_chance 8 = .ok (.invokestatic 74, 3) := by decide +kernel
theorem dX8_chance_11 : decode cX8_chance 11 = .ok (.ifCond .eq 12, 3) := by decide +kernel
theorem dX8_chance_14 : decode cX8_chance 14 = .ok (.iload_n 3, 1) := by decide +kernel
theorem dX8_chance_15 : decode cX8_chance 15 = .ok (.ifCond .lt 8, 3) := by decide +kernel
theorem dX8_chance_18 : decode cX8_chance 18 = .ok (.iload_n 3, 1) := by decide +kernel
theorem dX8_chance_19 : decode cX8_chance 19 = .ok (.iconst 1, 1) := by decide +kernel
theorem dX8_chance_20 : decode cX8_chance 20 = .ok (.if_icmp .le 5, 3) := by decide +kernel
theorem dX8_chance_23 : decode cX8_chance 23 = .ok (.iconst (-1), 1) := by decide +kernel
theorem dX8_chance_24 : decode cX8_chance 24 = .ok (.ireturn, 1) := by decide +kernel
theorem dX8_chance_25 : decode cX8_chance 25 = .ok (.iconst 0, 1) := by decide +kernel
theorem dX8_chance_26 : decode cX8_chance 26 = .ok (.istore 4, 2) := by decide +kernel
theorem dX8_chance_28 : decode cX8_chance 28 = .ok (.iconst 0, 1) := by decide +kernel
theorem dX8_chance_29 : decode cX8_chance 29 = .ok (.istore 5, 2) := by decide +kernel
theorem dX8_chance_31 : decode cX8_chance 31 = .ok (.iconst 0, 1) := by decide +kernel
theorem dX8_chance_32 : decode cX8_chance 32 = .ok (.istore 6, 2) := by decide +kernel
theorem dX8_chance_34 : decode cX8_chance 34 = .ok (.iload 6, 2) := by decide +kernel
theorem dX8_chance_36 : decode cX8_chance 36 = .ok (.bipush 8, 2) := by decide +kernel
theorem dX8_chance_38 : decode cX8_chance 38 = .ok (.if_icmp .ge 93, 3) := by decide +kernel
theorem dX8_chance_41 : decode cX8_chance 41 = .ok (.iconst 0, 1) := by decide +kernel
theorem dX8_chance_42 : decode cX8_chance 42 = .ok (.istore 7, 2) := by decide +kernel
theorem dX8_chance_44 : decode cX8_chance 44 = .ok (.iload 7, 2) := by decide +kernel
theorem dX8_chance_46 : decode cX8_chance 46 = .ok (.bipush 8, 2) := by decide +kernel
theorem dX8_chance_48 : decode cX8_chance 48 = .ok (.if_icmp .ge 77, 3) := by decide +kernel
theorem dX8_chance_51 : decode cX8_chance 51 = .ok (.aload_n 0, 1) := by decide +kernel
theorem dX8_chance_52 : decode cX8_chance 52 = .ok (.getfield 49, 3) := by decide +kernel
theorem dX8_chance_55 : decode cX8_chance 55 = .ok (.iload_n 1, 1) := by decide +kernel
theorem dX8_chance_56 : decode cX8_chance 56 = .ok (.iload 6, 2) := by decide +kernel
theorem dX8_chance_58 : decode cX8_chance 58 = .ok (.invokevirtual 184, 3) := by decide +kernel
theorem dX8_chance_61 : decode cX8_chance 61 = .ok (.istore 8, 2) := by decide +kernel
theorem dX8_chance_63 : decode cX8_chance 63 = .ok (.aload_n 0, 1) := by decide +kernel
theorem dX8_chance_64 : decode cX8_chance 64 = .ok (.getfield 49, 3) := by decide +kernel
theorem dX8_chance_67 : decode cX8_chance 67 = .ok (.iload_n 2, 1) := by decide +kernel
theorem dX8_chance_68 : decode cX8_chance 68 = .ok (.iload 7, 2) := by decide +kernel
theorem dX8_chance_70 : decode cX8_chance 70 = .ok (.invokevirtual 81, 3) := by decide +kernel
theorem dX8_chance_73 : decode cX8_chance 73 = .ok (.istore 9, 2) := by decide +kernel
theorem dX8_chance_75 : decode cX8_chance 75 = .ok (.iload 6, 2) := by decide +kernel
theorem dX8_chance_77 : decode cX8_chance 77 = .ok (.iload 7, 2) := by decide +kernel
theorem dX8_chance_79 : decode cX8_chance 79 = .ok (.if_icmp .eq 40, 3) := by decide +kernel
theorem dX8_chance_82 : decode cX8_chance 82 = .ok (.iload 8, 2) := by decide +kernel
theorem dX8_chance_84 : decode cX8_chance 84 = .ok (.ifCond .eq 35, 3) := by decide +kernel
theorem dX8_chance_87 : decode cX8_chance 87 = .ok (.iload 9, 2) := by decide +kernel
theorem dX8_chance_89 : decode cX8_chance 89 = .ok (.ifCond .eq 30, 3) := by decide +kernel
theorem dX8_chance_92 : decode cX8_chance 92 = .ok (.iinc 5 1, 3) := by decide +kernel
theorem dX8_chance_95 : decode cX8_chance 95 = .ok (.aload_n 0, 1) := by decide +kernel
theorem dX8_chance_96 : decode cX8_chance 96 = .ok (.getfield 42, 3) := by decide +kernel
theorem dX8_chance_99 : decode cX8_chance 99 = .ok (.iload 8, 2) := by decide +kernel
theorem dX8_chance_101 : decode cX8_chance 101 = .ok (.iload 9, 2) := by decide +kernel
theorem dX8_chance_103 : decode cX8_chance 103 = .ok (.invokevirtual 198, 3) := by decide +kernel
theorem dX8_chance_106 : decode cX8_chance 106 = .ok (.aload_n 0, 1) := by decide +kernel
theorem dX8_chance_107 : decode cX8_chance 107 = .ok (.getfield 49, 3) := by decide +kernel
theorem dX8_chance_110 : decode cX8_chance 110 = .ok (.invokevirtual 195, 3) := by decide +kernel
theorem dX8_chance_113 : decode cX8_chance 113 = .ok (.if_icmp .lt 6, 3) := by decide +kernel
theorem dX8_chance_116 : decode cX8_chance 116 = .ok (.iinc 4 1, 3) := by decide +kernel
theorem dX8_chance_119 : decode cX8_chance 119 = .ok (.iinc 7 1, 3) := by decide +kernel
theorem dX8_chance_122 : decode cX8_chance 122 = .ok (.goto (-78), 3) := by decide +kernel
theorem dX8_chance_125 : decode cX8_chance 125 = .ok (.iinc 6 1, 3) := by decide +kernel
theorem dX8_chance_128 : decode cX8_chance 128 = .ok (.goto (-94), 3) := by decide +kernel
theorem dX8_chance_131 : decode cX8_chance 131 = .ok (.iload_n 3, 1) := by decide +kernel
theorem dX8_chance_132 : decode cX8_chance 132 = .ok (.ifCond .ne 8, 3) := by decide +kernel
theorem dX8_chance_135 : decode cX8_chance 135 = .ok (.iload 4, 2) := by decide +kernel
theorem dX8_chance_137 : decode cX8_chance 137 = .ok (.goto 5, 3) := by decide +kernel
theorem dX8_chance_140 : decode cX8_chance 140 = .ok (.iload 5, 2) := by decide +kernel
theorem dX8_chance_142 : decode cX8_chance 142 = .ok (.ireturn, 1) := by decide +kernel
set_option maxRecDepth 20000 in
theorem ggX8_joined_X8_isMeaning : GoodIn wsX8_joined wsX8_isMeaning := goodIn_r _ [5] (by decide +kernel) (by decide +kernel)
set_option maxRecDepth 20000 in
theorem gX8_joined_X8_isMeaning : GoodIn wsX8_joined (va_wsS RX8 78 yX8_isMeaning wsX8_isMeaning) := goodIn_app (goodIn_of _ (by decide +kernel)) ggX8_joined_X8_isMeaning
set_option maxRecDepth 20000 in
theorem ggX8_joined_X0_heardBy : GoodIn wsX8_joined wsX0_heardBy := goodIn_r _ [10, 11, 12, 13, 9, 14, 44, 45, 46, 47, 48, 49, 50, 51, 52] (by decide +kernel) (by decide +kernel)
set_option maxRecDepth 20000 in
theorem gX8_joined_X0_heardBy : GoodIn wsX8_joined (wsV RX8 184 RX0 yX0_heardBy wsX0_heardBy) := goodIn_app (goodIn_of _ (by decide +kernel)) ggX8_joined_X0_heardBy
set_option maxRecDepth 20000 in
theorem ggX8_joined_X8_apartFromOtherEars : GoodIn wsX8_joined wsX8_apartFromOtherEars := goodIn_r _ [18, 1, 19, 6, 7, 8, 9, 10, 11, 12, 13, 14, 20, 21, 22, 23, 24, 25, 26, 27, 28, 29, 30, 31, 32, 33, 34, 35, 36, 37, 38, 39, 40, 41, 42, 43, 44, 45, 46, 47, 48, 49, 50, 51, 52, 53] (by decide +kernel) (by decide +kernel)
set_option maxRecDepth 20000 in
theorem gX8_joined_X8_apartFromOtherEars : GoodIn wsX8_joined (wsV RX8 201 RX8 yX8_apartFromOtherEars wsX8_apartFromOtherEars) := goodIn_app (goodIn_of _ (by decide +kernel)) ggX8_joined_X8_apartFromOtherEars
theorem dX8_joined_0 : decode cX8_joined 0 = .ok (.iload_n 1, 1) := by decide +kernel
theorem dX8_joined_1 : decode cX8_joined 1 = .ok (.invokestatic 78, 3) := by decide +kernel
theorem dX8_joined_4 : decode cX8_joined 4 = .ok (.ifCond .ne 5, 3) := by decide +kernel
theorem dX8_joined_7 : decode cX8_joined 7 = .ok (.iconst (-1), 1) := by decide +kernel
theorem dX8_joined_8 : decode cX8_joined 8 = .ok (.ireturn, 1) := by decide +kernel
theorem dX8_joined_9 : decode cX8_joined 9 = .ok (.bipush (-4), 2) := by decide +kernel
theorem dX8_joined_11 : decode cX8_joined 11 = .ok (.istore_n 2, 1) := by decide +kernel
theorem dX8_joined_12 : decode cX8_joined 12 = .ok (.bipush 18, 2) := by decide +kernel
theorem dX8_joined_14 : decode cX8_joined 14 = .ok (.istore_n 3, 1) := by decide +kernel
theorem dX8_joined_15 : decode cX8_joined 15 = .ok (.iconst 0, 1) := by decide +kernel
theorem dX8_joined_16 : decode cX8_joined 16 = .ok (.istore 4, 2) := by decide +kernel
theorem dX8_joined_18 : decode cX8_joined 18 = .ok (.iload 4, 2) := by decide +kernel
theorem dX8_joined_20 : decode cX8_joined 20 = .ok (.iconst 3, 1) := by decide +kernel
theorem dX8_joined_21 : decode cX8_joined 21 = .ok (.if_icmp .ge 43, 3) := by decide +kernel
theorem dX8_joined_24 : decode cX8_joined 24 = .ok (.aload_n 0, 1) := by decide +kernel
theorem dX8_joined_25 : decode cX8_joined 25 = .ok (.getfield 49, 3) := by decide +kernel
theorem dX8_joined_28 : decode cX8_joined 28 = .ok (.iload 4, 2) := by decide +kernel
theorem dX8_joined_30 : decode cX8_joined 30 = .ok (.iload_n 1, 1) := by decide +kernel
theorem dX8_joined_31 : decode cX8_joined 31 = .ok (.invokevirtual 184, 3) := by decide +kernel
theorem dX8_joined_34 : decode cX8_joined 34 = .ok (.ifCond .eq 24, 3) := by decide +kernel
theorem dX8_joined_37 : decode cX8_joined 37 = .ok (.aload_n 0, 1) := by decide +kernel
theorem dX8_joined_38 : decode cX8_joined 38 = .ok (.iload 4, 2) := by decide +kernel
theorem dX8_joined_40 : decode cX8_joined 40 = .ok (.iload_n 1, 1) := by decide +kernel
theorem dX8_joined_41 : decode cX8_joined 41 = .ok (.invokevirtual 201, 3) := by decide +kernel
theorem dX8_joined_44 : decode cX8_joined 44 = .ok (.istore 5, 2) := by decide +kernel
theorem dX8_joined_46 : decode cX8_joined 46 = .ok (.iload 5, 2) := by decide +kernel
theorem dX8_joined_48 : decode cX8_joined 48 = .ok (.iload_n 3, 1) := by decide +kernel
theorem dX8_joined_49 : decode cX8_joined 49 = .ok (.if_icmp .ge 9, 3) := by decide +kernel
theorem dX8_joined_52 : decode cX8_joined 52 = .ok (.iload 5, 2) := by decide +kernel
theorem dX8_joined_54 : decode cX8_joined 54 = .ok (.istore_n 3, 1) := by decide +kernel
theorem dX8_joined_55 : decode cX8_joined 55 = .ok (.iload 4, 2) := by decide +kernel
theorem dX8_joined_57 : decode cX8_joined 57 = .ok (.istore_n 2, 1) := by decide +kernel
theorem dX8_joined_58 : decode cX8_joined 58 = .ok (.iinc 4 1, 3) := by decide +kernel
theorem dX8_joined_61 : decode cX8_joined 61 = .ok (.goto (-43), 3) := by decide +kernel
theorem dX8_joined_64 : decode cX8_joined 64 = .ok (.iload_n 2, 1) := by decide +kernel
theorem dX8_joined_65 : decode cX8_joined 65 = .ok (.ireturn, 1) := by decide +kernel
set_option maxRecDepth 20000 in
theorem ggX8_children_X8_isOfThousand : GoodIn wsX8_children wsX8_isOfThousand := goodIn_r _ [4] (by decide +kernel) (by decide +kernel)
set_option maxRecDepth 20000 in
theorem gX8_children_X8_isOfThousand : GoodIn wsX8_children (va_wsS RX8 204 yX8_isOfThousand wsX8_isOfThousand) := goodIn_app (goodIn_of _ (by decide +kernel)) ggX8_children_X8_isOfThousand
set_option maxRecDepth 20000 in
theorem ggX8_children_X8_isBent : GoodIn wsX8_children wsX8_isBent := goodIn_r _ [7] (by decide +kernel) (by decide +kernel)
set_option maxRecDepth 20000 in
theorem gX8_children_X8_isBent : GoodIn wsX8_children (va_wsS RX8 207 yX8_isBent wsX8_isBent) := goodIn_app (goodIn_of _ (by decide +kernel)) ggX8_children_X8_isBent
set_option maxRecDepth 20000 in
theorem ggX8_children_X8_nextGeneration : GoodIn wsX8_children wsX8_nextGeneration := goodIn_r _ [10, 11] (by decide +kernel) (by decide +kernel)
set_option maxRecDepth 20000 in
theorem gX8_children_X8_nextGeneration : GoodIn wsX8_children (va_wsS RX8 210 yX8_nextGeneration wsX8_nextGeneration) := goodIn_app (goodIn_of _ (by decide +kernel)) ggX8_children_X8_nextGeneration
theorem dX8_children_0 : decode cX8_children 0 = .ok (.iload_n 1, 1) := by decide +kernel
theorem dX8_children_1 : decode cX8_children 1 = .ok (.invokestatic 204, 3) := by decide +kernel
theorem dX8_children_4 : decode cX8_children 4 = .ok (.ifCond .eq 20, 3) := by decide +kernel
theorem dX8_children_7 : decode cX8_children 7 = .ok (.iload_n 2, 1) := by decide +kernel
theorem dX8_children_8 : decode cX8_children 8 = .ok (.invokestatic 207, 3) := by decide +kernel
theorem dX8_children_11 : decode cX8_children 11 = .ok (.ifCond .eq 13, 3) := by decide +kernel
theorem dX8_children_14 : decode cX8_children 14 = .ok (.iload_n 3, 1) := by decide +kernel
theorem dX8_children_15 : decode cX8_children 15 = .ok (.ifCond .lt 9, 3) := by decide +kernel
theorem dX8_children_18 : decode cX8_children 18 = .ok (.iload_n 3, 1) := by decide +kernel
theorem dX8_children_19 : decode cX8_children 19 = .ok (.bipush 20, 2) := by decide +kernel
theorem dX8_children_21 : decode cX8_children 21 = .ok (.if_icmp .le 5, 3) := by decide +kernel
theorem dX8_children_24 : decode cX8_children 24 = .ok (.iconst (-1), 1) := by decide +kernel
theorem dX8_children_25 : decode cX8_children 25 = .ok (.ireturn, 1) := by decide +kernel
theorem dX8_children_26 : decode cX8_children 26 = .ok (.iload_n 1, 1) := by decide +kernel
theorem dX8_children_27 : decode cX8_children 27 = .ok (.istore 4, 2) := by decide +kernel
theorem dX8_children_29 : decode cX8_children 29 = .ok (.iconst 0, 1) := by decide +kernel
theorem dX8_children_30 : decode cX8_children 30 = .ok (.istore 5, 2) := by decide +kernel
theorem dX8_children_32 : decode cX8_children 32 = .ok (.iload 5, 2) := by decide +kernel
theorem dX8_children_34 : decode cX8_children 34 = .ok (.iload_n 3, 1) := by decide +kernel
theorem dX8_children_35 : decode cX8_children 35 = .ok (.if_icmp .ge 17, 3) := by decide +kernel
theorem dX8_children_38 : decode cX8_children 38 = .ok (.iload 4, 2) := by decide +kernel
theorem dX8_children_40 : decode cX8_children 40 = .ok (.iload_n 2, 1) := by decide +kernel
theorem dX8_children_41 : decode cX8_children 41 = .ok (.invokestatic 210, 3) := by decide +kernel
theorem dX8_children_44 : decode cX8_children 44 = .ok (.istore 4, 2) := by decide +kernel
theorem dX8_children_46 : decode cX8_children 46 = .ok (.iinc 5 1, 3) := by decide +kernel
theorem dX8_children_49 : decode cX8_children 49 = .ok (.goto (-17), 3) := by decide +kernel
theorem dX8_children_52 : decode cX8_children 52 = .ok (.iload 4, 2) := by decide +kernel
theorem dX8_children_54 : decode cX8_children 54 = .ok (.ireturn, 1) := by decide +kernel
set_option maxRecDepth 20000 in
theorem ggX8_even_X8_isOfThousand : GoodIn wsX8_even wsX8_isOfThousand := goodIn_r _ [4] (by decide +kernel) (by decide +kernel)
set_option maxRecDepth 20000 in
theorem gX8_even_X8_isOfThousand : GoodIn wsX8_even (va_wsS RX8 204 yX8_isOfThousand wsX8_isOfThousand) := goodIn_app (goodIn_of _ (by decide +kernel)) ggX8_even_X8_isOfThousand
set_option maxRecDepth 20000 in
theorem ggX8_even_X8_isBent : GoodIn wsX8_even wsX8_isBent := goodIn_r _ [7] (by decide +kernel) (by decide +kernel)
set_option maxRecDepth 20000 in
theorem gX8_even_X8_isBent : GoodIn wsX8_even (va_wsS RX8 207 yX8_isBent wsX8_isBent) := goodIn_app (goodIn_of _ (by decide +kernel)) ggX8_even_X8_isBent
set_option maxRecDepth 20000 in
theorem ggX8_even_X8_nextGeneration : GoodIn wsX8_even wsX8_nextGeneration := goodIn_r _ [10, 11] (by decide +kernel) (by decide +kernel)
set_option maxRecDepth 20000 in
theorem gX8_even_X8_nextGeneration : GoodIn wsX8_even (va_wsS RX8 210 yX8_nextGeneration wsX8_nextGeneration) := goodIn_app (goodIn_of _ (by decide +kernel)) ggX8_even_X8_nextGeneration
theorem dX8_even_0 : decode cX8_even 0 = .ok (.iload_n 1, 1) := by decide +kernel
theorem dX8_even_1 : decode cX8_even 1 = .ok (.invokestatic 204, 3) := by decide +kernel
theorem dX8_even_4 : decode cX8_even 4 = .ok (.ifCond .eq 10, 3) := by decide +kernel
theorem dX8_even_7 : decode cX8_even 7 = .ok (.iload_n 2, 1) := by decide +kernel
theorem dX8_even_8 : decode cX8_even 8 = .ok (.invokestatic 207, 3) := by decide +kernel
theorem dX8_even_11 : decode cX8_even 11 = .ok (.ifCond .ne 5, 3) := by decide +kernel
theorem dX8_even_14 : decode cX8_even 14 = .ok (.iconst (-1), 1) := by decide +kernel
theorem dX8_even_15 : decode cX8_even 15 = .ok (.ireturn, 1) := by decide +kernel
theorem dX8_even_16 : decode cX8_even 16 = .ok (.iload_n 1, 1) := by decide +kernel
theorem dX8_even_17 : decode cX8_even 17 = .ok (.istore_n 3, 1) := by decide +kernel
theorem dX8_even_18 : decode cX8_even 18 = .ok (.iconst 0, 1) := by decide +kernel
theorem dX8_even_19 : decode cX8_even 19 = .ok (.istore 4, 2) := by decide +kernel
theorem dX8_even_21 : decode cX8_even 21 = .ok (.iload 4, 2) := by decide +kernel
theorem dX8_even_23 : decode cX8_even 23 = .ok (.bipush 20, 2) := by decide +kernel
theorem dX8_even_25 : decode cX8_even 25 = .ok (.if_icmp .gt 31, 3) := by decide +kernel
theorem dX8_even_28 : decode cX8_even 28 = .ok (.iload_n 3, 1) := by decide +kernel
theorem dX8_even_29 : decode cX8_even 29 = .ok (.sipush 950, 3) := by decide +kernel
theorem dX8_even_32 : decode cX8_even 32 = .ok (.if_icmp .ge 9, 3) := by decide +kernel
theorem dX8_even_35 : decode cX8_even 35 = .ok (.iload_n 3, 1) := by decide +kernel
theorem dX8_even_36 : decode cX8_even 36 = .ok (.bipush 50, 2) := by decide +kernel
theorem dX8_even_38 : decode cX8_even 38 = .ok (.if_icmp .gt 6, 3) := by decide +kernel
theorem dX8_even_41 : decode cX8_even 41 = .ok (.iload 4, 2) := by decide +kernel
theorem dX8_even_43 : decode cX8_even 43 = .ok (.ireturn, 1) := by decide +kernel
theorem dX8_even_44 : decode cX8_even 44 = .ok (.iload_n 3, 1) := by decide +kernel
theorem dX8_even_45 : decode cX8_even 45 = .ok (.iload_n 2, 1) := by decide +kernel
theorem dX8_even_46 : decode cX8_even 46 = .ok (.invokestatic 210, 3) := by decide +kernel
theorem dX8_even_49 : decode cX8_even 49 = .ok (.istore_n 3, 1) := by decide +kernel
theorem dX8_even_50 : decode cX8_even 50 = .ok (.iinc 4 1, 3) := by decide +kernel
theorem dX8_even_53 : decode cX8_even 53 = .ok (.goto (-32), 3) := by decide +kernel
theorem dX8_even_56 : decode cX8_even 56 = .ok (.bipush (-4), 2) := by decide +kernel
theorem dX8_even_58 : decode cX8_even 58 = .ok (.ireturn, 1) := by decide +kernel
set_option maxRecDepth 20000 in
theorem ggX8_fewest_X0_needs : GoodIn wsX8_fewest wsX0_needs := goodIn_r _ [6, 7, 36, 37, 38, 39, 40, 41, 42, 43, 44] (by decide +kernel) (by decide +kernel)
set_option maxRecDepth 20000 in
theorem gX8_fewest_X0_needs : GoodIn wsX8_fewest (wsV RX8 213 RX0 yX0_needs wsX0_needs) := goodIn_app (goodIn_of _ (by decide +kernel)) ggX8_fewest_X0_needs
set_option maxRecDepth 20000 in
theorem ggX8_fewest_X4_leastSet : GoodIn wsX8_fewest wsX4_leastSet := goodIn_r _ [12, 13, 14, 15, 16, 17, 18, 19, 20, 21, 22, 23, 11, 24, 25, 26, 27, 45, 46, 47, 48, 49] (by decide +kernel) (by decide +kernel)
set_option maxRecDepth 20000 in
theorem gX8_fewest_X4_leastSet : GoodIn wsX8_fewest (wsV RX8 217 RX4 yX4_leastSet wsX4_leastSet) := goodIn_app (goodIn_of _ (by decide +kernel)) ggX8_fewest_X4_leastSet
set_option maxRecDepth 20000 in
theorem ggX8_fewest_J6_bitCount_0f7a4 : GoodIn wsX8_fewest wsJ6_bitCount_0f7a4 := goodIn_r _ [17, 18, 19, 20] (by decide +kernel) (by decide +kernel)
set_option maxRecDepth 20000 in
theorem gX8_fewest_J6_bitCount_0f7a4 : GoodIn wsX8_fewest (va_wsS RX8 176 yJ6_bitCount_0f7a4 wsJ6_bitCount_0f7a4) := goodIn_app (goodIn_of _ (by decide +kernel)) ggX8_fewest_J6_bitCount_0f7a4
theorem dX8_fewest_0 : decode cX8_fewest 0 = .ok (.iload_n 1, 1) := by decide +kernel
theorem dX8_fewest_1 : decode cX8_fewest 1 = .ok (.ifCond .lt 8, 3) := by decide +kernel
theorem dX8_fewest_4 : decode cX8_fewest 4 = .ok (.iload_n 1, 1) := by decide +kernel
theorem dX8_fewest_5 : decode cX8_fewest 5 = .ok (.iconst 1, 1) := by decide +kernel
theorem dX8_fewest_6 : decode cX8_fewest 6 = .ok (.if_icmp .le 5, 3) := by decide +kernel
theorem dX8_fewest_9 : decode cX8_fewest 9 = .ok (.iconst (-1), 1) := by decide +kernel
theorem dX8_fewest_10 : decode cX8_fewest 10 = .ok (.ireturn, 1) := by decide +kernel
theorem dX8_fewest_11 : decode cX8_fewest 11 = .ok (.aload_n 0, 1) := by decide +kernel
theorem dX8_fewest_12 : decode cX8_fewest 12 = .ok (.getfield 49, 3) := by decide +kernel
theorem dX8_fewest_15 : decode cX8_fewest 15 = .ok (.invokevirtual 213, 3) := by decide +kernel
theorem dX8_fewest_18 : decode cX8_fewest 18 = .ok (.invokevirtual 217, 3) := by decide +kernel
theorem dX8_fewest_21 : decode cX8_fewest 21 = .ok (.istore_n 2, 1) := by decide +kernel
theorem dX8_fewest_22 : decode cX8_fewest 22 = .ok (.iload_n 1, 1) := by decide +kernel
theorem dX8_fewest_23 : decode cX8_fewest 23 = .ok (.ifCond .ne 7, 3) := by decide +kernel
theorem dX8_fewest_26 : decode cX8_fewest 26 = .ok (.iload_n 2, 1) := by decide +kernel
theorem dX8_fewest_27 : decode cX8_fewest 27 = .ok (.goto 7, 3) := by decide +kernel
theorem dX8_fewest_30 : decode cX8_fewest 30 = .ok (.iload_n 2, 1) := by decide +kernel
theorem dX8_fewest_31 : decode cX8_fewest 31 = .ok (.invokestatic 176, 3) := by decide +kernel
theorem dX8_fewest_34 : decode cX8_fewest 34 = .ok (.ireturn, 1) := by decide +kernel
set_option maxRecDepth 20000 in
theorem ggX8_both_X0_soundsOf : GoodIn wsX8_both wsX0_soundsOf := goodIn_r _ [6, 7, 15, 16, 17, 18, 19, 20, 21, 22, 23] (by decide +kernel) (by decide +kernel)
set_option maxRecDepth 20000 in
theorem gX8_both_X0_soundsOf : GoodIn wsX8_both (wsV RX8 222 RX0 yX0_soundsOf wsX0_soundsOf) := goodIn_app (goodIn_of _ (by decide +kernel)) ggX8_both_X0_soundsOf
theorem dX8_both_0 : decode cX8_both 0 = .ok (.aload_n 0, 1) := by decide +kernel
theorem dX8_both_1 : decode cX8_both 1 = .ok (.getfield 49, 3) := by decide +kernel
theorem dX8_both_4 : decode cX8_both 4 = .ok (.iconst 0, 1) := by decide +kernel
theorem dX8_both_5 : decode cX8_both 5 = .ok (.invokevirtual 222, 3) := by decide +kernel
theorem dX8_both_8 : decode cX8_both 8 = .ok (.aload_n 0, 1) := by decide +kernel
theorem dX8_both_9 : decode cX8_both 9 = .ok (.getfield 49, 3) := by decide +kernel
theorem dX8_both_12 : decode cX8_both 12 = .ok (.iconst 1, 1) := by decide +kernel
theorem dX8_both_13 : decode cX8_both 13 = .ok (.invokevirtual 222, 3) := by decide +kernel
theorem dX8_both_16 : decode cX8_both 16 = .ok (.iand, 1) := by decide +kernel
theorem dX8_both_17 : decode cX8_both 17 = .ok (.ireturn, 1) := by decide +kernel
set_option maxRecDepth 20000 in
theorem ggX8_lost_X8_isPeople : GoodIn wsX8_lost wsX8_isPeople := goodIn_r _ [5] (by decide +kernel) (by decide +kernel)
set_option maxRecDepth 20000 in
theorem gX8_lost_X8_isPeople : GoodIn wsX8_lost (va_wsS RX8 74 yX8_isPeople wsX8_isPeople) := goodIn_app (goodIn_of _ (by decide +kernel)) ggX8_lost_X8_isPeople
set_option maxRecDepth 20000 in
theorem ggX8_lost_X0_wordOf : GoodIn wsX8_lost wsX0_wordOf := goodIn_r _ [10, 11, 12, 13, 9, 14, 35, 36, 37, 38, 39, 40, 41, 42, 43] (by decide +kernel) (by decide +kernel)
set_option maxRecDepth 20000 in
theorem gX8_lost_X0_wordOf : GoodIn wsX8_lost (wsV RX8 81 RX0 yX0_wordOf wsX0_wordOf) := goodIn_app (goodIn_of _ (by decide +kernel)) ggX8_lost_X0_wordOf
set_option maxRecDepth 20000 in
theorem ggX8_lost_X7_length : GoodIn wsX8_lost wsX7_length := goodIn_r _ [18] (by decide +kernel) (by decide +kernel)
set_option maxRecDepth 20000 in
theorem gX8_lost_X7_length : GoodIn wsX8_lost (va_wsS RX8 88 yX7_length wsX7_length) := goodIn_app (goodIn_of _ (by decide +kernel)) ggX8_lost_X7_length
set_option maxRecDepth 20000 in
theorem ggX8_lost_X7_soundAt : GoodIn wsX8_lost wsX7_soundAt := goodIn_r _ [21] (by decide +kernel) (by decide +kernel)
set_option maxRecDepth 20000 in
theorem gX8_lost_X7_soundAt : GoodIn wsX8_lost (va_wsS RX8 93 yX7_soundAt wsX7_soundAt) := goodIn_app (goodIn_of _ (by decide +kernel)) ggX8_lost_X7_soundAt
set_option maxRecDepth 20000 in
theorem ggX8_lost_X0_soundSaidBy : GoodIn wsX8_lost wsX0_soundSaidBy := goodIn_r _ [25, 26, 27, 35, 36, 37, 38, 39, 40, 41, 42, 43] (by decide +kernel) (by decide +kernel)
set_option maxRecDepth 20000 in
theorem gX8_lost_X0_soundSaidBy : GoodIn wsX8_lost (wsV RX8 225 RX0 yX0_soundSaidBy wsX0_soundSaidBy) := goodIn_app (goodIn_of _ (by decide +kernel)) ggX8_lost_X0_soundSaidBy
theorem dX8_lost_0 : decode cX8_lost 0 = .ok (.iload_n 1, 1) := by decide +kernel
theorem dX8_lost_1 : decode cX8_lost 1 = .ok (.invokestatic 74, 3) := by decide +kernel
theorem dX8_lost_4 : decode cX8_lost 4 = .ok (.ifCond .ne 5, 3) := by decide +kernel
theorem dX8_lost_7 : decode cX8_lost 7 = .ok (.iconst (-1), 1) := by decide +kernel
theorem dX8_lost_8 : decode cX8_lost 8 = .ok (.ireturn, 1) := by decide +kernel
theorem dX8_lost_9 : decode cX8_lost 9 = .ok (.iconst 0, 1) := by decide +kernel
theorem dX8_lost_10 : decode cX8_lost 10 = .ok (.istore_n 2, 1) := by decide +kernel
theorem dX8_lost_11 : decode cX8_lost 11 = .ok (.iconst 0, 1) := by decide +kernel
theorem dX8_lost_12 : decode cX8_lost 12 = .ok (.istore_n 3, 1) := by decide +kernel
theorem dX8_lost_13 : decode cX8_lost 13 = .ok (.iload_n 3, 1) := by decide +kernel
theorem dX8_lost_14 : decode cX8_lost 14 = .ok (.bipush 8, 2) := by decide +kernel
theorem dX8_lost_16 : decode cX8_lost 16 = .ok (.if_icmp .ge 72, 3) := by decide +kernel
theorem dX8_lost_19 : decode cX8_lost 19 = .ok (.aload_n 0, 1) := by decide +kernel
theorem dX8_lost_20 : decode cX8_lost 20 = .ok (.getfield 49, 3) := by decide +kernel
theorem dX8_lost_23 : decode cX8_lost 23 = .ok (.iload_n 1, 1) := by decide +kernel
theorem dX8_lost_24 : decode cX8_lost 24 = .ok (.iload_n 3, 1) := by decide +kernel
theorem dX8_lost_25 : decode cX8_lost 25 = .ok (.invokevirtual 81, 3) := by decide +kernel
theorem dX8_lost_28 : decode cX8_lost 28 = .ok (.istore 4, 2) := by decide +kernel
theorem dX8_lost_30 : decode cX8_lost 30 = .ok (.iconst 0, 1) := by decide +kernel
theorem dX8_lost_31 : decode cX8_lost 31 = .ok (.istore 5, 2) := by decide +kernel
theorem dX8_lost_33 : decode cX8_lost 33 = .ok (.iload 5, 2) := by decide +kernel
theorem dX8_lost_35 : decode cX8_lost 35 = .ok (.iload 4, 2) := by decide +kernel
theorem dX8_lost_37 : decode cX8_lost 37 = .ok (.invokestatic 88, 3) := by decide +kernel
theorem dX8_lost_40 : decode cX8_lost 40 = .ok (.if_icmp .ge 42, 3) := by decide +kernel
theorem dX8_lost_43 : decode cX8_lost 43 = .ok (.iload 4, 2) := by decide +kernel
theorem dX8_lost_45 : decode cX8_lost 45 = .ok (.iload 5, 2) := by decide +kernel
theorem dX8_lost_47 : decode cX8_lost 47 = .ok (.invokestatic 93, 3) := by decide +kernel
theorem dX8_lost_50 : decode cX8_lost 50 = .ok (.istore 6, 2) := by decide +kernel
theorem dX8_lost_52 : decode cX8_lost 52 = .ok (.aload_n 0, 1) := by decide +kernel
theorem dX8_lost_53 : decode cX8_lost 53 = .ok (.getfield 49, 3) := by decide +kernel
theorem dX8_lost_56 : decode cX8_lost 56 = .ok (.iconst 1, 1) := by decide +kernel
theorem dX8_lost_57 : decode cX8_lost 57 = .ok (.iload_n 1, 1) := by decide +kernel
theorem dX8_lost_58 : decode cX8_lost 58 = .ok (.isub, 1) := by decide +kernel
theorem dX8_lost_59 : decode cX8_lost 59 = .ok (.iload 6, 2) := by decide +kernel
theorem dX8_lost_61 : decode cX8_lost 61 = .ok (.invokevirtual 225, 3) := by decide +kernel
theorem dX8_lost_64 : decode cX8_lost 64 = .ok (.bipush (-4), 2) := by decide +kernel
theorem dX8_lost_66 : decode cX8_lost 66 = .ok (.if_icmp .ne 10, 3) := by decide +kernel
theorem dX8_lost_69 : decode cX8_lost 69 = .ok (.iload_n 2, 1) := by decide +kernel
theorem dX8_lost_70 : decode cX8_lost 70 = .ok (.iconst 1, 1) := by decide +kernel
theorem dX8_lost_71 : decode cX8_lost 71 = .ok (.iload 6, 2) := by decide +kernel
theorem dX8_lost_73 : decode cX8_lost 73 = .ok (.ishl, 1) := by decide +kernel
theorem dX8_lost_74 : decode cX8_lost 74 = .ok (.ior, 1) := by decide +kernel
theorem dX8_lost_75 : decode cX8_lost 75 = .ok (.istore_n 2, 1) := by decide +kernel
theorem dX8_lost_76 : decode cX8_lost 76 = .ok (.iinc 5 1, 3) := by decide +kernel
theorem dX8_lost_79 : decode cX8_lost 79 = .ok (.goto (-46), 3) := by decide +kernel
theorem dX8_lost_82 : decode cX8_lost 82 = .ok (.iinc 3 1, 3) := by decide +kernel
theorem dX8_lost_85 : decode cX8_lost 85 = .ok (.goto (-72), 3) := by decide +kernel
theorem dX8_lost_88 : decode cX8_lost 88 = .ok (.iload_n 2, 1) := by decide +kernel
theorem dX8_lost_89 : decode cX8_lost 89 = .ok (.ireturn, 1) := by decide +kernel
set_option maxRecDepth 20000 in
theorem ggX8_keep_X5_push : GoodIn wsX8_keep wsX5_push := goodIn_r _ [6, 7, 8, 9, 10, 11, 12, 13, 25, 26, 27] (by decide +kernel) (by decide +kernel)
set_option maxRecDepth 20000 in
theorem gX8_keep_X5_push : GoodIn wsX8_keep (wsV RX8 228 RX5 yX5_push wsX5_push) := goodIn_app (goodIn_of _ (by decide +kernel)) ggX8_keep_X5_push
set_option maxRecDepth 20000 in
theorem ggX8_keep_X5_kept : GoodIn wsX8_keep wsX5_kept := goodIn_r _ [17, 7, 25, 26, 27] (by decide +kernel) (by decide +kernel)
set_option maxRecDepth 20000 in
theorem gX8_keep_X5_kept : GoodIn wsX8_keep (wsV RX8 231 RX5 yX5_kept wsX5_kept) := goodIn_app (goodIn_of _ (by decide +kernel)) ggX8_keep_X5_kept
theorem dX8_keep_0 : decode cX8_keep 0 = .ok (.aload_n 0, 1) := by decide +kernel
theorem dX8_keep_1 : decode cX8_keep 1 = .ok (.getfield 28, 3) := by decide +kernel
theorem dX8_keep_4 : decode cX8_keep 4 = .ok (.invokevirtual 228, 3) := by decide +kernel
theorem dX8_keep_7 : decode cX8_keep 7 = .ok (.ifCond .eq 13, 3) := by decide +kernel
theorem dX8_keep_10 : decode cX8_keep 10 = .ok (.aload_n 0, 1) := by decide +kernel
theorem dX8_keep_11 : decode cX8_keep 11 = .ok (.getfield 28, 3) := by decide +kernel
theorem dX8_keep_14 : decode cX8_keep 14 = .ok (.invokevirtual 231, 3) := by decide +kernel
theorem dX8_keep_17 : decode cX8_keep 17 = .ok (.goto 5, 3) := by decide +kernel
theorem dX8_keep_20 : decode cX8_keep 20 = .ok (.bipush (-3), 2) := by decide +kernel
theorem dX8_keep_22 : decode cX8_keep 22 = .ok (.ireturn, 1) := by decide +kernel
set_option maxRecDepth 20000 in
theorem ggX8_back_X5_pop : GoodIn wsX8_back wsX5_pop := goodIn_r _ [6, 7, 8, 9, 10, 11, 12, 13, 25, 26, 27] (by decide +kernel) (by decide +kernel)
set_option maxRecDepth 20000 in
theorem gX8_back_X5_pop : GoodIn wsX8_back (wsV RX8 234 RX5 yX5_pop wsX5_pop) := goodIn_app (goodIn_of _ (by decide +kernel)) ggX8_back_X5_pop
set_option maxRecDepth 20000 in
theorem ggX8_back_X5_kept : GoodIn wsX8_back wsX5_kept := goodIn_r _ [17, 7, 25, 26, 27] (by decide +kernel) (by decide +kernel)
set_option maxRecDepth 20000 in
theorem gX8_back_X5_kept : GoodIn wsX8_back (wsV RX8 231 RX5 yX5_kept wsX5_kept) := goodIn_app (goodIn_of _ (by decide +kernel)) ggX8_back_X5_kept
theorem dX8_back_0 : decode cX8_back 0 = .ok (.aload_n 0, 1) := by decide +kernel
theorem dX8_back_1 : decode cX8_back 1 = .ok (.getfield 28, 3) := by decide +kernel
theorem dX8_back_4 : decode cX8_back 4 = .ok (.invokevirtual 234, 3) := by decide +kernel
theorem dX8_back_7 : decode cX8_back 7 = .ok (.ifCond .eq 13, 3) := by decide +kernel
theorem dX8_back_10 : decode cX8_back 10 = .ok (.aload_n 0, 1) := by decide +kernel
theorem dX8_back_11 : decode cX8_back 11 = .ok (.getfield 28, 3) := by decide +kernel
theorem dX8_back_14 : decode cX8_back 14 = .ok (.invokevirtual 231, 3) := by decide +kernel
theorem dX8_back_17 : decode cX8_back 17 = .ok (.goto 5, 3) := by decide +kernel
theorem dX8_back_20 : decode cX8_back 20 = .ok (.bipush (-2), 2) := by decide +kernel
theorem dX8_back_22 : decode cX8_back 22 = .ok (.ireturn, 1) := by decide +kernel
set_option maxRecDepth 20000 in
theorem ggX8_count_X8_toldMeanings : GoodIn wsX8_count wsX8_toldMeanings := goodIn_r _ [8, 2, 9, 10, 11, 12, 13, 14, 15, 16, 17, 18, 19, 20, 21, 55, 56, 57, 58, 59, 60, 61, 62, 63, 64, 65, 66, 67, 68, 69, 70] (by decide +kernel) (by decide +kernel)
set_option maxRecDepth 20000 in
theorem gX8_count_X8_toldMeanings : GoodIn wsX8_count (wsV RX8 71 RX8 yX8_toldMeanings wsX8_toldMeanings) := goodIn_app (goodIn_of _ (by decide +kernel)) ggX8_count_X8_toldMeanings
set_option maxRecDepth 20000 in
theorem ggX8_count_X6_length : GoodIn wsX8_count wsX6_length := goodIn_r _ [26, 27, 71, 72] (by decide +kernel) (by decide +kernel)
set_option maxRecDepth 20000 in
theorem gX8_count_X6_length : GoodIn wsX8_count (wsV RX8 56 RX6 yX6_length wsX6_length) := goodIn_app (goodIn_of _ (by decide +kernel)) ggX8_count_X6_length
set_option maxRecDepth 20000 in
theorem ggX8_count_X0_needs : GoodIn wsX8_count wsX0_needs := goodIn_r _ [31, 32, 62, 63, 64, 65, 66, 67, 68, 69, 70] (by decide +kernel) (by decide +kernel)
set_option maxRecDepth 20000 in
theorem gX8_count_X0_needs : GoodIn wsX8_count (wsV RX8 213 RX0 yX0_needs wsX0_needs) := goodIn_app (goodIn_of _ (by decide +kernel)) ggX8_count_X0_needs
set_option maxRecDepth 20000 in
theorem ggX8_count_X4_needsTold : GoodIn wsX8_count wsX4_needsTold := goodIn_r _ [37, 38, 73, 74, 75, 76, 77] (by decide +kernel) (by decide +kernel)
set_option maxRecDepth 20000 in
theorem gX8_count_X4_needsTold : GoodIn wsX8_count (wsV RX8 237 RX4 yX4_needsTold wsX4_needsTold) := goodIn_app (goodIn_of _ (by decide +kernel)) ggX8_count_X4_needsTold
set_option maxRecDepth 20000 in
theorem ggX8_count_X4_joinedTold : GoodIn wsX8_count wsX4_joinedTold := goodIn_r _ [42, 43, 73, 74, 75, 76, 77] (by decide +kernel) (by decide +kernel)
set_option maxRecDepth 20000 in
theorem gX8_count_X4_joinedTold : GoodIn wsX8_count (wsV RX8 240 RX4 yX4_joinedTold wsX4_joinedTold) := goodIn_app (goodIn_of _ (by decide +kernel)) ggX8_count_X4_joinedTold
set_option maxRecDepth 20000 in
theorem ggX8_count_X5_kept : GoodIn wsX8_count wsX5_kept := goodIn_r _ [48, 49, 78, 79, 80] (by decide +kernel) (by decide +kernel)
set_option maxRecDepth 20000 in
theorem gX8_count_X5_kept : GoodIn wsX8_count (wsV RX8 231 RX5 yX5_kept wsX5_kept) := goodIn_app (goodIn_of _ (by decide +kernel)) ggX8_count_X5_kept
set_option maxRecDepth 20000 in
theorem ggX8_count_X0_tradersOf : GoodIn wsX8_count wsX0_tradersOf := goodIn_r _ [53, 54, 62, 63, 64, 65, 66, 67, 68, 69, 70] (by decide +kernel) (by decide +kernel)
set_option maxRecDepth 20000 in
theorem gX8_count_X0_tradersOf : GoodIn wsX8_count (wsV RX8 161 RX0 yX0_tradersOf wsX0_tradersOf) := goodIn_app (goodIn_of _ (by decide +kernel)) ggX8_count_X0_tradersOf
theorem dX8_count_0 : decode cX8_count 0 = .ok (.iload_n 1, 1) := by decide +kernel
theorem dX8_count_1 : decode cX8_count 1 = .ok (.tableswitch 104 0 6 #[43, 48, 56, 67, 78, 86, 95], 43) := by decide +kernel
theorem dX8_count_44 : decode cX8_count 44 = .ok (.aload_n 0, 1) := by decide +kernel
theorem dX8_count_45 : decode cX8_count 45 = .ok (.invokevirtual 71, 3) := by decide +kernel
theorem dX8_count_48 : decode cX8_count 48 = .ok (.ireturn, 1) := by decide +kernel
theorem dX8_count_49 : decode cX8_count 49 = .ok (.aload_n 0, 1) := by decide +kernel
theorem dX8_count_50 : decode cX8_count 50 = .ok (.getfield 10, 3) := by decide +kernel
theorem dX8_count_53 : decode cX8_count 53 = .ok (.invokevirtual 56, 3) := by decide +kernel
theorem dX8_count_56 : decode cX8_count 56 = .ok (.ireturn, 1) := by decide +kernel
theorem dX8_count_57 : decode cX8_count 57 = .ok (.aload_n 0, 1) := by decide +kernel
theorem dX8_count_58 : decode cX8_count 58 = .ok (.getfield 49, 3) := by decide +kernel
theorem dX8_count_61 : decode cX8_count 61 = .ok (.invokevirtual 213, 3) := by decide +kernel
theorem dX8_count_64 : decode cX8_count 64 = .ok (.invokevirtual 237, 3) := by decide +kernel
theorem dX8_count_67 : decode cX8_count 67 = .ok (.ireturn, 1) := by decide +kernel
theorem dX8_count_68 : decode cX8_count 68 = .ok (.aload_n 0, 1) := by decide +kernel
theorem dX8_count_69 : decode cX8_count 69 = .ok (.getfield 49, 3) := by decide +kernel
theorem dX8_count_72 : decode cX8_count 72 = .ok (.invokevirtual 213, 3) := by decide +kernel
theorem dX8_count_75 : decode cX8_count 75 = .ok (.invokevirtual 240, 3) := by decide +kernel
theorem dX8_count_78 : decode cX8_count 78 = .ok (.ireturn, 1) := by decide +kernel
theorem dX8_count_79 : decode cX8_count 79 = .ok (.aload_n 0, 1) := by decide +kernel
theorem dX8_count_80 : decode cX8_count 80 = .ok (.getfield 28, 3) := by decide +kernel
theorem dX8_count_83 : decode cX8_count 83 = .ok (.invokevirtual 231, 3) := by decide +kernel
theorem dX8_count_86 : decode cX8_count 86 = .ok (.ireturn, 1) := by decide +kernel
theorem dX8_count_87 : decode cX8_count 87 = .ok (.aload_n 0, 1) := by decide +kernel
theorem dX8_count_88 : decode cX8_count 88 = .ok (.getfield 49, 3) := by decide +kernel
theorem dX8_count_91 : decode cX8_count 91 = .ok (.iconst 0, 1) := by decide +kernel
theorem dX8_count_92 : decode cX8_count 92 = .ok (.invokevirtual 161, 3) := by decide +kernel
theorem dX8_count_95 : decode cX8_count 95 = .ok (.ireturn, 1) := by decide +kernel
theorem dX8_count_96 : decode cX8_count 96 = .ok (.aload_n 0, 1) := by decide +kernel
theorem dX8_count_97 : decode cX8_count 97 = .ok (.getfield 49, 3) := by decide +kernel
theorem dX8_count_100 : decode cX8_count 100 = .ok (.iconst 1, 1) := by decide +kernel
theorem dX8_count_101 : decode cX8_count 101 = .ok (.invokevirtual 161, 3) := by decide +kernel
theorem dX8_count_104 : decode cX8_count 104 = .ok (.ireturn, 1) := by decide +kernel
theorem dX8_count_105 : decode cX8_count 105 = .ok (.iconst (-1), 1) := by decide +kernel
theorem dX8_count_106 : decode cX8_count 106 = .ok (.ireturn, 1) := by decide +kernel
theorem dX8_isPeople_0 : decode cX8_isPeople 0 = .ok (.iload_n 0, 1) := by decide +kernel
theorem dX8_isPeople_1 : decode cX8_isPeople 1 = .ok (.ifCond .lt 12, 3) := by decide +kernel
theorem dX8_isPeople_4 : decode cX8_isPeople 4 = .ok (.iload_n 0, 1) := by decide +kernel
theorem dX8_isPeople_5 : decode cX8_isPeople 5 = .ok (.iconst 2, 1) := by decide +kernel
theorem dX8_isPeople_6 : decode cX8_isPeople 6 = .ok (.if_icmp .ge 7, 3) := by decide +kernel
theorem dX8_isPeople_9 : decode cX8_isPeople 9 = .ok (.iconst 1, 1) := by decide +kernel
theorem dX8_isPeople_10 : decode cX8_isPeople 10 = .ok (.goto 4, 3) := by decide +kernel
theorem dX8_isPeople_13 : decode cX8_isPeople 13 = .ok (.iconst 0, 1) := by decide +kernel
theorem dX8_isPeople_14 : decode cX8_isPeople 14 = .ok (.ireturn, 1) := by decide +kernel
theorem dX8_isMeaning_0 : decode cX8_isMeaning 0 = .ok (.iload_n 0, 1) := by decide +kernel
theorem dX8_isMeaning_1 : decode cX8_isMeaning 1 = .ok (.ifCond .lt 13, 3) := by decide +kernel
theorem dX8_isMeaning_4 : decode cX8_isMeaning 4 = .ok (.iload_n 0, 1) := by decide +kernel
theorem dX8_isMeaning_5 : decode cX8_isMeaning 5 = .ok (.bipush 8, 2) := by decide +kernel
theorem dX8_isMeaning_7 : decode cX8_isMeaning 7 = .ok (.if_icmp .ge 7, 3) := by decide +kernel
theorem dX8_isMeaning_10 : decode cX8_isMeaning 10 = .ok (.iconst 1, 1) := by decide +kernel
theorem dX8_isMeaning_11 : decode cX8_isMeaning 11 = .ok (.goto 4, 3) := by decide +kernel
theorem dX8_isMeaning_14 : decode cX8_isMeaning 14 = .ok (.iconst 0, 1) := by decide +kernel
theorem dX8_isMeaning_15 : decode cX8_isMeaning 15 = .ok (.ireturn, 1) := by decide +kernel
theorem dX8_isEar_0 : decode cX8_isEar 0 = .ok (.iload_n 0, 1) := by decide +kernel
theorem dX8_isEar_1 : decode cX8_isEar 1 = .ok (.ifCond .lt 12, 3) := by decide +kernel
theorem dX8_isEar_4 : decode cX8_isEar 4 = .ok (.iload_n 0, 1) := by decide +kernel
theorem dX8_isEar_5 : decode cX8_isEar 5 = .ok (.iconst 3, 1) := by decide +kernel
theorem dX8_isEar_6 : decode cX8_isEar 6 = .ok (.if_icmp .ge 7, 3) := by decide +kernel
theorem dX8_isEar_9 : decode cX8_isEar 9 = .ok (.iconst 1, 1) := by decide +kernel
theorem dX8_isEar_10 : decode cX8_isEar 10 = .ok (.goto 4, 3) := by decide +kernel
theorem dX8_isEar_13 : decode cX8_isEar 13 = .ok (.iconst 0, 1) := by decide +kernel
theorem dX8_isEar_14 : decode cX8_isEar 14 = .ok (.ireturn, 1) := by decide +kernel
theorem dX8_isMeetings_0 : decode cX8_isMeetings 0 = .ok (.iload_n 0, 1) := by decide +kernel
theorem dX8_isMeetings_1 : decode cX8_isMeetings 1 = .ok (.ifCond .lt 14, 3) := by decide +kernel
theorem dX8_isMeetings_4 : decode cX8_isMeetings 4 = .ok (.iload_n 0, 1) := by decide +kernel
theorem dX8_isMeetings_5 : decode cX8_isMeetings 5 = .ok (.sipush 200, 3) := by decide +kernel
theorem dX8_isMeetings_8 : decode cX8_isMeetings 8 = .ok (.if_icmp .gt 7, 3) := by decide +kernel
theorem dX8_isMeetings_11 : decode cX8_isMeetings 11 = .ok (.iconst 1, 1) := by decide +kernel
theorem dX8_isMeetings_12 : decode cX8_isMeetings 12 = .ok (.goto 4, 3) := by decide +kernel
theorem dX8_isMeetings_15 : decode cX8_isMeetings 15 = .ok (.iconst 0, 1) := by decide +kernel
theorem dX8_isMeetings_16 : decode cX8_isMeetings 16 = .ok (.ireturn, 1) := by decide +kernel
theorem dX8_isHundredths_0 : decode cX8_isHundredths 0 = .ok (.iload_n 0, 1) := by decide +kernel
theorem dX8_isHundredths_1 : decode cX8_isHundredths 1 = .ok (.iconst 1, 1) := by decide +kernel
theorem dX8_isHundredths_2 : decode cX8_isHundredths 2 = .ok (.if_icmp .lt 13, 3) := by decide +kernel
theorem dX8_isHundredths_5 : decode cX8_isHundredths 5 = .ok (.iload_n 0, 1) := by decide +kernel
theorem dX8_isHundredths_6 : decode cX8_isHundredths 6 = .ok (.bipush 100, 2) := by decide +kernel
theorem dX8_isHundredths_8 : decode cX8_isHundredths 8 = .ok (.if_icmp .gt 7, 3) := by decide +kernel
theorem dX8_isHundredths_11 : decode cX8_isHundredths 11 = .ok (.iconst 1, 1) := by decide +kernel
theorem dX8_isHundredths_12 : decode cX8_isHundredths 12 = .ok (.goto 4, 3) := by decide +kernel
theorem dX8_isHundredths_15 : decode cX8_isHundredths 15 = .ok (.iconst 0, 1) := by decide +kernel
theorem dX8_isHundredths_16 : decode cX8_isHundredths 16 = .ok (.ireturn, 1) := by decide +kernel
theorem dX8_isOfThousand_0 : decode cX8_isOfThousand 0 = .ok (.iload_n 0, 1) := by decide +kernel
theorem dX8_isOfThousand_1 : decode cX8_isOfThousand 1 = .ok (.ifCond .lt 14, 3) := by decide +kernel
theorem dX8_isOfThousand_4 : decode cX8_isOfThousand 4 = .ok (.iload_n 0, 1) := by decide +kernel
theorem dX8_isOfThousand_5 : decode cX8_isOfThousand 5 = .ok (.sipush 1000, 3) := by decide +kernel
theorem dX8_isOfThousand_8 : decode cX8_isOfThousand 8 = .ok (.if_icmp .gt 7, 3) := by decide +kernel
theorem dX8_isOfThousand_11 : decode cX8_isOfThousand 11 = .ok (.iconst 1, 1) := by decide +kernel
theorem dX8_isOfThousand_12 : decode cX8_isOfThousand 12 = .ok (.goto 4, 3) := by decide +kernel
theorem dX8_isOfThousand_15 : decode cX8_isOfThousand 15 = .ok (.iconst 0, 1) := by decide +kernel
theorem dX8_isOfThousand_16 : decode cX8_isOfThousand 16 = .ok (.ireturn, 1) := by decide +kernel
theorem dX8_isBent_0 : decode cX8_isBent 0 = .ok (.iload_n 0, 1) := by decide +kernel
theorem dX8_isBent_1 : decode cX8_isBent 1 = .ok (.iconst 1, 1) := by decide +kernel
theorem dX8_isBent_2 : decode cX8_isBent 2 = .ok (.if_icmp .lt 12, 3) := by decide +kernel
theorem dX8_isBent_5 : decode cX8_isBent 5 = .ok (.iload_n 0, 1) := by decide +kernel
theorem dX8_isBent_6 : decode cX8_isBent 6 = .ok (.iconst 3, 1) := by decide +kernel
theorem dX8_isBent_7 : decode cX8_isBent 7 = .ok (.if_icmp .gt 7, 3) := by decide +kernel
theorem dX8_isBent_10 : decode cX8_isBent 10 = .ok (.iconst 1, 1) := by decide +kernel
theorem dX8_isBent_11 : decode cX8_isBent 11 = .ok (.goto 4, 3) := by decide +kernel
theorem dX8_isBent_14 : decode cX8_isBent 14 = .ok (.iconst 0, 1) := by decide +kernel
theorem dX8_isBent_15 : decode cX8_isBent 15 = .ok (.ireturn, 1) := by decide +kernel
set_option maxRecDepth 20000 in
theorem ggX8_isStand_X0_tradersOf : GoodIn wsX8_isStand wsX0_tradersOf := goodIn_r _ [6, 7, 15, 16, 17, 18, 19, 20, 21, 22, 23] (by decide +kernel) (by decide +kernel)
set_option maxRecDepth 20000 in
theorem gX8_isStand_X0_tradersOf : GoodIn wsX8_isStand (wsV RX8 161 RX0 yX0_tradersOf wsX0_tradersOf) := goodIn_app (goodIn_of _ (by decide +kernel)) ggX8_isStand_X0_tradersOf
theorem dX8_isStand_0 : decode cX8_isStand 0 = .ok (.iload_n 1, 1) := by decide +kernel
theorem dX8_isStand_1 : decode cX8_isStand 1 = .ok (.ifCond .lt 35, 3) := by decide +kernel
theorem dX8_isStand_4 : decode cX8_isStand 4 = .ok (.iload_n 1, 1) := by decide +kernel
theorem dX8_isStand_5 : decode cX8_isStand 5 = .ok (.aload_n 0, 1) := by decide +kernel
theorem dX8_isStand_6 : decode cX8_isStand 6 = .ok (.getfield 49, 3) := by decide +kernel
theorem dX8_isStand_9 : decode cX8_isStand 9 = .ok (.iconst 0, 1) := by decide +kernel
theorem dX8_isStand_10 : decode cX8_isStand 10 = .ok (.invokevirtual 161, 3) := by decide +kernel
theorem dX8_isStand_13 : decode cX8_isStand 13 = .ok (.if_icmp .gt 23, 3) := by decide +kernel
theorem dX8_isStand_16 : decode cX8_isStand 16 = .ok (.iload_n 2, 1) := by decide +kernel
theorem dX8_isStand_17 : decode cX8_isStand 17 = .ok (.ifCond .lt 19, 3) := by decide +kernel
theorem dX8_isStand_20 : decode cX8_isStand 20 = .ok (.iload_n 2, 1) := by decide +kernel
theorem dX8_isStand_21 : decode cX8_isStand 21 = .ok (.aload_n 0, 1) := by decide +kernel
theorem dX8_isStand_22 : decode cX8_isStand 22 = .ok (.getfield 49, 3) := by decide +kernel
theorem dX8_isStand_25 : decode cX8_isStand 25 = .ok (.iconst 1, 1) := by decide +kernel
theorem dX8_isStand_26 : decode cX8_isStand 26 = .ok (.invokevirtual 161, 3) := by decide +kernel
theorem dX8_isStand_29 : decode cX8_isStand 29 = .ok (.if_icmp .gt 7, 3) := by decide +kernel
theorem dX8_isStand_32 : decode cX8_isStand 32 = .ok (.iconst 1, 1) := by decide +kernel
theorem dX8_isStand_33 : decode cX8_isStand 33 = .ok (.goto 4, 3) := by decide +kernel
theorem dX8_isStand_36 : decode cX8_isStand 36 = .ok (.iconst 0, 1) := by decide +kernel
theorem dX8_isStand_37 : decode cX8_isStand 37 = .ok (.ireturn, 1) := by decide +kernel
set_option maxRecDepth 20000 in
theorem ggX8_tryText_X0_clear : GoodIn wsX8_tryText wsX0_clear := goodIn_r _ [8, 9, 10, 11, 12, 13, 14, 15, 16, 17, 18, 19, 20, 21, 22, 23, 24, 25, 26, 27, 28, 29, 30, 146, 147, 148, 149, 150, 151, 152, 153, 154, 155, 156, 157, 158, 159] (by decide +kernel) (by decide +kernel)
set_option maxRecDepth 20000 in
theorem gX8_tryText_X0_clear : GoodIn wsX8_tryText (wsV RX8 243 RX0 yX0_clear wsX0_clear) := goodIn_app (goodIn_of _ (by decide +kernel)) ggX8_tryText_X0_clear
set_option maxRecDepth 20000 in
theorem ggX8_tryText_X6_length : GoodIn wsX8_tryText wsX6_length := goodIn_r _ [35, 36, 160, 161] (by decide +kernel) (by decide +kernel)
set_option maxRecDepth 20000 in
theorem gX8_tryText_X6_length : GoodIn wsX8_tryText (wsV RX8 56 RX6 yX6_length wsX6_length) := goodIn_app (goodIn_of _ (by decide +kernel)) ggX8_tryText_X6_length
set_option maxRecDepth 20000 in
theorem ggX8_tryText_X2_readAt : GoodIn wsX8_tryText wsX2_readAt := goodIn_r _ [41, 42, 43, 44, 45, 46, 47, 34, 48, 36, 49, 50, 51, 52, 40, 53, 54, 55, 56, 57, 58, 59, 60, 61, 62, 63, 64, 65, 66, 67, 68, 69, 70, 71, 72, 73, 74, 75, 76, 77, 78, 79, 80, 81, 82, 83, 84, 85, 86, 87, 88, 89, 90, 91, 92, 93, 94, 162, 163, 164, 165, 166, 167, 160, 161] (by decide +kernel) (by decide +kernel)
set_option maxRecDepth 20000 in
theorem gX8_tryText_X2_readAt : GoodIn wsX8_tryText (wsV RX8 244 RX2 yX2_readAt wsX2_readAt) := goodIn_app (goodIn_of _ (by decide +kernel)) ggX8_tryText_X2_readAt
set_option maxRecDepth 20000 in
theorem ggX8_tryText_X0_accepts : GoodIn wsX8_tryText wsX0_accepts := goodIn_r _ [98, 9, 10, 11, 13, 14, 15, 17, 18, 16, 99, 100, 101, 40, 102, 63, 103, 104, 105, 106, 44, 107, 108, 7, 109, 110, 111, 112, 113, 54, 114, 115, 116, 117, 118, 119, 120, 86, 121, 89, 77, 90, 122, 123, 124, 125, 126, 127, 26, 128, 28, 129, 130, 131, 132, 133, 134, 29, 30, 146, 147, 148, 149, 150, 151, 152, 153, 154, 162, 163, 164, 165, 166, 167, 155, 156, 157, 158, 159] (by decide +kernel) (by decide +kernel)
set_option maxRecDepth 20000 in
theorem gX8_tryText_X0_accepts : GoodIn wsX8_tryText (wsV RX8 247 RX0 yX0_accepts wsX0_accepts) := goodIn_app (goodIn_of _ (by decide +kernel)) ggX8_tryText_X0_accepts
set_option maxRecDepth 20000 in
theorem ggX8_tryText_X2_behind : GoodIn wsX8_tryText wsX2_behind := goodIn_r _ [138, 42, 162, 163, 164, 165, 166, 167] (by decide +kernel) (by decide +kernel)
set_option maxRecDepth 20000 in
theorem gX8_tryText_X2_behind : GoodIn wsX8_tryText (wsV RX8 251 RX2 yX2_behind wsX2_behind) := goodIn_app (goodIn_of _ (by decide +kernel)) ggX8_tryText_X2_behind
theorem dX8_tryText_0 : decode cX8_tryText 0 = .ok (.aload_n 0, 1) := by decide +kernel
theorem dX8_tryText_1 : decode cX8_tryText 1 = .ok (.getfield 53, 3) := by decide +kernel
theorem dX8_tryText_4 : decode cX8_tryText 4 = .ok (.invokevirtual 243, 3) := by decide +kernel
theorem dX8_tryText_7 : decode cX8_tryText 7 = .ok (.iconst 0, 1) := by decide +kernel
theorem dX8_tryText_8 : decode cX8_tryText 8 = .ok (.istore_n 1, 1) := by decide +kernel
theorem dX8_tryText_9 : decode cX8_tryText 9 = .ok (.iconst 0, 1) := by decide +kernel
theorem dX8_tryText_10 : decode cX8_tryText 10 = .ok (.istore_n 2, 1) := by decide +kernel
theorem dX8_tryText_11 : decode cX8_tryText 11 = .ok (.iload_n 2, 1) := by decide +kernel
theorem dX8_tryText_12 : decode cX8_tryText 12 = .ok (.sipush 500, 3) := by decide +kernel
theorem dX8_tryText_15 : decode cX8_tryText 15 = .ok (.if_icmp .ge 55, 3) := by decide +kernel
theorem dX8_tryText_18 : decode cX8_tryText 18 = .ok (.iload_n 1, 1) := by decide +kernel
theorem dX8_tryText_19 : decode cX8_tryText 19 = .ok (.aload_n 0, 1) := by decide +kernel
theorem dX8_tryText_20 : decode cX8_tryText 20 = .ok (.getfield 10, 3) := by decide +kernel
theorem dX8_tryText_23 : decode cX8_tryText 23 = .ok (.invokevirtual 56, 3) := by decide +kernel
theorem dX8_tryText_26 : decode cX8_tryText 26 = .ok (.if_icmp .ge 44, 3) := by decide +kernel
theorem dX8_tryText_29 : decode cX8_tryText 29 = .ok (.aload_n 0, 1) := by decide +kernel
theorem dX8_tryText_30 : decode cX8_tryText 30 = .ok (.getfield 21, 3) := by decide +kernel
theorem dX8_tryText_33 : decode cX8_tryText 33 = .ok (.iload_n 1, 1) := by decide +kernel
theorem dX8_tryText_34 : decode cX8_tryText 34 = .ok (.invokevirtual 244, 3) := by decide +kernel
theorem dX8_tryText_37 : decode cX8_tryText 37 = .ok (.ifCond .eq 17, 3) := by decide +kernel
theorem dX8_tryText_40 : decode cX8_tryText 40 = .ok (.aload_n 0, 1) := by decide +kernel
theorem dX8_tryText_41 : decode cX8_tryText 41 = .ok (.getfield 53, 3) := by decide +kernel
theorem dX8_tryText_44 : decode cX8_tryText 44 = .ok (.aload_n 0, 1) := by decide +kernel
theorem dX8_tryText_45 : decode cX8_tryText 45 = .ok (.getfield 21, 3) := by decide +kernel
theorem dX8_tryText_48 : decode cX8_tryText 48 = .ok (.invokevirtual 247, 3) := by decide +kernel
theorem dX8_tryText_51 : decode cX8_tryText 51 = .ok (.ifCond .ne 5, 3) := by decide +kernel
theorem dX8_tryText_54 : decode cX8_tryText 54 = .ok (.iload_n 1, 1) := by decide +kernel
theorem dX8_tryText_55 : decode cX8_tryText 55 = .ok (.ireturn, 1) := by decide +kernel
theorem dX8_tryText_56 : decode cX8_tryText 56 = .ok (.aload_n 0, 1) := by decide +kernel
theorem dX8_tryText_57 : decode cX8_tryText 57 = .ok (.getfield 21, 3) := by decide +kernel
theorem dX8_tryText_60 : decode cX8_tryText 60 = .ok (.invokevirtual 251, 3) := by decide +kernel
theorem dX8_tryText_63 : decode cX8_tryText 63 = .ok (.istore_n 1, 1) := by decide +kernel
theorem dX8_tryText_64 : decode cX8_tryText 64 = .ok (.iinc 2 1, 3) := by decide +kernel
theorem dX8_tryText_67 : decode cX8_tryText 67 = .ok (.goto (-56), 3) := by decide +kernel
theorem dX8_tryText_70 : decode cX8_tryText 70 = .ok (.bipush (-4), 2) := by decide +kernel
theorem dX8_tryText_72 : decode cX8_tryText 72 = .ok (.ireturn, 1) := by decide +kernel
set_option maxRecDepth 20000 in
theorem ggX8_toldMeanings_X0_isTold : GoodIn wsX8_toldMeanings wsX0_isTold := goodIn_r _ [6, 7, 8, 9, 5, 10, 11, 12, 13, 14, 22, 23, 24, 25, 26, 27, 28, 29, 30] (by decide +kernel) (by decide +kernel)
set_option maxRecDepth 20000 in
theorem gX8_toldMeanings_X0_isTold : GoodIn wsX8_toldMeanings (wsV RX8 99 RX0 yX0_isTold wsX0_isTold) := goodIn_app (goodIn_of _ (by decide +kernel)) ggX8_toldMeanings_X0_isTold
theorem dX8_toldMeanings_0 : decode cX8_toldMeanings 0 = .ok (.iconst 0, 1) := by decide +kernel
theorem dX8_toldMeanings_1 : decode cX8_toldMeanings 1 = .ok (.istore_n 1, 1) := by decide +kernel
theorem dX8_toldMeanings_2 : decode cX8_toldMeanings 2 = .ok (.iconst 0, 1) := by decide +kernel
theorem dX8_toldMeanings_3 : decode cX8_toldMeanings 3 = .ok (.istore_n 2, 1) := by decide +kernel
theorem dX8_toldMeanings_4 : decode cX8_toldMeanings 4 = .ok (.iload_n 2, 1) := by decide +kernel
theorem dX8_toldMeanings_5 : decode cX8_toldMeanings 5 = .ok (.bipush 8, 2) := by decide +kernel
theorem dX8_toldMeanings_7 : decode cX8_toldMeanings 7 = .ok (.if_icmp .ge 23, 3) := by decide +kernel
theorem dX8_toldMeanings_10 : decode cX8_toldMeanings 10 = .ok (.aload_n 0, 1) := by decide +kernel
theorem dX8_toldMeanings_11 : decode cX8_toldMeanings 11 = .ok (.getfield 49, 3) := by decide +kernel
theorem dX8_toldMeanings_14 : decode cX8_toldMeanings 14 = .ok (.iload_n 2, 1) := by decide +kernel
theorem dX8_toldMeanings_15 : decode cX8_toldMeanings 15 = .ok (.invokevirtual 99, 3) := by decide +kernel
theorem dX8_toldMeanings_18 : decode cX8_toldMeanings 18 = .ok (.ifCond .eq 6, 3) := by decide +kernel
theorem dX8_toldMeanings_21 : decode cX8_toldMeanings 21 = .ok (.iinc 1 1, 3) := by decide +kernel
theorem dX8_toldMeanings_24 : decode cX8_toldMeanings 24 = .ok (.iinc 2 1, 3) := by decide +kernel
theorem dX8_toldMeanings_27 : decode cX8_toldMeanings 27 = .ok (.goto (-23), 3) := by decide +kernel
theorem dX8_toldMeanings_30 : decode cX8_toldMeanings 30 = .ok (.iload_n 1, 1) := by decide +kernel
theorem dX8_toldMeanings_31 : decode cX8_toldMeanings 31 = .ok (.ireturn, 1) := by decide +kernel
set_option maxRecDepth 20000 in
theorem ggX8_likeOfMeaning_X0_wordOf : GoodIn wsX8_likeOfMeaning wsX0_wordOf := goodIn_r _ [7, 8, 9, 10, 6, 11, 59, 60, 61, 62, 63, 64, 65, 66, 67] (by decide +kernel) (by decide +kernel)
set_option maxRecDepth 20000 in
theorem gX8_likeOfMeaning_X0_wordOf : GoodIn wsX8_likeOfMeaning (wsV RX8 81 RX0 yX0_wordOf wsX0_wordOf) := goodIn_app (goodIn_of _ (by decide +kernel)) ggX8_likeOfMeaning_X0_wordOf
set_option maxRecDepth 20000 in
theorem ggX8_likeOfMeaning_X0_saidBy : GoodIn wsX8_likeOfMeaning wsX0_saidBy := goodIn_r _ [15, 16, 17, 18, 19, 20, 21, 22, 23, 24, 25, 6, 26, 27, 28, 29, 30, 31, 32, 59, 60, 61, 62, 63, 64, 65, 66, 67] (by decide +kernel) (by decide +kernel)
set_option maxRecDepth 20000 in
theorem gX8_likeOfMeaning_X0_saidBy : GoodIn wsX8_likeOfMeaning (wsV RX8 85 RX0 yX0_saidBy wsX0_saidBy) := goodIn_app (goodIn_of _ (by decide +kernel)) ggX8_likeOfMeaning_X0_saidBy
set_option maxRecDepth 20000 in
theorem ggX8_likeOfMeaning_X3_likeness : GoodIn wsX8_likeOfMeaning wsX3_likeness := goodIn_r _ [37, 38, 39, 40, 41, 42, 17, 18, 19, 43, 44, 45, 36, 46, 47, 48, 49, 50, 51, 21, 22, 68] (by decide +kernel) (by decide +kernel)
set_option maxRecDepth 20000 in
theorem gX8_likeOfMeaning_X3_likeness : GoodIn wsX8_likeOfMeaning (wsV RX8 198 RX3 yX3_likeness wsX3_likeness) := goodIn_app (goodIn_of _ (by decide +kernel)) ggX8_likeOfMeaning_X3_likeness
theorem dX8_likeOfMeaning_0 : decode cX8_likeOfMeaning 0 = .ok (.aload_n 0, 1) := by decide +kernel
theorem dX8_likeOfMeaning_1 : decode cX8_likeOfMeaning 1 = .ok (.getfield 42, 3) := by decide +kernel
theorem dX8_likeOfMeaning_4 : decode cX8_likeOfMeaning 4 = .ok (.aload_n 0, 1) := by decide +kernel
theorem dX8_likeOfMeaning_5 : decode cX8_likeOfMeaning 5 = .ok (.getfield 49, 3) := by decide +kernel
theorem dX8_likeOfMeaning_8 : decode cX8_likeOfMeaning 8 = .ok (.iconst 1, 1) := by decide +kernel
theorem dX8_likeOfMeaning_9 : decode cX8_likeOfMeaning 9 = .ok (.aload_n 0, 1) := by decide +kernel
theorem dX8_likeOfMeaning_10 : decode cX8_likeOfMeaning 10 = .ok (.getfield 49, 3) := by decide +kernel
theorem dX8_likeOfMeaning_13 : decode cX8_likeOfMeaning 13 = .ok (.iconst 0, 1) := by decide +kernel
theorem dX8_likeOfMeaning_14 : decode cX8_likeOfMeaning 14 = .ok (.iload_n 1, 1) := by decide +kernel
theorem dX8_likeOfMeaning_15 : decode cX8_likeOfMeaning 15 = .ok (.invokevirtual 81, 3) := by decide +kernel
theorem dX8_likeOfMeaning_18 : decode cX8_likeOfMeaning 18 = .ok (.invokevirtual 85, 3) := by decide +kernel
theorem dX8_likeOfMeaning_21 : decode cX8_likeOfMeaning 21 = .ok (.aload_n 0, 1) := by decide +kernel
theorem dX8_likeOfMeaning_22 : decode cX8_likeOfMeaning 22 = .ok (.getfield 49, 3) := by decide +kernel
theorem dX8_likeOfMeaning_25 : decode cX8_likeOfMeaning 25 = .ok (.iconst 1, 1) := by decide +kernel
theorem dX8_likeOfMeaning_26 : decode cX8_likeOfMeaning 26 = .ok (.iload_n 1, 1) := by decide +kernel
theorem dX8_likeOfMeaning_27 : decode cX8_likeOfMeaning 27 = .ok (.invokevirtual 81, 3) := by decide +kernel
theorem dX8_likeOfMeaning_30 : decode cX8_likeOfMeaning 30 = .ok (.invokevirtual 198, 3) := by decide +kernel
theorem dX8_likeOfMeaning_33 : decode cX8_likeOfMeaning 33 = .ok (.ireturn, 1) := by decide +kernel
set_option maxRecDepth 20000 in
theorem ggX8_isAlike_X8_likeOfMeaning : GoodIn wsX8_isAlike wsX8_likeOfMeaning := goodIn_r _ [6, 7, 1, 8, 9, 10, 11, 12, 13, 14, 15, 16, 17, 18, 19, 20, 21, 22, 23, 24, 25, 26, 27, 28, 29, 30, 31, 32, 33, 34, 35, 36, 37, 38, 39, 40, 41, 42, 43, 44, 45, 46, 47, 48, 49, 50, 51, 52, 53, 54, 55, 56, 62, 63, 64, 65, 66, 67, 68, 69, 70, 71, 72, 73, 74, 75, 76, 77, 78] (by decide +kernel) (by decide +kernel)
set_option maxRecDepth 20000 in
theorem gX8_isAlike_X8_likeOfMeaning : GoodIn wsX8_isAlike (wsV RX8 102 RX8 yX8_likeOfMeaning wsX8_likeOfMeaning) := goodIn_app (goodIn_of _ (by decide +kernel)) ggX8_isAlike_X8_likeOfMeaning
set_option maxRecDepth 20000 in
theorem ggX8_isAlike_X0_alikeFrom : GoodIn wsX8_isAlike wsX0_alikeFrom := goodIn_r _ [60, 61, 69, 70, 71, 72, 73, 74, 75, 76, 77] (by decide +kernel) (by decide +kernel)
set_option maxRecDepth 20000 in
theorem gX8_isAlike_X0_alikeFrom : GoodIn wsX8_isAlike (wsV RX8 195 RX0 yX0_alikeFrom wsX0_alikeFrom) := goodIn_app (goodIn_of _ (by decide +kernel)) ggX8_isAlike_X0_alikeFrom
theorem dX8_isAlike_0 : decode cX8_isAlike 0 = .ok (.aload_n 0, 1) := by decide +kernel
theorem dX8_isAlike_1 : decode cX8_isAlike 1 = .ok (.iload_n 1, 1) := by decide +kernel
theorem dX8_isAlike_2 : decode cX8_isAlike 2 = .ok (.invokevirtual 102, 3) := by decide +kernel
theorem dX8_isAlike_5 : decode cX8_isAlike 5 = .ok (.aload_n 0, 1) := by decide +kernel
theorem dX8_isAlike_6 : decode cX8_isAlike 6 = .ok (.getfield 49, 3) := by decide +kernel
theorem dX8_isAlike_9 : decode cX8_isAlike 9 = .ok (.invokevirtual 195, 3) := by decide +kernel
theorem dX8_isAlike_12 : decode cX8_isAlike 12 = .ok (.if_icmp .lt 7, 3) := by decide +kernel
theorem dX8_isAlike_15 : decode cX8_isAlike 15 = .ok (.iconst 1, 1) := by decide +kernel
theorem dX8_isAlike_16 : decode cX8_isAlike 16 = .ok (.goto 4, 3) := by decide +kernel
theorem dX8_isAlike_19 : decode cX8_isAlike 19 = .ok (.iconst 0, 1) := by decide +kernel
theorem dX8_isAlike_20 : decode cX8_isAlike 20 = .ok (.ireturn, 1) := by decide +kernel
