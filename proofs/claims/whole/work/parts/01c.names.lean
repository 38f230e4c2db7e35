set_option maxRecDepth 20000 in
theorem ggX8_takeHabits_X8_isAlike : GoodIn wsX8_takeHabits wsX8_isAlike := goodIn_r _ [7, 2, 8, 9, 10, 6, 11, 12, 13, 14, 15, 16, 17, 18, 19, 20, 21, 22, 23, 24, 25, 26, 27, 28, 29, 30, 31, 32, 33, 34, 35, 36, 37, 38, 39, 40, 41, 42, 43, 44, 45, 46, 47, 48, 49, 50, 51, 52, 53, 54, 55, 56, 57, 58, 59, 60, 61, 62, 63, 64, 65, 66, 84, 85, 86, 87, 88, 89, 90, 91, 92, 93, 94, 95, 96, 97, 98, 99, 100] (by decide +kernel) (by decide +kernel)
set_option maxRecDepth 20000 in
theorem gX8_takeHabits_X8_isAlike : GoodIn wsX8_takeHabits (wsV RX8 158 RX8 yX8_isAlike wsX8_isAlike) := goodIn_app (goodIn_of _ (by decide +kernel)) ggX8_takeHabits_X8_isAlike
set_option maxRecDepth 20000 in
theorem ggX8_takeHabits_X0_speaksOfTen : GoodIn wsX8_takeHabits wsX0_speaksOfTen := goodIn_r _ [70, 71, 91, 92, 93, 94, 95, 96, 97, 98, 99] (by decide +kernel) (by decide +kernel)
set_option maxRecDepth 20000 in
theorem gX8_takeHabits_X0_speaksOfTen : GoodIn wsX8_takeHabits (wsV RX8 164 RX0 yX0_speaksOfTen wsX0_speaksOfTen) := goodIn_app (goodIn_of _ (by decide +kernel)) ggX8_takeHabits_X0_speaksOfTen
set_option maxRecDepth 20000 in
theorem ggX8_takeHabits_X0_takesOfTen : GoodIn wsX8_takeHabits wsX0_takesOfTen := goodIn_r _ [75, 76, 91, 92, 93, 94, 95, 96, 97, 98, 99] (by decide +kernel) (by decide +kernel)
set_option maxRecDepth 20000 in
theorem gX8_takeHabits_X0_takesOfTen : GoodIn wsX8_takeHabits (wsV RX8 254 RX0 yX0_takesOfTen wsX0_takesOfTen) := goodIn_app (goodIn_of _ (by decide +kernel)) ggX8_takeHabits_X0_takesOfTen
set_option maxRecDepth 20000 in
theorem ggX8_takeHabits_X1_habits : GoodIn wsX8_takeHabits wsX1_habits := goodIn_r _ [81, 82, 83, 101, 102, 103, 104, 105, 106, 107] (by decide +kernel) (by decide +kernel)
set_option maxRecDepth 20000 in
theorem gX8_takeHabits_X1_habits : GoodIn wsX8_takeHabits (wsV RX8 167 RX1 yX1_habits wsX1_habits) := goodIn_app (goodIn_of _ (by decide +kernel)) ggX8_takeHabits_X1_habits
theorem dX8_takeHabits_0 : decode cX8_takeHabits 0 = .ok (.aload_n 0, 1) := by decide +kernel
theorem dX8_takeHabits_1 : decode cX8_takeHabits 1 = .ok (.iload_n 1, 1) := by decide +kernel
theorem dX8_takeHabits_2 : decode cX8_takeHabits 2 = .ok (.invokevirtual 158, 3) := by decide +kernel
theorem dX8_takeHabits_5 : decode cX8_takeHabits 5 = .ok (.istore_n 2, 1) := by decide +kernel
theorem dX8_takeHabits_6 : decode cX8_takeHabits 6 = .ok (.aload_n 0, 1) := by decide +kernel
theorem dX8_takeHabits_7 : decode cX8_takeHabits 7 = .ok (.getfield 35, 3) := by decide +kernel
theorem dX8_takeHabits_10 : decode cX8_takeHabits 10 = .ok (.aload_n 0, 1) := by decide +kernel
theorem dX8_takeHabits_11 : decode cX8_takeHabits 11 = .ok (.getfield 49, 3) := by decide +kernel
theorem dX8_takeHabits_14 : decode cX8_takeHabits 14 = .ok (.invokevirtual 164, 3) := by decide +kernel
theorem dX8_takeHabits_17 : decode cX8_takeHabits 17 = .ok (.iload_n 2, 1) := by decide +kernel
theorem dX8_takeHabits_18 : decode cX8_takeHabits 18 = .ok (.ifCond .eq 7, 3) := by decide +kernel
theorem dX8_takeHabits_21 : decode cX8_takeHabits 21 = .ok (.iconst 0, 1) := by decide +kernel
theorem dX8_takeHabits_22 : decode cX8_takeHabits 22 = .ok (.goto 11, 3) := by decide +kernel
theorem dX8_takeHabits_25 : decode cX8_takeHabits 25 = .ok (.aload_n 0, 1) := by decide +kernel
theorem dX8_takeHabits_26 : decode cX8_takeHabits 26 = .ok (.getfield 49, 3) := by decide +kernel
theorem dX8_takeHabits_29 : decode cX8_takeHabits 29 = .ok (.iconst 0, 1) := by decide +kernel
theorem dX8_takeHabits_30 : decode cX8_takeHabits 30 = .ok (.invokevirtual 254, 3) := by decide +kernel
theorem dX8_takeHabits_33 : decode cX8_takeHabits 33 = .ok (.iload_n 2, 1) := by decide +kernel
theorem dX8_takeHabits_34 : decode cX8_takeHabits 34 = .ok (.ifCond .eq 7, 3) := by decide +kernel
theorem dX8_takeHabits_37 : decode cX8_takeHabits 37 = .ok (.iconst 0, 1) := by decide +kernel
theorem dX8_takeHabits_38 : decode cX8_takeHabits 38 = .ok (.goto 11, 3) := by decide +kernel
theorem dX8_takeHabits_41 : decode cX8_takeHabits 41 = .ok (.aload_n 0, 1) := by decide +kernel
theorem dX8_takeHabits_42 : decode cX8_takeHabits 42 = .ok (.getfield 49, 3) := by decide +kernel
theorem dX8_takeHabits_45 : decode cX8_takeHabits 45 = .ok (.iconst 1, 1) := by decide +kernel
theorem dX8_takeHabits_46 : decode cX8_takeHabits 46 = .ok (.invokevirtual 254, 3) := by decide +kernel
theorem dX8_takeHabits_49 : decode cX8_takeHabits 49 = .ok (.invokevirtual 167, 3) := by decide +kernel
theorem dX8_takeHabits_52 : decode cX8_takeHabits 52 = .ok (.return_, 1) := by decide +kernel
set_option maxRecDepth 20000 in
theorem ggX8_startCrowdAsNow_X8_takeHabits : GoodIn wsX8_startCrowdAsNow wsX8_takeHabits := goodIn_r _ [8, 1, 2, 9, 10, 11, 7, 12, 13, 14, 15, 16, 17, 18, 19, 20, 21, 22, 23, 24, 25, 26, 27, 28, 29, 30, 31, 32, 33, 34, 35, 36, 37, 38, 39, 40, 41, 42, 43, 44, 45, 46, 47, 48, 49, 50, 51, 52, 53, 54, 55, 56, 57, 58, 59, 60, 61, 62, 63, 64, 65, 66, 67, 68, 69, 70, 71, 72, 73, 74, 75, 76, 77, 78, 79, 80, 81, 82, 83, 84, 85, 86, 87, 88, 121, 122, 123, 124, 125, 126, 127, 128, 129, 130, 131, 132, 133, 134, 135, 136, 137, 138, 139, 140, 141, 142, 143, 144] (by decide +kernel) (by decide +kernel)
set_option maxRecDepth 20000 in
theorem gX8_startCrowdAsNow_X8_takeHabits : GoodIn wsX8_startCrowdAsNow (wsV RX8 148 RX8 yX8_takeHabits wsX8_takeHabits) := goodIn_app (goodIn_of _ (by decide +kernel)) ggX8_startCrowdAsNow_X8_takeHabits
set_option maxRecDepth 20000 in
theorem ggX8_startCrowdAsNow_X0_tradersOf : GoodIn wsX8_startCrowdAsNow wsX0_tradersOf := goodIn_r _ [92, 93, 128, 129, 130, 131, 132, 133, 134, 135, 136] (by decide +kernel) (by decide +kernel)
set_option maxRecDepth 20000 in
theorem gX8_startCrowdAsNow_X0_tradersOf : GoodIn wsX8_startCrowdAsNow (wsV RX8 161 RX0 yX0_tradersOf wsX0_tradersOf) := goodIn_app (goodIn_of _ (by decide +kernel)) ggX8_startCrowdAsNow_X0_tradersOf
set_option maxRecDepth 20000 in
theorem ggX8_startCrowdAsNow_X1_gather : GoodIn wsX8_startCrowdAsNow wsX1_gather := goodIn_r _ [97, 98, 63, 55, 64, 99, 54, 56, 100, 101, 138, 139, 140, 141, 142, 143, 144] (by decide +kernel) (by decide +kernel)
set_option maxRecDepth 20000 in
theorem gX8_startCrowdAsNow_X1_gather : GoodIn wsX8_startCrowdAsNow (wsV RX8 151 RX1 yX1_gather wsX1_gather) := goodIn_app (goodIn_of _ (by decide +kernel)) ggX8_startCrowdAsNow_X1_gather
set_option maxRecDepth 20000 in
theorem ggX8_startCrowdAsNow_X5_of : GoodIn wsX8_startCrowdAsNow wsX5_of := goodIn_r _ [106, 107, 145, 146, 147] (by decide +kernel) (by decide +kernel)
set_option maxRecDepth 20000 in
theorem gX8_startCrowdAsNow_X5_of : GoodIn wsX8_startCrowdAsNow (wsV RX8 105 RX5 yX5_of wsX5_of) := goodIn_app (goodIn_of _ (by decide +kernel)) ggX8_startCrowdAsNow_X5_of
set_option maxRecDepth 20000 in
theorem ggX8_startCrowdAsNow_X1_begin : GoodIn wsX8_startCrowdAsNow wsX1_begin := goodIn_r _ [111, 112, 113, 114, 115, 116, 117, 118, 119, 85, 120, 138, 139, 140, 141, 142, 143, 144] (by decide +kernel) (by decide +kernel)
set_option maxRecDepth 20000 in
theorem gX8_startCrowdAsNow_X1_begin : GoodIn wsX8_startCrowdAsNow (wsV RX8 155 RX1 yX1_begin wsX1_begin) := goodIn_app (goodIn_of _ (by decide +kernel)) ggX8_startCrowdAsNow_X1_begin
theorem dX8_startCrowdAsNow_0 : decode cX8_startCrowdAsNow 0 = .ok (.aload_n 0, 1) := by decide +kernel
theorem dX8_startCrowdAsNow_1 : decode cX8_startCrowdAsNow 1 = .ok (.iload_n 1, 1) := by decide +kernel
theorem dX8_startCrowdAsNow_2 : decode cX8_startCrowdAsNow 2 = .ok (.invokevirtual 148, 3) := by decide +kernel
theorem dX8_startCrowdAsNow_5 : decode cX8_startCrowdAsNow 5 = .ok (.aload_n 0, 1) := by decide +kernel
theorem dX8_startCrowdAsNow_6 : decode cX8_startCrowdAsNow 6 = .ok (.getfield 35, 3) := by decide +kernel
theorem dX8_startCrowdAsNow_9 : decode cX8_startCrowdAsNow 9 = .ok (.aload_n 0, 1) := by decide +kernel
theorem dX8_startCrowdAsNow_10 : decode cX8_startCrowdAsNow 10 = .ok (.getfield 49, 3) := by decide +kernel
theorem dX8_startCrowdAsNow_13 : decode cX8_startCrowdAsNow 13 = .ok (.iconst 0, 1) := by decide +kernel
theorem dX8_startCrowdAsNow_14 : decode cX8_startCrowdAsNow 14 = .ok (.invokevirtual 161, 3) := by decide +kernel
theorem dX8_startCrowdAsNow_17 : decode cX8_startCrowdAsNow 17 = .ok (.aload_n 0, 1) := by decide +kernel
theorem dX8_startCrowdAsNow_18 : decode cX8_startCrowdAsNow 18 = .ok (.getfield 49, 3) := by decide +kernel
theorem dX8_startCrowdAsNow_21 : decode cX8_startCrowdAsNow 21 = .ok (.iconst 1, 1) := by decide +kernel
theorem dX8_startCrowdAsNow_22 : decode cX8_startCrowdAsNow 22 = .ok (.invokevirtual 161, 3) := by decide +kernel
theorem dX8_startCrowdAsNow_25 : decode cX8_startCrowdAsNow 25 = .ok (.invokevirtual 151, 3) := by decide +kernel
theorem dX8_startCrowdAsNow_28 : decode cX8_startCrowdAsNow 28 = .ok (.aload_n 0, 1) := by decide +kernel
theorem dX8_startCrowdAsNow_29 : decode cX8_startCrowdAsNow 29 = .ok (.getfield 35, 3) := by decide +kernel
theorem dX8_startCrowdAsNow_32 : decode cX8_startCrowdAsNow 32 = .ok (.aload_n 0, 1) := by decide +kernel
theorem dX8_startCrowdAsNow_33 : decode cX8_startCrowdAsNow 33 = .ok (.getfield 28, 3) := by decide +kernel
theorem dX8_startCrowdAsNow_36 : decode cX8_startCrowdAsNow 36 = .ok (.iload_n 1, 1) := by decide +kernel
theorem dX8_startCrowdAsNow_37 : decode cX8_startCrowdAsNow 37 = .ok (.iconst 0, 1) := by decide +kernel
theorem dX8_startCrowdAsNow_38 : decode cX8_startCrowdAsNow 38 = .ok (.invokevirtual 105, 3) := by decide +kernel
theorem dX8_startCrowdAsNow_41 : decode cX8_startCrowdAsNow 41 = .ok (.aload_n 0, 1) := by decide +kernel
theorem dX8_startCrowdAsNow_42 : decode cX8_startCrowdAsNow 42 = .ok (.getfield 28, 3) := by decide +kernel
theorem dX8_startCrowdAsNow_45 : decode cX8_startCrowdAsNow 45 = .ok (.iload_n 1, 1) := by decide +kernel
theorem dX8_startCrowdAsNow_46 : decode cX8_startCrowdAsNow 46 = .ok (.iconst 1, 1) := by decide +kernel
theorem dX8_startCrowdAsNow_47 : decode cX8_startCrowdAsNow 47 = .ok (.invokevirtual 105, 3) := by decide +kernel
theorem dX8_startCrowdAsNow_50 : decode cX8_startCrowdAsNow 50 = .ok (.invokevirtual 155, 3) := by decide +kernel
theorem dX8_startCrowdAsNow_53 : decode cX8_startCrowdAsNow 53 = .ok (.return_, 1) := by decide +kernel
theorem dX8_draw_0 : decode cX8_draw 0 = .ok (.ldc2_w 257, 3) := by decide +kernel
theorem dX8_draw_3 : decode cX8_draw 3 = .ok (.iload_n 0, 1) := by decide +kernel
theorem dX8_draw_4 : decode cX8_draw 4 = .ok (.i2l, 1) := by decide +kernel
theorem dX8_draw_5 : decode cX8_draw 5 = .ok (.lmul, 1) := by decide +kernel
theorem dX8_draw_6 : decode cX8_draw 6 = .ok (.ldc2_w 259, 3) := by decide +kernel
theorem dX8_draw_9 : decode cX8_draw 9 = .ok (.iload_n 1, 1) := by decide +kernel
theorem dX8_draw_10 : decode cX8_draw 10 = .ok (.i2l, 1) := by decide +kernel
theorem dX8_draw_11 : decode cX8_draw 11 = .ok (.lmul, 1) := by decide +kernel
theorem dX8_draw_12 : decode cX8_draw 12 = .ok (.ladd, 1) := by decide +kernel
theorem dX8_draw_13 : decode cX8_draw 13 = .ok (.ldc2_w 261, 3) := by decide +kernel
theorem dX8_draw_16 : decode cX8_draw 16 = .ok (.iload_n 2, 1) := by decide +kernel
theorem dX8_draw_17 : decode cX8_draw 17 = .ok (.i2l, 1) := by decide +kernel
theorem dX8_draw_18 : decode cX8_draw 18 = .ok (.lmul, 1) := by decide +kernel
theorem dX8_draw_19 : decode cX8_draw 19 = .ok (.ladd, 1) := by decide +kernel
theorem dX8_draw_20 : decode cX8_draw 20 = .ok (.ldc2_w 263, 3) := by decide +kernel
theorem dX8_draw_23 : decode cX8_draw 23 = .ok (.iload_n 3, 1) := by decide +kernel
theorem dX8_draw_24 : decode cX8_draw 24 = .ok (.i2l, 1) := by decide +kernel
theorem dX8_draw_25 : decode cX8_draw 25 = .ok (.lmul, 1) := by decide +kernel
theorem dX8_draw_26 : decode cX8_draw 26 = .ok (.ladd, 1) := by decide +kernel
theorem dX8_draw_27 : decode cX8_draw 27 = .ok (.lconst 1, 1) := by decide +kernel
theorem dX8_draw_28 : decode cX8_draw 28 = .ok (.ladd, 1) := by decide +kernel
theorem dX8_draw_29 : decode cX8_draw 29 = .ok (.lstore 4, 2) := by decide +kernel
theorem dX8_draw_31 : decode cX8_draw 31 = .ok (.lload 4, 2) := by decide +kernel
theorem dX8_draw_33 : decode cX8_draw 33 = .ok (.lload 4, 2) := by decide +kernel
theorem dX8_draw_35 : decode cX8_draw 35 = .ok (.lmul, 1) := by decide +kernel
theorem dX8_draw_36 : decode cX8_draw 36 = .ok (.ldc2_w 265, 3) := by decide +kernel
theorem dX8_draw_39 : decode cX8_draw 39 = .ok (.lrem, 1) := by decide +kernel
theorem dX8_draw_40 : decode cX8_draw 40 = .ok (.l2i, 1) := by decide +kernel
theorem dX8_draw_41 : decode cX8_draw 41 = .ok (.ireturn, 1) := by decide +kernel
set_option maxRecDepth 20000 in
theorem ggX8_meetByDraw_X8_draw : GoodIn wsX8_meetByDraw wsX8_draw := goodIn_r _ [6, 7, 8, 9, 10, 11] (by decide +kernel) (by decide +kernel)
set_option maxRecDepth 20000 in
theorem gX8_meetByDraw_X8_draw : GoodIn wsX8_meetByDraw (va_wsS RX8 267 yX8_draw wsX8_draw) := goodIn_app (goodIn_of _ (by decide +kernel)) ggX8_meetByDraw_X8_draw
set_option maxRecDepth 20000 in
theorem ggX8_meetByDraw_X0_tradersOf : GoodIn wsX8_meetByDraw wsX0_tradersOf := goodIn_r _ [16, 17, 45, 46, 47, 48, 49, 50, 51, 52, 53] (by decide +kernel) (by decide +kernel)
set_option maxRecDepth 20000 in
theorem gX8_meetByDraw_X0_tradersOf : GoodIn wsX8_meetByDraw (wsV RX8 161 RX0 yX0_tradersOf wsX0_tradersOf) := goodIn_app (goodIn_of _ (by decide +kernel)) ggX8_meetByDraw_X0_tradersOf
set_option maxRecDepth 20000 in
theorem ggX8_meetByDraw_X5_of : GoodIn wsX8_meetByDraw wsX5_of := goodIn_r _ [22, 23, 54, 55, 56] (by decide +kernel) (by decide +kernel)
set_option maxRecDepth 20000 in
theorem gX8_meetByDraw_X5_of : GoodIn wsX8_meetByDraw (wsV RX8 105 RX5 yX5_of wsX5_of) := goodIn_app (goodIn_of _ (by decide +kernel)) ggX8_meetByDraw_X5_of
set_option maxRecDepth 20000 in
theorem ggX8_meetByDraw_X0_speaksOfTen : GoodIn wsX8_meetByDraw wsX0_speaksOfTen := goodIn_r _ [27, 28, 45, 46, 47, 48, 49, 50, 51, 52, 53] (by decide +kernel) (by decide +kernel)
set_option maxRecDepth 20000 in
theorem gX8_meetByDraw_X0_speaksOfTen : GoodIn wsX8_meetByDraw (wsV RX8 164 RX0 yX0_speaksOfTen wsX0_speaksOfTen) := goodIn_app (goodIn_of _ (by decide +kernel)) ggX8_meetByDraw_X0_speaksOfTen
set_option maxRecDepth 20000 in
theorem ggX8_meetByDraw_X0_takesOfTen : GoodIn wsX8_meetByDraw wsX0_takesOfTen := goodIn_r _ [32, 33, 45, 46, 47, 48, 49, 50, 51, 52, 53] (by decide +kernel) (by decide +kernel)
set_option maxRecDepth 20000 in
theorem gX8_meetByDraw_X0_takesOfTen : GoodIn wsX8_meetByDraw (wsV RX8 254 RX0 yX0_takesOfTen wsX0_takesOfTen) := goodIn_app (goodIn_of _ (by decide +kernel)) ggX8_meetByDraw_X0_takesOfTen
set_option maxRecDepth 20000 in
theorem ggX8_meetByDraw_X5_change : GoodIn wsX8_meetByDraw wsX5_change := goodIn_r _ [37, 23, 54, 55, 56] (by decide +kernel) (by decide +kernel)
set_option maxRecDepth 20000 in
theorem gX8_meetByDraw_X5_change : GoodIn wsX8_meetByDraw (wsV RX8 271 RX5 yX5_change wsX5_change) := goodIn_app (goodIn_of _ (by decide +kernel)) ggX8_meetByDraw_X5_change
theorem dX8_meetByDraw_0 : decode cX8_meetByDraw 0 = .ok (.iload_n 1, 1) := by decide +kernel
theorem dX8_meetByDraw_1 : decode cX8_meetByDraw 1 = .ok (.iload_n 2, 1) := by decide +kernel
theorem dX8_meetByDraw_2 : decode cX8_meetByDraw 2 = .ok (.iconst 2, 1) := by decide +kernel
theorem dX8_meetByDraw_3 : decode cX8_meetByDraw 3 = .ok (.iload_n 3, 1) := by decide +kernel
theorem dX8_meetByDraw_4 : decode cX8_meetByDraw 4 = .ok (.invokestatic 267, 3) := by decide +kernel
theorem dX8_meetByDraw_7 : decode cX8_meetByDraw 7 = .ok (.aload_n 0, 1) := by decide +kernel
theorem dX8_meetByDraw_8 : decode cX8_meetByDraw 8 = .ok (.getfield 49, 3) := by decide +kernel
theorem dX8_meetByDraw_11 : decode cX8_meetByDraw 11 = .ok (.iconst 0, 1) := by decide +kernel
theorem dX8_meetByDraw_12 : decode cX8_meetByDraw 12 = .ok (.invokevirtual 161, 3) := by decide +kernel
theorem dX8_meetByDraw_15 : decode cX8_meetByDraw 15 = .ok (.irem, 1) := by decide +kernel
theorem dX8_meetByDraw_16 : decode cX8_meetByDraw 16 = .ok (.aload_n 0, 1) := by decide +kernel
theorem dX8_meetByDraw_17 : decode cX8_meetByDraw 17 = .ok (.getfield 28, 3) := by decide +kernel
theorem dX8_meetByDraw_20 : decode cX8_meetByDraw 20 = .ok (.iload_n 3, 1) := by decide +kernel
theorem dX8_meetByDraw_21 : decode cX8_meetByDraw 21 = .ok (.iconst 0, 1) := by decide +kernel
theorem dX8_meetByDraw_22 : decode cX8_meetByDraw 22 = .ok (.invokevirtual 105, 3) := by decide +kernel
theorem dX8_meetByDraw_25 : decode cX8_meetByDraw 25 = .ok (.if_icmp .ge 7, 3) := by decide +kernel
theorem dX8_meetByDraw_28 : decode cX8_meetByDraw 28 = .ok (.iconst 1, 1) := by decide +kernel
theorem dX8_meetByDraw_29 : decode cX8_meetByDraw 29 = .ok (.goto 4, 3) := by decide +kernel
theorem dX8_meetByDraw_32 : decode cX8_meetByDraw 32 = .ok (.iconst 0, 1) := by decide +kernel
theorem dX8_meetByDraw_33 : decode cX8_meetByDraw 33 = .ok (.istore 4, 2) := by decide +kernel
theorem dX8_meetByDraw_35 : decode cX8_meetByDraw 35 = .ok (.iload_n 1, 1) := by decide +kernel
theorem dX8_meetByDraw_36 : decode cX8_meetByDraw 36 = .ok (.iload_n 2, 1) := by decide +kernel
theorem dX8_meetByDraw_37 : decode cX8_meetByDraw 37 = .ok (.iconst 3, 1) := by decide +kernel
theorem dX8_meetByDraw_38 : decode cX8_meetByDraw 38 = .ok (.iload_n 3, 1) := by decide +kernel
theorem dX8_meetByDraw_39 : decode cX8_meetByDraw 39 = .ok (.invokestatic 267, 3) := by decide +kernel
theorem dX8_meetByDraw_42 : decode cX8_meetByDraw 42 = .ok (.aload_n 0, 1) := by decide +kernel
theorem dX8_meetByDraw_43 : decode cX8_meetByDraw 43 = .ok (.getfield 49, 3) := by decide +kernel
theorem dX8_meetByDraw_46 : decode cX8_meetByDraw 46 = .ok (.iconst 1, 1) := by decide +kernel
theorem dX8_meetByDraw_47 : decode cX8_meetByDraw 47 = .ok (.invokevirtual 161, 3) := by decide +kernel
theorem dX8_meetByDraw_50 : decode cX8_meetByDraw 50 = .ok (.irem, 1) := by decide +kernel
theorem dX8_meetByDraw_51 : decode cX8_meetByDraw 51 = .ok (.aload_n 0, 1) := by decide +kernel
theorem dX8_meetByDraw_52 : decode cX8_meetByDraw 52 = .ok (.getfield 28, 3) := by decide +kernel
theorem dX8_meetByDraw_55 : decode cX8_meetByDraw 55 = .ok (.iload_n 3, 1) := by decide +kernel
theorem dX8_meetByDraw_56 : decode cX8_meetByDraw 56 = .ok (.iconst 1, 1) := by decide +kernel
theorem dX8_meetByDraw_57 : decode cX8_meetByDraw 57 = .ok (.invokevirtual 105, 3) := by decide +kernel
theorem dX8_meetByDraw_60 : decode cX8_meetByDraw 60 = .ok (.if_icmp .ge 7, 3) := by decide +kernel
theorem dX8_meetByDraw_63 : decode cX8_meetByDraw 63 = .ok (.iconst 1, 1) := by decide +kernel
theorem dX8_meetByDraw_64 : decode cX8_meetByDraw 64 = .ok (.goto 4, 3) := by decide +kernel
theorem dX8_meetByDraw_67 : decode cX8_meetByDraw 67 = .ok (.iconst 0, 1) := by decide +kernel
theorem dX8_meetByDraw_68 : decode cX8_meetByDraw 68 = .ok (.istore 5, 2) := by decide +kernel
theorem dX8_meetByDraw_70 : decode cX8_meetByDraw 70 = .ok (.iload 4, 2) := by decide +kernel
theorem dX8_meetByDraw_72 : decode cX8_meetByDraw 72 = .ok (.iload 5, 2) := by decide +kernel
theorem dX8_meetByDraw_74 : decode cX8_meetByDraw 74 = .ok (.if_icmp .eq 4, 3) := by decide +kernel
theorem dX8_meetByDraw_77 : decode cX8_meetByDraw 77 = .ok (.return_, 1) := by decide +kernel
theorem dX8_meetByDraw_78 : decode cX8_meetByDraw 78 = .ok (.iload_n 1, 1) := by decide +kernel
theorem dX8_meetByDraw_79 : decode cX8_meetByDraw 79 = .ok (.iload_n 2, 1) := by decide +kernel
theorem dX8_meetByDraw_80 : decode cX8_meetByDraw 80 = .ok (.iconst 1, 1) := by decide +kernel
theorem dX8_meetByDraw_81 : decode cX8_meetByDraw 81 = .ok (.iload_n 3, 1) := by decide +kernel
theorem dX8_meetByDraw_82 : decode cX8_meetByDraw 82 = .ok (.invokestatic 267, 3) := by decide +kernel
theorem dX8_meetByDraw_85 : decode cX8_meetByDraw 85 = .ok (.bipush 10, 2) := by decide +kernel
theorem dX8_meetByDraw_87 : decode cX8_meetByDraw 87 = .ok (.irem, 1) := by decide +kernel
theorem dX8_meetByDraw_88 : decode cX8_meetByDraw 88 = .ok (.aload_n 0, 1) := by decide +kernel
theorem dX8_meetByDraw_89 : decode cX8_meetByDraw 89 = .ok (.getfield 49, 3) := by decide +kernel
theorem dX8_meetByDraw_92 : decode cX8_meetByDraw 92 = .ok (.invokevirtual 164, 3) := by decide +kernel
theorem dX8_meetByDraw_95 : decode cX8_meetByDraw 95 = .ok (.if_icmp .ge 7, 3) := by decide +kernel
theorem dX8_meetByDraw_98 : decode cX8_meetByDraw 98 = .ok (.iconst 1, 1) := by decide +kernel
theorem dX8_meetByDraw_99 : decode cX8_meetByDraw 99 = .ok (.goto 4, 3) := by decide +kernel
theorem dX8_meetByDraw_102 : decode cX8_meetByDraw 102 = .ok (.iconst 0, 1) := by decide +kernel
theorem dX8_meetByDraw_103 : decode cX8_meetByDraw 103 = .ok (.istore 6, 2) := by decide +kernel
theorem dX8_meetByDraw_105 : decode cX8_meetByDraw 105 = .ok (.iload_n 1, 1) := by decide +kernel
theorem dX8_meetByDraw_106 : decode cX8_meetByDraw 106 = .ok (.iload_n 2, 1) := by decide +kernel
theorem dX8_meetByDraw_107 : decode cX8_meetByDraw 107 = .ok (.iconst 4, 1) := by decide +kernel
theorem dX8_meetByDraw_108 : decode cX8_meetByDraw 108 = .ok (.iload_n 3, 1) := by decide +kernel
theorem dX8_meetByDraw_109 : decode cX8_meetByDraw 109 = .ok (.invokestatic 267, 3) := by decide +kernel
theorem dX8_meetByDraw_112 : decode cX8_meetByDraw 112 = .ok (.bipush 10, 2) := by decide +kernel
theorem dX8_meetByDraw_114 : decode cX8_meetByDraw 114 = .ok (.irem, 1) := by decide +kernel
theorem dX8_meetByDraw_115 : decode cX8_meetByDraw 115 = .ok (.aload_n 0, 1) := by decide +kernel
theorem dX8_meetByDraw_116 : decode cX8_meetByDraw 116 = .ok (.getfield 49, 3) := by decide +kernel
theorem dX8_meetByDraw_119 : decode cX8_meetByDraw 119 = .ok (.iload 6, 2) := by decide +kernel
theorem dX8_meetByDraw_121 : decode cX8_meetByDraw 121 = .ok (.invokevirtual 254, 3) := by decide +kernel
theorem dX8_meetByDraw_124 : decode cX8_meetByDraw 124 = .ok (.if_icmp .ge 23, 3) := by decide +kernel
theorem dX8_meetByDraw_127 : decode cX8_meetByDraw 127 = .ok (.aload_n 0, 1) := by decide +kernel
theorem dX8_meetByDraw_128 : decode cX8_meetByDraw 128 = .ok (.getfield 28, 3) := by decide +kernel
theorem dX8_meetByDraw_131 : decode cX8_meetByDraw 131 = .ok (.iload_n 3, 1) := by decide +kernel
theorem dX8_meetByDraw_132 : decode cX8_meetByDraw 132 = .ok (.iload 6, 2) := by decide +kernel
theorem dX8_meetByDraw_134 : decode cX8_meetByDraw 134 = .ok (.iload 4, 2) := by decide +kernel
theorem dX8_meetByDraw_136 : decode cX8_meetByDraw 136 = .ok (.ifCond .eq 7, 3) := by decide +kernel
theorem dX8_meetByDraw_139 : decode cX8_meetByDraw 139 = .ok (.iconst (-1), 1) := by decide +kernel
theorem dX8_meetByDraw_140 : decode cX8_meetByDraw 140 = .ok (.goto 4, 3) := by decide +kernel
theorem dX8_meetByDraw_143 : decode cX8_meetByDraw 143 = .ok (.iconst 1, 1) := by decide +kernel
theorem dX8_meetByDraw_144 : decode cX8_meetByDraw 144 = .ok (.invokevirtual 271, 3) := by decide +kernel
theorem dX8_meetByDraw_147 : decode cX8_meetByDraw 147 = .ok (.return_, 1) := by decide +kernel
set_option maxRecDepth 20000 in
theorem ggX8_tongueBits_X0_tradersOf : GoodIn wsX8_tongueBits wsX0_tradersOf := goodIn_r _ [7, 8, 90, 91, 92, 93, 94, 95, 96, 97, 98] (by decide +kernel) (by decide +kernel)
set_option maxRecDepth 20000 in
theorem gX8_tongueBits_X0_tradersOf : GoodIn wsX8_tongueBits (wsV RX8 161 RX0 yX0_tradersOf wsX0_tradersOf) := goodIn_app (goodIn_of _ (by decide +kernel)) ggX8_tongueBits_X0_tradersOf
set_option maxRecDepth 20000 in
theorem ggX8_tongueBits_X0_isTold : GoodIn wsX8_tongueBits wsX0_isTold := goodIn_r _ [12, 13, 14, 15, 6, 16, 17, 18, 19, 20, 90, 91, 92, 93, 94, 95, 96, 97, 98] (by decide +kernel) (by decide +kernel)
set_option maxRecDepth 20000 in
theorem gX8_tongueBits_X0_isTold : GoodIn wsX8_tongueBits (wsV RX8 99 RX0 yX0_isTold wsX0_isTold) := goodIn_app (goodIn_of _ (by decide +kernel)) ggX8_tongueBits_X0_isTold
set_option maxRecDepth 20000 in
theorem ggX8_tongueBits_X5_of : GoodIn wsX8_tongueBits wsX5_of := goodIn_r _ [25, 26, 99, 100, 101] (by decide +kernel) (by decide +kernel)
set_option maxRecDepth 20000 in
theorem gX8_tongueBits_X5_of : GoodIn wsX8_tongueBits (wsV RX8 105 RX5 yX5_of wsX5_of) := goodIn_app (goodIn_of _ (by decide +kernel)) ggX8_tongueBits_X5_of
set_option maxRecDepth 20000 in
theorem ggX8_tongueBits_X8_isAlike : GoodIn wsX8_tongueBits wsX8_isAlike := goodIn_r _ [31, 1, 32, 33, 34, 30, 35, 36, 37, 14, 15, 6, 16, 17, 18, 19, 20, 38, 39, 40, 41, 42, 43, 44, 45, 46, 47, 48, 49, 50, 51, 52, 53, 54, 55, 56, 57, 58, 59, 60, 61, 62, 63, 64, 65, 66, 67, 68, 69, 70, 71, 72, 73, 74, 75, 76, 77, 78, 79, 80, 81, 82, 83, 84, 85, 86, 87, 88, 89, 90, 91, 92, 93, 94, 95, 96, 97, 98, 102] (by decide +kernel) (by decide +kernel)
set_option maxRecDepth 20000 in
theorem gX8_tongueBits_X8_isAlike : GoodIn wsX8_tongueBits (wsV RX8 158 RX8 yX8_isAlike wsX8_isAlike) := goodIn_app (goodIn_of _ (by decide +kernel)) ggX8_tongueBits_X8_isAlike
theorem dX8_tongueBits_0 : decode cX8_tongueBits 0 = .ok (.iload_n 1, 1) := by decide +kernel
theorem dX8_tongueBits_1 : decode cX8_tongueBits 1 = .ok (.ifCond .ne 7, 3) := by decide +kernel
theorem dX8_tongueBits_4 : decode cX8_tongueBits 4 = .ok (.iconst 0, 1) := by decide +kernel
theorem dX8_tongueBits_5 : decode cX8_tongueBits 5 = .ok (.goto 11, 3) := by decide +kernel
theorem dX8_tongueBits_8 : decode cX8_tongueBits 8 = .ok (.aload_n 0, 1) := by decide +kernel
theorem dX8_tongueBits_9 : decode cX8_tongueBits 9 = .ok (.getfield 49, 3) := by decide +kernel
theorem dX8_tongueBits_12 : decode cX8_tongueBits 12 = .ok (.iconst 0, 1) := by decide +kernel
theorem dX8_tongueBits_13 : decode cX8_tongueBits 13 = .ok (.invokevirtual 161, 3) := by decide +kernel
theorem dX8_tongueBits_16 : decode cX8_tongueBits 16 = .ok (.istore_n 2, 1) := by decide +kernel
theorem dX8_tongueBits_17 : decode cX8_tongueBits 17 = .ok (.iload_n 1, 1) := by decide +kernel
theorem dX8_tongueBits_18 : decode cX8_tongueBits 18 = .ok (.ifCond .ne 14, 3) := by decide +kernel
theorem dX8_tongueBits_21 : decode cX8_tongueBits 21 = .ok (.aload_n 0, 1) := by decide +kernel
theorem dX8_tongueBits_22 : decode cX8_tongueBits 22 = .ok (.getfield 49, 3) := by decide +kernel
theorem dX8_tongueBits_25 : decode cX8_tongueBits 25 = .ok (.iconst 1, 1) := by decide +kernel
theorem dX8_tongueBits_26 : decode cX8_tongueBits 26 = .ok (.invokevirtual 161, 3) := by decide +kernel
theorem dX8_tongueBits_29 : decode cX8_tongueBits 29 = .ok (.goto 4, 3) := by decide +kernel
theorem dX8_tongueBits_32 : decode cX8_tongueBits 32 = .ok (.iconst 0, 1) := by decide +kernel
theorem dX8_tongueBits_33 : decode cX8_tongueBits 33 = .ok (.istore_n 3, 1) := by decide +kernel
theorem dX8_tongueBits_34 : decode cX8_tongueBits 34 = .ok (.iconst 0, 1) := by decide +kernel
theorem dX8_tongueBits_35 : decode cX8_tongueBits 35 = .ok (.istore 4, 2) := by decide +kernel
theorem dX8_tongueBits_37 : decode cX8_tongueBits 37 = .ok (.iconst 0, 1) := by decide +kernel
theorem dX8_tongueBits_38 : decode cX8_tongueBits 38 = .ok (.istore 5, 2) := by decide +kernel
theorem dX8_tongueBits_40 : decode cX8_tongueBits 40 = .ok (.iload 5, 2) := by decide +kernel
theorem dX8_tongueBits_42 : decode cX8_tongueBits 42 = .ok (.bipush 8, 2) := by decide +kernel
theorem dX8_tongueBits_44 : decode cX8_tongueBits 44 = .ok (.if_icmp .ge 67, 3) := by decide +kernel
theorem dX8_tongueBits_47 : decode cX8_tongueBits 47 = .ok (.aload_n 0, 1) := by decide +kernel
theorem dX8_tongueBits_48 : decode cX8_tongueBits 48 = .ok (.getfield 49, 3) := by decide +kernel
theorem dX8_tongueBits_51 : decode cX8_tongueBits 51 = .ok (.iload 5, 2) := by decide +kernel
theorem dX8_tongueBits_53 : decode cX8_tongueBits 53 = .ok (.invokevirtual 99, 3) := by decide +kernel
theorem dX8_tongueBits_56 : decode cX8_tongueBits 56 = .ok (.ifCond .eq 49, 3) := by decide +kernel
theorem dX8_tongueBits_59 : decode cX8_tongueBits 59 = .ok (.aload_n 0, 1) := by decide +kernel
theorem dX8_tongueBits_60 : decode cX8_tongueBits 60 = .ok (.getfield 28, 3) := by decide +kernel
theorem dX8_tongueBits_63 : decode cX8_tongueBits 63 = .ok (.iload 5, 2) := by decide +kernel
theorem dX8_tongueBits_65 : decode cX8_tongueBits 65 = .ok (.iconst 0, 1) := by decide +kernel
theorem dX8_tongueBits_66 : decode cX8_tongueBits 66 = .ok (.invokevirtual 105, 3) := by decide +kernel
theorem dX8_tongueBits_69 : decode cX8_tongueBits 69 = .ok (.iload_n 2, 1) := by decide +kernel
theorem dX8_tongueBits_70 : decode cX8_tongueBits 70 = .ok (.if_icmp .ne 17, 3) := by decide +kernel
theorem dX8_tongueBits_73 : decode cX8_tongueBits 73 = .ok (.aload_n 0, 1) := by decide +kernel
theorem dX8_tongueBits_74 : decode cX8_tongueBits 74 = .ok (.getfield 28, 3) := by decide +kernel
theorem dX8_tongueBits_77 : decode cX8_tongueBits 77 = .ok (.iload 5, 2) := by decide +kernel
theorem dX8_tongueBits_79 : decode cX8_tongueBits 79 = .ok (.iconst 1, 1) := by decide +kernel
theorem dX8_tongueBits_80 : decode cX8_tongueBits 80 = .ok (.invokevirtual 105, 3) := by decide +kernel
theorem dX8_tongueBits_83 : decode cX8_tongueBits 83 = .ok (.iload_n 3, 1) := by decide +kernel
theorem dX8_tongueBits_84 : decode cX8_tongueBits 84 = .ok (.if_icmp .eq 12, 3) := by decide +kernel
theorem dX8_tongueBits_87 : decode cX8_tongueBits 87 = .ok (.aload_n 0, 1) := by decide +kernel
theorem dX8_tongueBits_88 : decode cX8_tongueBits 88 = .ok (.iload 5, 2) := by decide +kernel
theorem dX8_tongueBits_90 : decode cX8_tongueBits 90 = .ok (.invokevirtual 158, 3) := by decide +kernel
theorem dX8_tongueBits_93 : decode cX8_tongueBits 93 = .ok (.ifCond .eq 12, 3) := by decide +kernel
theorem dX8_tongueBits_96 : decode cX8_tongueBits 96 = .ok (.iload 4, 2) := by decide +kernel
theorem dX8_tongueBits_98 : decode cX8_tongueBits 98 = .ok (.iconst 1, 1) := by decide +kernel
theorem dX8_tongueBits_99 : decode cX8_tongueBits 99 = .ok (.iload 5, 2) := by decide +kernel
theorem dX8_tongueBits_101 : decode cX8_tongueBits 101 = .ok (.ishl, 1) := by decide +kernel
theorem dX8_tongueBits_102 : decode cX8_tongueBits 102 = .ok (.ior, 1) := by decide +kernel
theorem dX8_tongueBits_103 : decode cX8_tongueBits 103 = .ok (.istore 4, 2) := by decide +kernel
theorem dX8_tongueBits_105 : decode cX8_tongueBits 105 = .ok (.iinc 5 1, 3) := by decide +kernel
theorem dX8_tongueBits_108 : decode cX8_tongueBits 108 = .ok (.goto (-68), 3) := by decide +kernel
theorem dX8_tongueBits_111 : decode cX8_tongueBits 111 = .ok (.iload 4, 2) := by decide +kernel
theorem dX8_tongueBits_113 : decode cX8_tongueBits 113 = .ok (.ireturn, 1) := by decide +kernel
set_option maxRecDepth 20000 in
theorem ggX8_likeOfWordThere_X3_likeness : GoodIn wsX8_likeOfWordThere wsX3_likeness := goodIn_r _ [6, 7, 8, 9, 10, 11, 12, 13, 14, 15, 16, 17, 5, 18, 19, 20, 21, 22, 23, 24, 25, 33] (by decide +kernel) (by decide +kernel)
set_option maxRecDepth 20000 in
theorem gX8_likeOfWordThere_X3_likeness : GoodIn wsX8_likeOfWordThere (wsV RX8 198 RX3 yX3_likeness wsX3_likeness) := goodIn_app (goodIn_of _ (by decide +kernel)) ggX8_likeOfWordThere_X3_likeness
theorem dX8_likeOfWordThere_0 : decode cX8_likeOfWordThere 0 = .ok (.iload_n 2, 1) := by decide +kernel
theorem dX8_likeOfWordThere_1 : decode cX8_likeOfWordThere 1 = .ok (.ifCond .ne 7, 3) := by decide +kernel
theorem dX8_likeOfWordThere_4 : decode cX8_likeOfWordThere 4 = .ok (.iconst (-1), 1) := by decide +kernel
theorem dX8_likeOfWordThere_5 : decode cX8_likeOfWordThere 5 = .ok (.goto 12, 3) := by decide +kernel
theorem dX8_likeOfWordThere_8 : decode cX8_likeOfWordThere 8 = .ok (.aload_n 0, 1) := by decide +kernel
theorem dX8_likeOfWordThere_9 : decode cX8_likeOfWordThere 9 = .ok (.getfield 42, 3) := by decide +kernel
theorem dX8_likeOfWordThere_12 : decode cX8_likeOfWordThere 12 = .ok (.iload_n 1, 1) := by decide +kernel
theorem dX8_likeOfWordThere_13 : decode cX8_likeOfWordThere 13 = .ok (.iload_n 2, 1) := by decide +kernel
theorem dX8_likeOfWordThere_14 : decode cX8_likeOfWordThere 14 = .ok (.invokevirtual 198, 3) := by decide +kernel
theorem dX8_likeOfWordThere_17 : decode cX8_likeOfWordThere 17 = .ok (.ireturn, 1) := by decide +kernel
set_option maxRecDepth 20000 in
theorem ggX8_apartFromOtherEars_X0_heardBy : GoodIn wsX8_apartFromOtherEars wsX0_heardBy := goodIn_r _ [7, 8, 9, 10, 6, 11, 36, 37, 38, 39, 40, 41, 42, 43, 44] (by decide +kernel) (by decide +kernel)
set_option maxRecDepth 20000 in
theorem gX8_apartFromOtherEars_X0_heardBy : GoodIn wsX8_apartFromOtherEars (wsV RX8 184 RX0 yX0_heardBy wsX0_heardBy) := goodIn_app (goodIn_of _ (by decide +kernel)) ggX8_apartFromOtherEars_X0_heardBy
set_option maxRecDepth 20000 in
theorem ggX8_apartFromOtherEars_X3_apart : GoodIn wsX8_apartFromOtherEars wsX3_apart := goodIn_r _ [16, 17, 18, 19, 20, 21, 22, 23, 24, 25, 26, 27, 28, 45] (by decide +kernel) (by decide +kernel)
set_option maxRecDepth 20000 in
theorem gX8_apartFromOtherEars_X3_apart : GoodIn wsX8_apartFromOtherEars (wsV RX8 96 RX3 yX3_apart wsX3_apart) := goodIn_app (goodIn_of _ (by decide +kernel)) ggX8_apartFromOtherEars_X3_apart
theorem dX8_apartFromOtherEars_0 : decode cX8_apartFromOtherEars 0 = .ok (.iconst 0, 1) := by decide +kernel
theorem dX8_apartFromOtherEars_1 : decode cX8_apartFromOtherEars 1 = .ok (.istore_n 3, 1) := by decide +kernel
theorem dX8_apartFromOtherEars_2 : decode cX8_apartFromOtherEars 2 = .ok (.iconst 0, 1) := by decide +kernel
theorem dX8_apartFromOtherEars_3 : decode cX8_apartFromOtherEars 3 = .ok (.istore 4, 2) := by decide +kernel
theorem dX8_apartFromOtherEars_5 : decode cX8_apartFromOtherEars 5 = .ok (.iload 4, 2) := by decide +kernel
theorem dX8_apartFromOtherEars_7 : decode cX8_apartFromOtherEars 7 = .ok (.iconst 3, 1) := by decide +kernel
theorem dX8_apartFromOtherEars_8 : decode cX8_apartFromOtherEars 8 = .ok (.if_icmp .ge 53, 3) := by decide +kernel
theorem dX8_apartFromOtherEars_11 : decode cX8_apartFromOtherEars 11 = .ok (.aload_n 0, 1) := by decide +kernel
theorem dX8_apartFromOtherEars_12 : decode cX8_apartFromOtherEars 12 = .ok (.getfield 49, 3) := by decide +kernel
theorem dX8_apartFromOtherEars_15 : decode cX8_apartFromOtherEars 15 = .ok (.iload 4, 2) := by decide +kernel
theorem dX8_apartFromOtherEars_17 : decode cX8_apartFromOtherEars 17 = .ok (.iload_n 2, 1) := by decide +kernel
theorem dX8_apartFromOtherEars_18 : decode cX8_apartFromOtherEars 18 = .ok (.invokevirtual 184, 3) := by decide +kernel
theorem dX8_apartFromOtherEars_21 : decode cX8_apartFromOtherEars 21 = .ok (.istore 5, 2) := by decide +kernel
theorem dX8_apartFromOtherEars_23 : decode cX8_apartFromOtherEars 23 = .ok (.iload 4, 2) := by decide +kernel
theorem dX8_apartFromOtherEars_25 : decode cX8_apartFromOtherEars 25 = .ok (.iload_n 1, 1) := by decide +kernel
theorem dX8_apartFromOtherEars_26 : decode cX8_apartFromOtherEars 26 = .ok (.if_icmp .eq 29, 3) := by decide +kernel
theorem dX8_apartFromOtherEars_29 : decode cX8_apartFromOtherEars 29 = .ok (.iload 5, 2) := by decide +kernel
theorem dX8_apartFromOtherEars_31 : decode cX8_apartFromOtherEars 31 = .ok (.ifCond .eq 24, 3) := by decide +kernel
theorem dX8_apartFromOtherEars_34 : decode cX8_apartFromOtherEars 34 = .ok (.iload_n 3, 1) := by decide +kernel
theorem dX8_apartFromOtherEars_35 : decode cX8_apartFromOtherEars 35 = .ok (.aload_n 0, 1) := by decide +kernel
theorem dX8_apartFromOtherEars_36 : decode cX8_apartFromOtherEars 36 = .ok (.getfield 42, 3) := by decide +kernel
theorem dX8_apartFromOtherEars_39 : decode cX8_apartFromOtherEars 39 = .ok (.aload_n 0, 1) := by decide +kernel
theorem dX8_apartFromOtherEars_40 : decode cX8_apartFromOtherEars 40 = .ok (.getfield 49, 3) := by decide +kernel
theorem dX8_apartFromOtherEars_43 : decode cX8_apartFromOtherEars 43 = .ok (.iload_n 1, 1) := by decide +kernel
theorem dX8_apartFromOtherEars_44 : decode cX8_apartFromOtherEars 44 = .ok (.iload_n 2, 1) := by decide +kernel
theorem dX8_apartFromOtherEars_45 : decode cX8_apartFromOtherEars 45 = .ok (.invokevirtual 184, 3) := by decide +kernel
theorem dX8_apartFromOtherEars_48 : decode cX8_apartFromOtherEars 48 = .ok (.iload 5, 2) := by decide +kernel
theorem dX8_apartFromOtherEars_50 : decode cX8_apartFromOtherEars 50 = .ok (.invokevirtual 96, 3) := by decide +kernel
theorem dX8_apartFromOtherEars_53 : decode cX8_apartFromOtherEars 53 = .ok (.iadd, 1) := by decide +kernel
theorem dX8_apartFromOtherEars_54 : decode cX8_apartFromOtherEars 54 = .ok (.istore_n 3, 1) := by decide +kernel
theorem dX8_apartFromOtherEars_55 : decode cX8_apartFromOtherEars 55 = .ok (.iinc 4 1, 3) := by decide +kernel
theorem dX8_apartFromOtherEars_58 : decode cX8_apartFromOtherEars 58 = .ok (.goto (-53), 3) := by decide +kernel
theorem dX8_apartFromOtherEars_61 : decode cX8_apartFromOtherEars 61 = .ok (.iload_n 3, 1) := by decide +kernel
theorem dX8_apartFromOtherEars_62 : decode cX8_apartFromOtherEars 62 = .ok (.ireturn, 1) := by decide +kernel
theorem dX8_nextGeneration_0 : decode cX8_nextGeneration 0 = .ok (.lconst 1, 1) := by decide +kernel
theorem dX8_nextGeneration_1 : decode cX8_nextGeneration 1 = .ok (.lstore_n 2, 1) := by decide +kernel
theorem dX8_nextGeneration_2 : decode cX8_nextGeneration 2 = .ok (.lconst 1, 1) := by decide +kernel
theorem dX8_nextGeneration_3 : decode cX8_nextGeneration 3 = .ok (.lstore 4, 2) := by decide +kernel
theorem dX8_nextGeneration_5 : decode cX8_nextGeneration 5 = .ok (.iconst 0, 1) := by decide +kernel
theorem dX8_nextGeneration_6 : decode cX8_nextGeneration 6 = .ok (.istore 6, 2) := by decide +kernel
theorem dX8_nextGeneration_8 : decode cX8_nextGeneration 8 = .ok (.iload 6, 2) := by decide +kernel
theorem dX8_nextGeneration_10 : decode cX8_nextGeneration 10 = .ok (.iload_n 1, 1) := by decide +kernel
theorem dX8_nextGeneration_11 : decode cX8_nextGeneration 11 = .ok (.if_icmp .ge 25, 3) := by decide +kernel
theorem dX8_nextGeneration_14 : decode cX8_nextGeneration 14 = .ok (.lload_n 2, 1) := by decide +kernel
theorem dX8_nextGeneration_15 : decode cX8_nextGeneration 15 = .ok (.iload_n 0, 1) := by decide +kernel
theorem dX8_nextGeneration_16 : decode cX8_nextGeneration 16 = .ok (.i2l, 1) := by decide +kernel
theorem dX8_nextGeneration_17 : decode cX8_nextGeneration 17 = .ok (.lmul, 1) := by decide +kernel
theorem dX8_nextGeneration_18 : decode cX8_nextGeneration 18 = .ok (.lstore_n 2, 1) := by decide +kernel
theorem dX8_nextGeneration_19 : decode cX8_nextGeneration 19 = .ok (.lload 4, 2) := by decide +kernel
theorem dX8_nextGeneration_21 : decode cX8_nextGeneration 21 = .ok (.sipush 1000, 3) := by decide +kernel
theorem dX8_nextGeneration_24 : decode cX8_nextGeneration 24 = .ok (.iload_n 0, 1) := by decide +kernel
theorem dX8_nextGeneration_25 : decode cX8_nextGeneration 25 = .ok (.isub, 1) := by decide +kernel
theorem dX8_nextGeneration_26 : decode cX8_nextGeneration 26 = .ok (.i2l, 1) := by decide +kernel
theorem dX8_nextGeneration_27 : decode cX8_nextGeneration 27 = .ok (.lmul, 1) := by decide +kernel
theorem dX8_nextGeneration_28 : decode cX8_nextGeneration 28 = .ok (.lstore 4, 2) := by decide +kernel
theorem dX8_nextGeneration_30 : decode cX8_nextGeneration 30 = .ok (.iinc 6 1, 3) := by decide +kernel
theorem dX8_nextGeneration_33 : decode cX8_nextGeneration 33 = .ok (.goto (-25), 3) := by decide +kernel
theorem dX8_nextGeneration_36 : decode cX8_nextGeneration 36 = .ok (.lload_n 2, 1) := by decide +kernel
theorem dX8_nextGeneration_37 : decode cX8_nextGeneration 37 = .ok (.ldc2_w 146, 3) := by decide +kernel
theorem dX8_nextGeneration_40 : decode cX8_nextGeneration 40 = .ok (.lmul, 1) := by decide +kernel
theorem dX8_nextGeneration_41 : decode cX8_nextGeneration 41 = .ok (.lload_n 2, 1) := by decide +kernel
theorem dX8_nextGeneration_42 : decode cX8_nextGeneration 42 = .ok (.lload 4, 2) := by decide +kernel
theorem dX8_nextGeneration_44 : decode cX8_nextGeneration 44 = .ok (.ladd, 1) := by decide +kernel
theorem dX8_nextGeneration_45 : decode cX8_nextGeneration 45 = .ok (.ldiv, 1) := by decide +kernel
theorem dX8_nextGeneration_46 : decode cX8_nextGeneration 46 = .ok (.l2i, 1) := by decide +kernel
theorem dX8_nextGeneration_47 : decode cX8_nextGeneration 47 = .ok (.ireturn, 1) := by decide +kernel
theorem dX9_in_0 : decode cX9_in 0 = .ok (.lload_n 0, 1) := by decide +kernel
theorem dX9_in_1 : decode cX9_in 1 = .ok (.lload_n 2, 1) := by decide +kernel
theorem dX9_in_2 : decode cX9_in 2 = .ok (.lcmp, 1) := by decide +kernel
theorem dX9_in_3 : decode cX9_in 3 = .ok (.ifCond .lt 14, 3) := by decide +kernel
theorem dX9_in_6 : decode cX9_in 6 = .ok (.lload_n 0, 1) := by decide +kernel
theorem dX9_in_7 : decode cX9_in 7 = .ok (.lload 4, 2) := by decide +kernel
theorem dX9_in_9 : decode cX9_in 9 = .ok (.lcmp, 1) := by decide +kernel
theorem dX9_in_10 : decode cX9_in 10 = .ok (.ifCond .gt 7, 3) := by decide +kernel
theorem dX9_in_13 : decode cX9_in 13 = .ok (.iconst 1, 1) := by decide +kernel
theorem dX9_in_14 : decode cX9_in 14 = .ok (.goto 4, 3) := by decide +kernel
theorem dX9_in_17 : decode cX9_in 17 = .ok (.iconst 0, 1) := by decide +kernel
theorem dX9_in_18 : decode cX9_in 18 = .ok (.ireturn, 1) := by decide +kernel
theorem dX9_has_0 : decode cX9_has 0 = .ok (.iload_n 0, 1) := by decide +kernel
theorem dX9_has_1 : decode cX9_has 1 = .ok (.iload_n 1, 1) := by decide +kernel
theorem dX9_has_2 : decode cX9_has 2 = .ok (.ishr, 1) := by decide +kernel
theorem dX9_has_3 : decode cX9_has 3 = .ok (.iconst 1, 1) := by decide +kernel
theorem dX9_has_4 : decode cX9_has 4 = .ok (.iand, 1) := by decide +kernel
theorem dX9_has_5 : decode cX9_has 5 = .ok (.iconst 1, 1) := by decide +kernel
theorem dX9_has_6 : decode cX9_has 6 = .ok (.if_icmp .ne 7, 3) := by decide +kernel
theorem dX9_has_9 : decode cX9_has 9 = .ok (.iconst 1, 1) := by decide +kernel
theorem dX9_has_10 : decode cX9_has 10 = .ok (.goto 4, 3) := by decide +kernel
theorem dX9_has_13 : decode cX9_has 13 = .ok (.iconst 0, 1) := by decide +kernel
theorem dX9_has_14 : decode cX9_has 14 = .ok (.ireturn, 1) := by decide +kernel
set_option maxRecDepth 20000 in
theorem ggX9_init_X9_begin : GoodIn wsX9_init wsX9_begin := goodIn_r _ [20, 6, 21, 26, 27, 28, 29, 30, 31, 32, 33, 34, 35, 36, 37, 38] (by decide +kernel) (by decide +kernel)
set_option maxRecDepth 20000 in
theorem gX9_init_X9_begin : GoodIn wsX9_init (wsV RX9 41 RX9 yX9_begin wsX9_begin) := goodIn_app (goodIn_of _ (by decide +kernel)) ggX9_init_X9_begin
set_option maxRecDepth 20000 in
theorem ggX9_init_X9_layRead : GoodIn wsX9_init wsX9_layRead := goodIn_r _ [25, 7, 6, 26, 27, 28, 29, 30, 31, 32, 33, 34, 35, 36, 37, 38] (by decide +kernel) (by decide +kernel)
set_option maxRecDepth 20000 in
theorem gX9_init_X9_layRead : GoodIn wsX9_init (wsV RX9 44 RX9 yX9_layRead wsX9_layRead) := goodIn_app (goodIn_of _ (by decide +kernel)) ggX9_init_X9_layRead
theorem dX9_init_0 : decode cX9_init 0 = .ok (.aload_n 0, 1) := by decide +kernel
theorem dX9_init_1 : decode cX9_init 1 = .ok (.invokespecial 1, 3) := by decide +kernel
theorem dX9_init_4 : decode cX9_init 4 = .ok (.aload_n 0, 1) := by decide +kernel
theorem dX9_init_5 : decode cX9_init 5 = .ok (.sipush 500, 3) := by decide +kernel
theorem dX9_init_8 : decode cX9_init 8 = .ok (.newarray .int, 2) := by decide +kernel
theorem dX9_init_10 : decode cX9_init 10 = .ok (.putfield 7, 3) := by decide +kernel
theorem dX9_init_13 : decode cX9_init 13 = .ok (.aload_n 0, 1) := by decide +kernel
theorem dX9_init_14 : decode cX9_init 14 = .ok (.sipush 336, 3) := by decide +kernel
theorem dX9_init_17 : decode cX9_init 17 = .ok (.newarray .int, 2) := by decide +kernel
theorem dX9_init_19 : decode cX9_init 19 = .ok (.putfield 13, 3) := by decide +kernel
theorem dX9_init_22 : decode cX9_init 22 = .ok (.aload_n 0, 1) := by decide +kernel
theorem dX9_init_23 : decode cX9_init 23 = .ok (.sipush 336, 3) := by decide +kernel
theorem dX9_init_26 : decode cX9_init 26 = .ok (.newarray .int, 2) := by decide +kernel
theorem dX9_init_28 : decode cX9_init 28 = .ok (.putfield 16, 3) := by decide +kernel
theorem dX9_init_31 : decode cX9_init 31 = .ok (.aload_n 0, 1) := by decide +kernel
theorem dX9_init_32 : decode cX9_init 32 = .ok (.bipush 16, 2) := by decide +kernel
theorem dX9_init_34 : decode cX9_init 34 = .ok (.newarray .int, 2) := by decide +kernel
theorem dX9_init_36 : decode cX9_init 36 = .ok (.putfield 19, 3) := by decide +kernel
theorem dX9_init_39 : decode cX9_init 39 = .ok (.aload_n 0, 1) := by decide +kernel
theorem dX9_init_40 : decode cX9_init 40 = .ok (.bipush 32, 2) := by decide +kernel
theorem dX9_init_42 : decode cX9_init 42 = .ok (.newarray .int, 2) := by decide +kernel
theorem dX9_init_44 : decode cX9_init 44 = .ok (.putfield 22, 3) := by decide +kernel
theorem dX9_init_47 : decode cX9_init 47 = .ok (.aload_n 0, 1) := by decide +kernel
theorem dX9_init_48 : decode cX9_init 48 = .ok (.bipush 7, 2) := by decide +kernel
theorem dX9_init_50 : decode cX9_init 50 = .ok (.newarray .int, 2) := by decide +kernel
theorem dX9_init_52 : decode cX9_init 52 = .ok (.putfield 25, 3) := by decide +kernel
theorem dX9_init_55 : decode cX9_init 55 = .ok (.aload_n 0, 1) := by decide +kernel
theorem dX9_init_56 : decode cX9_init 56 = .ok (.bipush 7, 2) := by decide +kernel
theorem dX9_init_58 : decode cX9_init 58 = .ok (.newarray .int, 2) := by decide +kernel
theorem dX9_init_60 : decode cX9_init 60 = .ok (.putfield 28, 3) := by decide +kernel
theorem dX9_init_63 : decode cX9_init 63 = .ok (.aload_n 0, 1) := by decide +kernel
theorem dX9_init_64 : decode cX9_init 64 = .ok (.bipush 49, 2) := by decide +kernel
theorem dX9_init_66 : decode cX9_init 66 = .ok (.newarray .int, 2) := by decide +kernel
theorem dX9_init_68 : decode cX9_init 68 = .ok (.putfield 31, 3) := by decide +kernel
theorem dX9_init_71 : decode cX9_init 71 = .ok (.aload_n 0, 1) := by decide +kernel
theorem dX9_init_72 : decode cX9_init 72 = .ok (.bipush 81, 2) := by decide +kernel
theorem dX9_init_74 : decode cX9_init 74 = .ok (.newarray .long, 2) := by decide +kernel
theorem dX9_init_76 : decode cX9_init 76 = .ok (.putfield 34, 3) := by decide +kernel
theorem dX9_init_79 : decode cX9_init 79 = .ok (.aload_n 0, 1) := by decide +kernel
theorem dX9_init_80 : decode cX9_init 80 = .ok (.bipush 81, 2) := by decide +kernel
theorem dX9_init_82 : decode cX9_init 82 = .ok (.newarray .long, 2) := by decide +kernel
theorem dX9_init_84 : decode cX9_init 84 = .ok (.putfield 38, 3) := by decide +kernel
theorem dX9_init_87 : decode cX9_init 87 = .ok (.aload_n 0, 1) := by decide +kernel
theorem dX9_init_88 : decode cX9_init 88 = .ok (.invokevirtual 41, 3) := by decide +kernel
theorem dX9_init_91 : decode cX9_init 91 = .ok (.aload_n 0, 1) := by decide +kernel
theorem dX9_init_92 : decode cX9_init 92 = .ok (.invokevirtual 44, 3) := by decide +kernel
theorem dX9_init_95 : decode cX9_init 95 = .ok (.return_, 1) := by decide +kernel
set_option maxRecDepth 20000 in
theorem ggX9_write_X9_in : GoodIn wsX9_write wsX9_in := goodIn_r _ [8] (by decide +kernel) (by decide +kernel)
set_option maxRecDepth 20000 in
theorem gX9_write_X9_in : GoodIn wsX9_write (va_wsS RX9 49 yX9_in wsX9_in) := goodIn_app (goodIn_of _ (by decide +kernel)) ggX9_write_X9_in
theorem dX9_write_0 : decode cX9_write 0 = .ok (.iload_n 1, 1) := by decide +kernel
theorem dX9_write_1 : decode cX9_write 1 = .ok (.i2l, 1) := by decide +kernel
theorem dX9_write_2 : decode cX9_write 2 = .ok (.lconst 1, 1) := by decide +kernel
theorem dX9_write_3 : decode cX9_write 3 = .ok (.ldc2_w 47, 3) := by decide +kernel
theorem dX9_write_6 : decode cX9_write 6 = .ok (.invokestatic 49, 3) := by decide +kernel
theorem dX9_write_9 : decode cX9_write 9 = .ok (.ifCond .ne 5, 3) := by decide +kernel
theorem dX9_write_12 : decode cX9_write 12 = .ok (.iconst (-1), 1) := by decide +kernel
theorem dX9_write_13 : decode cX9_write 13 = .ok (.ireturn, 1) := by decide +kernel
theorem dX9_write_14 : decode cX9_write 14 = .ok (.aload_n 0, 1) := by decide +kernel
theorem dX9_write_15 : decode cX9_write 15 = .ok (.getfield 53, 3) := by decide +kernel
theorem dX9_write_18 : decode cX9_write 18 = .ok (.iload_n 1, 1) := by decide +kernel
theorem dX9_write_19 : decode cX9_write 19 = .ok (.iadd, 1) := by decide +kernel
theorem dX9_write_20 : decode cX9_write 20 = .ok (.sipush 500, 3) := by decide +kernel
theorem dX9_write_23 : decode cX9_write 23 = .ok (.if_icmp .le 6, 3) := by decide +kernel
theorem dX9_write_26 : decode cX9_write 26 = .ok (.bipush (-3), 2) := by decide +kernel
theorem dX9_write_28 : decode cX9_write 28 = .ok (.ireturn, 1) := by decide +kernel
theorem dX9_write_29 : decode cX9_write 29 = .ok (.iload_n 1, 1) := by decide +kernel
theorem dX9_write_30 : decode cX9_write 30 = .ok (.iconst 1, 1) := by decide +kernel
theorem dX9_write_31 : decode cX9_write 31 = .ok (.isub, 1) := by decide +kernel
theorem dX9_write_32 : decode cX9_write 32 = .ok (.istore 4, 2) := by decide +kernel
theorem dX9_write_34 : decode cX9_write 34 = .ok (.iload 4, 2) := by decide +kernel
theorem dX9_write_36 : decode cX9_write 36 = .ok (.ifCond .lt 40, 3) := by decide +kernel
theorem dX9_write_39 : decode cX9_write 39 = .ok (.aload_n 0, 1) := by decide +kernel
theorem dX9_write_40 : decode cX9_write 40 = .ok (.getfield 7, 3) := by decide +kernel
theorem dX9_write_43 : decode cX9_write 43 = .ok (.aload_n 0, 1) := by decide +kernel
theorem dX9_write_44 : decode cX9_write 44 = .ok (.getfield 53, 3) := by decide +kernel
theorem dX9_write_47 : decode cX9_write 47 = .ok (.lload_n 2, 1) := by decide +kernel
theorem dX9_write_48 : decode cX9_write 48 = .ok (.bipush 8, 2) := by decide +kernel
theorem dX9_write_50 : decode cX9_write 50 = .ok (.iload 4, 2) := by decide +kernel
theorem dX9_write_52 : decode cX9_write 52 = .ok (.imul, 1) := by decide +kernel
theorem dX9_write_53 : decode cX9_write 53 = .ok (.lshr, 1) := by decide +kernel
theorem dX9_write_54 : decode cX9_write 54 = .ok (.ldc2_w 57, 3) := by decide +kernel
theorem dX9_write_57 : decode cX9_write 57 = .ok (.land, 1) := by decide +kernel
theorem dX9_write_58 : decode cX9_write 58 = .ok (.l2i, 1) := by decide +kernel
theorem dX9_write_59 : decode cX9_write 59 = .ok (.iastore, 1) := by decide +kernel
theorem dX9_write_60 : decode cX9_write 60 = .ok (.aload_n 0, 1) := by decide +kernel
theorem dX9_write_61 : decode cX9_write 61 = .ok (.dup, 1) := by decide +kernel
theorem dX9_write_62 : decode cX9_write 62 = .ok (.getfield 53, 3) := by decide +kernel
theorem dX9_write_65 : decode cX9_write 65 = .ok (.iconst 1, 1) := by decide +kernel
theorem dX9_write_66 : decode cX9_write 66 = .ok (.iadd, 1) := by decide +kernel
theorem dX9_write_67 : decode cX9_write 67 = .ok (.putfield 53, 3) := by decide +kernel
theorem dX9_write_70 : decode cX9_write 70 = .ok (.iinc 4 (-1), 3) := by decide +kernel
theorem dX9_write_73 : decode cX9_write 73 = .ok (.goto (-39), 3) := by decide +kernel
theorem dX9_write_76 : decode cX9_write 76 = .ok (.aload_n 0, 1) := by decide +kernel
theorem dX9_write_77 : decode cX9_write 77 = .ok (.getfield 53, 3) := by decide +kernel
theorem dX9_write_80 : decode cX9_write 80 = .ok (.ireturn, 1) := by decide +kernel
theorem dX9_wipe_0 : decode cX9_wipe 0 = .ok (.aload_n 0, 1) := by decide +kernel
theorem dX9_wipe_1 : decode cX9_wipe 1 = .ok (.getfield 53, 3) := by decide +kernel
theorem dX9_wipe_4 : decode cX9_wipe 4 = .ok (.istore_n 1, 1) := by decide +kernel
theorem dX9_wipe_5 : decode cX9_wipe 5 = .ok (.aload_n 0, 1) := by decide +kernel
theorem dX9_wipe_6 : decode cX9_wipe 6 = .ok (.iconst 0, 1) := by decide +kernel
theorem dX9_wipe_7 : decode cX9_wipe 7 = .ok (.putfield 53, 3) := by decide +kernel
theorem dX9_wipe_10 : decode cX9_wipe 10 = .ok (.iload_n 1, 1) := by decide +kernel
theorem dX9_wipe_11 : decode cX9_wipe 11 = .ok (.ireturn, 1) := by decide +kernel
theorem dX9_begin_0 : decode cX9_begin 0 = .ok (.iconst 0, 1) := by decide +kernel
theorem dX9_begin_1 : decode cX9_begin 1 = .ok (.istore_n 1, 1) := by decide +kernel
theorem dX9_begin_2 : decode cX9_begin 2 = .ok (.iload_n 1, 1) := by decide +kernel
theorem dX9_begin_3 : decode cX9_begin 3 = .ok (.sipush 336, 3) := by decide +kernel
theorem dX9_begin_6 : decode cX9_begin 6 = .ok (.if_icmp .ge 16, 3) := by decide +kernel
theorem dX9_begin_9 : decode cX9_begin 9 = .ok (.aload_n 0, 1) := by decide +kernel
theorem dX9_begin_10 : decode cX9_begin 10 = .ok (.getfield 13, 3) := by decide +kernel
theorem dX9_begin_13 : decode cX9_begin 13 = .ok (.iload_n 1, 1) := by decide +kernel
theorem dX9_begin_14 : decode cX9_begin 14 = .ok (.iconst 0, 1) := by decide +kernel
theorem dX9_begin_15 : decode cX9_begin 15 = .ok (.iastore, 1) := by decide +kernel
theorem dX9_begin_16 : decode cX9_begin 16 = .ok (.iinc 1 1, 3) := by decide +kernel
theorem dX9_begin_19 : decode cX9_begin 19 = .ok (.goto (-17), 3) := by decide +kernel
theorem dX9_begin_22 : decode cX9_begin 22 = .ok (.iconst 0, 1) := by decide +kernel
theorem dX9_begin_23 : decode cX9_begin 23 = .ok (.istore_n 1, 1) := by decide +kernel
theorem dX9_begin_24 : decode cX9_begin 24 = .ok (.iload_n 1, 1) := by decide +kernel
theorem dX9_begin_25 : decode cX9_begin 25 = .ok (.bipush 16, 2) := by decide +kernel
theorem dX9_begin_27 : decode cX9_begin 27 = .ok (.if_icmp .ge 20, 3) := by decide +kernel
theorem dX9_begin_30 : decode cX9_begin 30 = .ok (.aload_n 0, 1) := by decide +kernel
theorem dX9_begin_31 : decode cX9_begin 31 = .ok (.getfield 13, 3) := by decide +kernel
theorem dX9_begin_34 : decode cX9_begin 34 = .ok (.sipush 282, 3) := by decide +kernel
theorem dX9_begin_37 : decode cX9_begin 37 = .ok (.iload_n 1, 1) := by decide +kernel
theorem dX9_begin_38 : decode cX9_begin 38 = .ok (.iadd, 1) := by decide +kernel
theorem dX9_begin_39 : decode cX9_begin 39 = .ok (.iconst (-1), 1) := by decide +kernel
theorem dX9_begin_40 : decode cX9_begin 40 = .ok (.iastore, 1) := by decide +kernel
theorem dX9_begin_41 : decode cX9_begin 41 = .ok (.iinc 1 1, 3) := by decide +kernel
theorem dX9_begin_44 : decode cX9_begin 44 = .ok (.goto (-20), 3) := by decide +kernel
theorem dX9_begin_47 : decode cX9_begin 47 = .ok (.aload_n 0, 1) := by decide +kernel
theorem dX9_begin_48 : decode cX9_begin 48 = .ok (.getfield 13, 3) := by decide +kernel
theorem dX9_begin_51 : decode cX9_begin 51 = .ok (.sipush 280, 3) := by decide +kernel
theorem dX9_begin_54 : decode cX9_begin 54 = .ok (.ldc 59, 2) := by decide +kernel
theorem dX9_begin_56 : decode cX9_begin 56 = .ok (.iastore, 1) := by decide +kernel
theorem dX9_begin_57 : decode cX9_begin 57 = .ok (.aload_n 0, 1) := by decide +kernel
theorem dX9_begin_58 : decode cX9_begin 58 = .ok (.getfield 13, 3) := by decide +kernel
theorem dX9_begin_61 : decode cX9_begin 61 = .ok (.sipush 281, 3) := by decide +kernel
theorem dX9_begin_64 : decode cX9_begin 64 = .ok (.ldc 59, 2) := by decide +kernel
theorem dX9_begin_66 : decode cX9_begin 66 = .ok (.iastore, 1) := by decide +kernel
theorem dX9_begin_67 : decode cX9_begin 67 = .ok (.aload_n 0, 1) := by decide +kernel
theorem dX9_begin_68 : decode cX9_begin 68 = .ok (.getfield 13, 3) := by decide +kernel
theorem dX9_begin_71 : decode cX9_begin 71 = .ok (.sipush 298, 3) := by decide +kernel
theorem dX9_begin_74 : decode cX9_begin 74 = .ok (.iconst 4, 1) := by decide +kernel
theorem dX9_begin_75 : decode cX9_begin 75 = .ok (.iastore, 1) := by decide +kernel
theorem dX9_begin_76 : decode cX9_begin 76 = .ok (.aload_n 0, 1) := by decide +kernel
theorem dX9_begin_77 : decode cX9_begin 77 = .ok (.getfield 13, 3) := by decide +kernel
theorem dX9_begin_80 : decode cX9_begin 80 = .ok (.sipush 299, 3) := by decide +kernel
theorem dX9_begin_83 : decode cX9_begin 83 = .ok (.iconst 4, 1) := by decide +kernel
theorem dX9_begin_84 : decode cX9_begin 84 = .ok (.iastore, 1) := by decide +kernel
theorem dX9_begin_85 : decode cX9_begin 85 = .ok (.aload_n 0, 1) := by decide +kernel
theorem dX9_begin_86 : decode cX9_begin 86 = .ok (.getfield 13, 3) := by decide +kernel
theorem dX9_begin_89 : decode cX9_begin 89 = .ok (.sipush 300, 3) := by decide +kernel
theorem dX9_begin_92 : decode cX9_begin 92 = .ok (.iconst 5, 1) := by decide +kernel
theorem dX9_begin_93 : decode cX9_begin 93 = .ok (.iastore, 1) := by decide +kernel
theorem dX9_begin_94 : decode cX9_begin 94 = .ok (.aload_n 0, 1) := by decide +kernel
theorem dX9_begin_95 : decode cX9_begin 95 = .ok (.getfield 13, 3) := by decide +kernel
theorem dX9_begin_98 : decode cX9_begin 98 = .ok (.sipush 301, 3) := by decide +kernel
theorem dX9_begin_101 : decode cX9_begin 101 = .ok (.iconst 5, 1) := by decide +kernel
theorem dX9_begin_102 : decode cX9_begin 102 = .ok (.iastore, 1) := by decide +kernel
theorem dX9_begin_103 : decode cX9_begin 103 = .ok (.aload_n 0, 1) := by decide +kernel
theorem dX9_begin_104 : decode cX9_begin 104 = .ok (.getfield 13, 3) := by decide +kernel
theorem dX9_begin_107 : decode cX9_begin 107 = .ok (.sipush 302, 3) := by decide +kernel
theorem dX9_begin_110 : decode cX9_begin 110 = .ok (.iconst 5, 1) := by decide +kernel
theorem dX9_begin_111 : decode cX9_begin 111 = .ok (.iastore, 1) := by decide +kernel
theorem dX9_begin_112 : decode cX9_begin 112 = .ok (.aload_n 0, 1) := by decide +kernel
theorem dX9_begin_113 : decode cX9_begin 113 = .ok (.getfield 13, 3) := by decide +kernel
theorem dX9_begin_116 : decode cX9_begin 116 = .ok (.sipush 303, 3) := by decide +kernel
theorem dX9_begin_119 : decode cX9_begin 119 = .ok (.bipush 70, 2) := by decide +kernel
theorem dX9_begin_121 : decode cX9_begin 121 = .ok (.iastore, 1) := by decide +kernel
theorem dX9_begin_122 : decode cX9_begin 122 = .ok (.return_, 1) := by decide +kernel
theorem dX9_layRead_0 : decode cX9_layRead 0 = .ok (.iconst 0, 1) := by decide +kernel
theorem dX9_layRead_1 : decode cX9_layRead 1 = .ok (.istore_n 1, 1) := by decide +kernel
theorem dX9_layRead_2 : decode cX9_layRead 2 = .ok (.iload_n 1, 1) := by decide +kernel
theorem dX9_layRead_3 : decode cX9_layRead 3 = .ok (.sipush 336, 3) := by decide +kernel
theorem dX9_layRead_6 : decode cX9_layRead 6 = .ok (.if_icmp .ge 21, 3) := by decide +kernel
theorem dX9_layRead_9 : decode cX9_layRead 9 = .ok (.aload_n 0, 1) := by decide +kernel
theorem dX9_layRead_10 : decode cX9_layRead 10 = .ok (.getfield 16, 3) := by decide +kernel
theorem dX9_layRead_13 : decode cX9_layRead 13 = .ok (.iload_n 1, 1) := by decide +kernel
theorem dX9_layRead_14 : decode cX9_layRead 14 = .ok (.aload_n 0, 1) := by decide +kernel
theorem dX9_layRead_15 : decode cX9_layRead 15 = .ok (.getfield 13, 3) := by decide +kernel
theorem dX9_layRead_18 : decode cX9_layRead 18 = .ok (.iload_n 1, 1) := by decide +kernel
theorem dX9_layRead_19 : decode cX9_layRead 19 = .ok (.iaload, 1) := by decide +kernel
theorem dX9_layRead_20 : decode cX9_layRead 20 = .ok (.iastore, 1) := by decide +kernel
theorem dX9_layRead_21 : decode cX9_layRead 21 = .ok (.iinc 1 1, 3) := by decide +kernel
theorem dX9_layRead_24 : decode cX9_layRead 24 = .ok (.goto (-22), 3) := by decide +kernel
theorem dX9_layRead_27 : decode cX9_layRead 27 = .ok (.return_, 1) := by decide +kernel
theorem dX9_byteAt_0 : decode cX9_byteAt 0 = .ok (.aload_n 0, 1) := by decide +kernel
theorem dX9_byteAt_1 : decode cX9_byteAt 1 = .ok (.getfield 60, 3) := by decide +kernel
theorem dX9_byteAt_4 : decode cX9_byteAt 4 = .ok (.aload_n 0, 1) := by decide +kernel
theorem dX9_byteAt_5 : decode cX9_byteAt 5 = .ok (.getfield 53, 3) := by decide +kernel
theorem dX9_byteAt_8 : decode cX9_byteAt 8 = .ok (.if_icmp .ge 15, 3) := by decide +kernel
theorem dX9_byteAt_11 : decode cX9_byteAt 11 = .ok (.aload_n 0, 1) := by decide +kernel
theorem dX9_byteAt_12 : decode cX9_byteAt 12 = .ok (.getfield 7, 3) := by decide +kernel
theorem dX9_byteAt_15 : decode cX9_byteAt 15 = .ok (.aload_n 0, 1) := by decide +kernel
theorem dX9_byteAt_16 : decode cX9_byteAt 16 = .ok (.getfield 60, 3) := by decide +kernel
theorem dX9_byteAt_19 : decode cX9_byteAt 19 = .ok (.iaload, 1) := by decide +kernel
theorem dX9_byteAt_20 : decode cX9_byteAt 20 = .ok (.goto 4, 3) := by decide +kernel
theorem dX9_byteAt_23 : decode cX9_byteAt 23 = .ok (.iconst (-1), 1) := by decide +kernel
theorem dX9_byteAt_24 : decode cX9_byteAt 24 = .ok (.ireturn, 1) := by decide +kernel
set_option maxRecDepth 20000 in
theorem ggX9_takes_X9_byteAt : GoodIn wsX9_takes wsX9_byteAt := goodIn_r _ [6, 1, 7, 8, 9, 10, 11, 12, 13, 14, 15, 16, 17, 18, 19, 20, 21] (by decide +kernel) (by decide +kernel)
set_option maxRecDepth 20000 in
theorem gX9_takes_X9_byteAt : GoodIn wsX9_takes (wsV RX9 63 RX9 yX9_byteAt wsX9_byteAt) := goodIn_app (goodIn_of _ (by decide +kernel)) ggX9_takes_X9_byteAt
theorem dX9_takes_0 : decode cX9_takes 0 = .ok (.aload_n 0, 1) := by decide +kernel
theorem dX9_takes_1 : decode cX9_takes 1 = .ok (.invokevirtual 63, 3) := by decide +kernel
theorem dX9_takes_4 : decode cX9_takes 4 = .ok (.iload_n 1, 1) := by decide +kernel
theorem dX9_takes_5 : decode cX9_takes 5 = .ok (.if_icmp .ne 7, 3) := by decide +kernel
theorem dX9_takes_8 : decode cX9_takes 8 = .ok (.iconst 1, 1) := by decide +kernel
theorem dX9_takes_9 : decode cX9_takes 9 = .ok (.goto 4, 3) := by decide +kernel
theorem dX9_takes_12 : decode cX9_takes 12 = .ok (.iconst 0, 1) := by decide +kernel
theorem dX9_takes_13 : decode cX9_takes 13 = .ok (.istore_n 2, 1) := by decide +kernel
theorem dX9_takes_14 : decode cX9_takes 14 = .ok (.aload_n 0, 1) := by decide +kernel
theorem dX9_takes_15 : decode cX9_takes 15 = .ok (.dup, 1) := by decide +kernel
theorem dX9_takes_16 : decode cX9_takes 16 = .ok (.getfield 60, 3) := by decide +kernel
theorem dX9_takes_19 : decode cX9_takes 19 = .ok (.iload_n 2, 1) := by decide +kernel
theorem dX9_takes_20 : decode cX9_takes 20 = .ok (.ifCond .eq 7, 3) := by decide +kernel
theorem dX9_takes_23 : decode cX9_takes 23 = .ok (.iconst 1, 1) := by decide +kernel
theorem dX9_takes_24 : decode cX9_takes 24 = .ok (.goto 4, 3) := by decide +kernel
theorem dX9_takes_27 : decode cX9_takes 27 = .ok (.iconst 0, 1) := by decide +kernel
theorem dX9_takes_28 : decode cX9_takes 28 = .ok (.iadd, 1) := by decide +kernel
theorem dX9_takes_29 : decode cX9_takes 29 = .ok (.putfield 60, 3) := by decide +kernel
theorem dX9_takes_32 : decode cX9_takes 32 = .ok (.iload_n 2, 1) := by decide +kernel
theorem dX9_takes_33 : decode cX9_takes 33 = .ok (.ireturn, 1) := by decide +kernel
set_option maxRecDepth 20000 in
theorem ggX9_number_X9_byteAt : GoodIn wsX9_number wsX9_byteAt := goodIn_r _ [8, 3, 9, 10, 14, 15, 16, 17, 18, 19, 20, 21, 22, 23, 24, 25, 26] (by decide +kernel) (by decide +kernel)
set_option maxRecDepth 20000 in
theorem gX9_number_X9_byteAt : GoodIn wsX9_number (wsV RX9 63 RX9 yX9_byteAt wsX9_byteAt) := goodIn_app (goodIn_of _ (by decide +kernel)) ggX9_number_X9_byteAt
set_option maxRecDepth 20000 in
theorem ggX9_number_X9_in : GoodIn wsX9_number wsX9_in := goodIn_r _ [13] (by decide +kernel) (by decide +kernel)
set_option maxRecDepth 20000 in
theorem gX9_number_X9_in : GoodIn wsX9_number (va_wsS RX9 49 yX9_in wsX9_in) := goodIn_app (goodIn_of _ (by decide +kernel)) ggX9_number_X9_in
theorem dX9_number_0 : decode cX9_number 0 = .ok (.iconst 0, 1) := by decide +kernel
theorem dX9_number_1 : decode cX9_number 1 = .ok (.istore_n 3, 1) := by decide +kernel
theorem dX9_number_2 : decode cX9_number 2 = .ok (.iconst 0, 1) := by decide +kernel
theorem dX9_number_3 : decode cX9_number 3 = .ok (.istore 4, 2) := by decide +kernel
theorem dX9_number_5 : decode cX9_number 5 = .ok (.iload 4, 2) := by decide +kernel
theorem dX9_number_7 : decode cX9_number 7 = .ok (.iconst 2, 1) := by decide +kernel
theorem dX9_number_8 : decode cX9_number 8 = .ok (.if_icmp .ge 49, 3) := by decide +kernel
theorem dX9_number_11 : decode cX9_number 11 = .ok (.aload_n 0, 1) := by decide +kernel
theorem dX9_number_12 : decode cX9_number 12 = .ok (.invokevirtual 63, 3) := by decide +kernel
theorem dX9_number_15 : decode cX9_number 15 = .ok (.i2l, 1) := by decide +kernel
theorem dX9_number_16 : decode cX9_number 16 = .ok (.ldc2_w 67, 3) := by decide +kernel
theorem dX9_number_19 : decode cX9_number 19 = .ok (.ldc2_w 69, 3) := by decide +kernel
theorem dX9_number_22 : decode cX9_number 22 = .ok (.invokestatic 49, 3) := by decide +kernel
theorem dX9_number_25 : decode cX9_number 25 = .ok (.ifCond .eq 32, 3) := by decide +kernel
theorem dX9_number_28 : decode cX9_number 28 = .ok (.bipush 10, 2) := by decide +kernel
theorem dX9_number_30 : decode cX9_number 30 = .ok (.iload_n 3, 1) := by decide +kernel
theorem dX9_number_31 : decode cX9_number 31 = .ok (.imul, 1) := by decide +kernel
theorem dX9_number_32 : decode cX9_number 32 = .ok (.aload_n 0, 1) := by decide +kernel
theorem dX9_number_33 : decode cX9_number 33 = .ok (.invokevirtual 63, 3) := by decide +kernel
theorem dX9_number_36 : decode cX9_number 36 = .ok (.iadd, 1) := by decide +kernel
theorem dX9_number_37 : decode cX9_number 37 = .ok (.bipush 48, 2) := by decide +kernel
theorem dX9_number_39 : decode cX9_number 39 = .ok (.isub, 1) := by decide +kernel
theorem dX9_number_40 : decode cX9_number 40 = .ok (.istore_n 3, 1) := by decide +kernel
theorem dX9_number_41 : decode cX9_number 41 = .ok (.aload_n 0, 1) := by decide +kernel
theorem dX9_number_42 : decode cX9_number 42 = .ok (.dup, 1) := by decide +kernel
theorem dX9_number_43 : decode cX9_number 43 = .ok (.getfield 60, 3) := by decide +kernel
theorem dX9_number_46 : decode cX9_number 46 = .ok (.iconst 1, 1) := by decide +kernel
theorem dX9_number_47 : decode cX9_number 47 = .ok (.iadd, 1) := by decide +kernel
theorem dX9_number_48 : decode cX9_number 48 = .ok (.putfield 60, 3) := by decide +kernel
theorem dX9_number_51 : decode cX9_number 51 = .ok (.iinc 4 1, 3) := by decide +kernel
theorem dX9_number_54 : decode cX9_number 54 = .ok (.goto (-49), 3) := by decide +kernel
theorem dX9_number_57 : decode cX9_number 57 = .ok (.iload 4, 2) := by decide +kernel
theorem dX9_number_59 : decode cX9_number 59 = .ok (.ifCond .le 19, 3) := by decide +kernel
theorem dX9_number_62 : decode cX9_number 62 = .ok (.iload_n 3, 1) := by decide +kernel
theorem dX9_number_63 : decode cX9_number 63 = .ok (.i2l, 1) := by decide +kernel
theorem dX9_number_64 : decode cX9_number 64 = .ok (.iload_n 1, 1) := by decide +kernel
theorem dX9_number_65 : decode cX9_number 65 = .ok (.i2l, 1) := by decide +kernel
theorem dX9_number_66 : decode cX9_number 66 = .ok (.iload_n 2, 1) := by decide +kernel
theorem dX9_number_67 : decode cX9_number 67 = .ok (.i2l, 1) := by decide +kernel
theorem dX9_number_68 : decode cX9_number 68 = .ok (.invokestatic 49, 3) := by decide +kernel
theorem dX9_number_71 : decode cX9_number 71 = .ok (.ifCond .eq 7, 3) := by decide +kernel
theorem dX9_number_74 : decode cX9_number 74 = .ok (.iload_n 3, 1) := by decide +kernel
theorem dX9_number_75 : decode cX9_number 75 = .ok (.goto 4, 3) := by decide +kernel
theorem dX9_number_78 : decode cX9_number 78 = .ok (.iconst (-1), 1) := by decide +kernel
theorem dX9_number_79 : decode cX9_number 79 = .ok (.ireturn, 1) := by decide +kernel
set_option maxRecDepth 20000 in
theorem ggX9_sound_X9_byteAt : GoodIn wsX9_sound wsX9_byteAt := goodIn_r _ [7, 2, 8, 9, 13, 14, 15, 16, 17, 18, 19, 20, 21, 22, 23, 24, 25] (by decide +kernel) (by decide +kernel)
set_option maxRecDepth 20000 in
theorem gX9_sound_X9_byteAt : GoodIn wsX9_sound (wsV RX9 63 RX9 yX9_byteAt wsX9_byteAt) := goodIn_app (goodIn_of _ (by decide +kernel)) ggX9_sound_X9_byteAt
set_option maxRecDepth 20000 in
theorem ggX9_sound_X9_in : GoodIn wsX9_sound wsX9_in := goodIn_r _ [12] (by decide +kernel) (by decide +kernel)
set_option maxRecDepth 20000 in
theorem gX9_sound_X9_in : GoodIn wsX9_sound (va_wsS RX9 49 yX9_in wsX9_in) := goodIn_app (goodIn_of _ (by decide +kernel)) ggX9_sound_X9_in
theorem dX9_sound_0 : decode cX9_sound 0 = .ok (.aload_n 0, 1) := by decide +kernel
theorem dX9_sound_1 : decode cX9_sound 1 = .ok (.invokevirtual 63, 3) := by decide +kernel
theorem dX9_sound_4 : decode cX9_sound 4 = .ok (.bipush 97, 2) := by decide +kernel
theorem dX9_sound_6 : decode cX9_sound 6 = .ok (.isub, 1) := by decide +kernel
theorem dX9_sound_7 : decode cX9_sound 7 = .ok (.istore_n 1, 1) := by decide +kernel
theorem dX9_sound_8 : decode cX9_sound 8 = .ok (.iload_n 1, 1) := by decide +kernel
theorem dX9_sound_9 : decode cX9_sound 9 = .ok (.i2l, 1) := by decide +kernel
theorem dX9_sound_10 : decode cX9_sound 10 = .ok (.lconst 0, 1) := by decide +kernel
theorem dX9_sound_11 : decode cX9_sound 11 = .ok (.ldc2_w 71, 3) := by decide +kernel
theorem dX9_sound_14 : decode cX9_sound 14 = .ok (.invokestatic 49, 3) := by decide +kernel
theorem dX9_sound_17 : decode cX9_sound 17 = .ok (.ifCond .ne 5, 3) := by decide +kernel
theorem dX9_sound_20 : decode cX9_sound 20 = .ok (.iconst (-1), 1) := by decide +kernel
theorem dX9_sound_21 : decode cX9_sound 21 = .ok (.ireturn, 1) := by decide +kernel
theorem dX9_sound_22 : decode cX9_sound 22 = .ok (.aload_n 0, 1) := by decide +kernel
theorem dX9_sound_23 : decode cX9_sound 23 = .ok (.dup, 1) := by decide +kernel
theorem dX9_sound_24 : decode cX9_sound 24 = .ok (.getfield 60, 3) := by decide +kernel
theorem dX9_sound_27 : decode cX9_sound 27 = .ok (.iconst 1, 1) := by decide +kernel
theorem dX9_sound_28 : decode cX9_sound 28 = .ok (.iadd, 1) := by decide +kernel
theorem dX9_sound_29 : decode cX9_sound 29 = .ok (.putfield 60, 3) := by decide +kernel
theorem dX9_sound_32 : decode cX9_sound 32 = .ok (.iload_n 1, 1) := by decide +kernel
theorem dX9_sound_33 : decode cX9_sound 33 = .ok (.ireturn, 1) := by decide +kernel
set_option maxRecDepth 20000 in
theorem ggX9_word_X9_sound : GoodIn wsX9_word wsX9_sound := goodIn_r _ [6, 7, 8, 9, 10, 11, 5, 12, 13, 14, 15, 16, 17, 18, 19, 20, 21, 22, 23, 24, 25, 26, 27, 28, 29, 30] (by decide +kernel) (by decide +kernel)
set_option maxRecDepth 20000 in
theorem gX9_word_X9_sound : GoodIn wsX9_word (wsV RX9 73 RX9 yX9_sound wsX9_sound) := goodIn_app (goodIn_of _ (by decide +kernel)) ggX9_word_X9_sound
theorem dX9_word_0 : decode cX9_word 0 = .ok (.iconst 0, 1) := by decide +kernel
theorem dX9_word_1 : decode cX9_word 1 = .ok (.istore_n 2, 1) := by decide +kernel
theorem dX9_word_2 : decode cX9_word 2 = .ok (.aload_n 0, 1) := by decide +kernel
theorem dX9_word_3 : decode cX9_word 3 = .ok (.invokevirtual 73, 3) := by decide +kernel
theorem dX9_word_6 : decode cX9_word 6 = .ok (.istore_n 3, 1) := by decide +kernel
theorem dX9_word_7 : decode cX9_word 7 = .ok (.iload_n 3, 1) := by decide +kernel
theorem dX9_word_8 : decode cX9_word 8 = .ok (.ifCond .lt 33, 3) := by decide +kernel
theorem dX9_word_11 : decode cX9_word 11 = .ok (.iload_n 2, 1) := by decide +kernel
theorem dX9_word_12 : decode cX9_word 12 = .ok (.bipush 6, 2) := by decide +kernel
theorem dX9_word_14 : decode cX9_word 14 = .ok (.if_icmp .ne 5, 3) := by decide +kernel
theorem dX9_word_17 : decode cX9_word 17 = .ok (.iconst 0, 1) := by decide +kernel
theorem dX9_word_18 : decode cX9_word 18 = .ok (.ireturn, 1) := by decide +kernel
theorem dX9_word_19 : decode cX9_word 19 = .ok (.aload_n 0, 1) := by decide +kernel
theorem dX9_word_20 : decode cX9_word 20 = .ok (.getfield 13, 3) := by decide +kernel
theorem dX9_word_23 : decode cX9_word 23 = .ok (.iload_n 1, 1) := by decide +kernel
theorem dX9_word_24 : decode cX9_word 24 = .ok (.iconst 1, 1) := by decide +kernel
theorem dX9_word_25 : decode cX9_word 25 = .ok (.iadd, 1) := by decide +kernel
theorem dX9_word_26 : decode cX9_word 26 = .ok (.iload_n 2, 1) := by decide +kernel
theorem dX9_word_27 : decode cX9_word 27 = .ok (.iadd, 1) := by decide +kernel
theorem dX9_word_28 : decode cX9_word 28 = .ok (.iload_n 3, 1) := by decide +kernel
theorem dX9_word_29 : decode cX9_word 29 = .ok (.iastore, 1) := by decide +kernel
theorem dX9_word_30 : decode cX9_word 30 = .ok (.iinc 2 1, 3) := by decide +kernel
theorem dX9_word_33 : decode cX9_word 33 = .ok (.aload_n 0, 1) := by decide +kernel
theorem dX9_word_34 : decode cX9_word 34 = .ok (.invokevirtual 73, 3) := by decide +kernel
theorem dX9_word_37 : decode cX9_word 37 = .ok (.istore_n 3, 1) := by decide +kernel
theorem dX9_word_38 : decode cX9_word 38 = .ok (.goto (-31), 3) := by decide +kernel
theorem dX9_word_41 : decode cX9_word 41 = .ok (.aload_n 0, 1) := by decide +kernel
theorem dX9_word_42 : decode cX9_word 42 = .ok (.getfield 13, 3) := by decide +kernel
theorem dX9_word_45 : decode cX9_word 45 = .ok (.iload_n 1, 1) := by decide +kernel
theorem dX9_word_46 : decode cX9_word 46 = .ok (.iload_n 2, 1) := by decide +kernel
theorem dX9_word_47 : decode cX9_word 47 = .ok (.iastore, 1) := by decide +kernel
theorem dX9_word_48 : decode cX9_word 48 = .ok (.iload_n 2, 1) := by decide +kernel
theorem dX9_word_49 : decode cX9_word 49 = .ok (.ifCond .le 7, 3) := by decide +kernel
theorem dX9_word_52 : decode cX9_word 52 = .ok (.iconst 1, 1) := by decide +kernel
theorem dX9_word_53 : decode cX9_word 53 = .ok (.goto 4, 3) := by decide +kernel
theorem dX9_word_56 : decode cX9_word 56 = .ok (.iconst 0, 1) := by decide +kernel
theorem dX9_word_57 : decode cX9_word 57 = .ok (.ireturn, 1) := by decide +kernel
set_option maxRecDepth 20000 in
theorem ggX9_wordItem_X9_number : GoodIn wsX9_wordItem wsX9_number := goodIn_r _ [5, 6, 7, 8, 9, 10, 11, 4, 12, 13, 14, 15, 16, 17, 32, 33, 34, 35, 36, 37, 38, 39, 40, 41, 42, 43, 44] (by decide +kernel) (by decide +kernel)
set_option maxRecDepth 20000 in
theorem gX9_wordItem_X9_number : GoodIn wsX9_wordItem (wsV RX9 76 RX9 yX9_number wsX9_number) := goodIn_app (goodIn_of _ (by decide +kernel)) ggX9_wordItem_X9_number
set_option maxRecDepth 20000 in
theorem ggX9_wordItem_X9_takes : GoodIn wsX9_wordItem wsX9_takes := goodIn_r _ [21, 8, 9, 10, 11, 4, 12, 13, 14, 32, 33, 34, 35, 36, 37, 38, 39, 40, 41, 42, 43, 44] (by decide +kernel) (by decide +kernel)
set_option maxRecDepth 20000 in
theorem gX9_wordItem_X9_takes : GoodIn wsX9_wordItem (wsV RX9 80 RX9 yX9_takes wsX9_takes) := goodIn_app (goodIn_of _ (by decide +kernel)) ggX9_wordItem_X9_takes
set_option maxRecDepth 20000 in
theorem ggX9_wordItem_X9_word : GoodIn wsX9_wordItem wsX9_word := goodIn_r _ [25, 26, 27, 28, 29, 4, 30, 31, 8, 9, 10, 11, 12, 13, 14, 15, 16, 17, 32, 33, 34, 35, 36, 37, 38, 39, 40, 41, 42, 43, 44] (by decide +kernel) (by decide +kernel)
set_option maxRecDepth 20000 in
theorem gX9_wordItem_X9_word : GoodIn wsX9_wordItem (wsV RX9 84 RX9 yX9_word wsX9_word) := goodIn_app (goodIn_of _ (by decide +kernel)) ggX9_wordItem_X9_word
theorem dX9_wordItem_0 : decode cX9_wordItem 0 = .ok (.aload_n 0, 1) := by decide +kernel
theorem dX9_wordItem_1 : decode cX9_wordItem 1 = .ok (.iconst 0, 1) := by decide +kernel
theorem dX9_wordItem_2 : decode cX9_wordItem 2 = .ok (.iload_n 2, 1) := by decide +kernel
theorem dX9_wordItem_3 : decode cX9_wordItem 3 = .ok (.invokevirtual 76, 3) := by decide +kernel
theorem dX9_wordItem_6 : decode cX9_wordItem 6 = .ok (.istore_n 3, 1) := by decide +kernel
theorem dX9_wordItem_7 : decode cX9_wordItem 7 = .ok (.iload_n 3, 1) := by decide +kernel
theorem dX9_wordItem_8 : decode cX9_wordItem 8 = .ok (.ifCond .lt 12, 3) := by decide +kernel
theorem dX9_wordItem_11 : decode cX9_wordItem 11 = .ok (.aload_n 0, 1) := by decide +kernel
theorem dX9_wordItem_12 : decode cX9_wordItem 12 = .ok (.bipush 44, 2) := by decide +kernel
theorem dX9_wordItem_14 : decode cX9_wordItem 14 = .ok (.invokevirtual 80, 3) := by decide +kernel
theorem dX9_wordItem_17 : decode cX9_wordItem 17 = .ok (.ifCond .ne 5, 3) := by decide +kernel
theorem dX9_wordItem_20 : decode cX9_wordItem 20 = .ok (.iconst 0, 1) := by decide +kernel
theorem dX9_wordItem_21 : decode cX9_wordItem 21 = .ok (.ireturn, 1) := by decide +kernel
theorem dX9_wordItem_22 : decode cX9_wordItem 22 = .ok (.aload_n 0, 1) := by decide +kernel
theorem dX9_wordItem_23 : decode cX9_wordItem 23 = .ok (.iconst 0, 1) := by decide +kernel
theorem dX9_wordItem_24 : decode cX9_wordItem 24 = .ok (.bipush 7, 2) := by decide +kernel
theorem dX9_wordItem_26 : decode cX9_wordItem 26 = .ok (.invokevirtual 76, 3) := by decide +kernel
theorem dX9_wordItem_29 : decode cX9_wordItem 29 = .ok (.istore 4, 2) := by decide +kernel
theorem dX9_wordItem_31 : decode cX9_wordItem 31 = .ok (.iload 4, 2) := by decide +kernel
theorem dX9_wordItem_33 : decode cX9_wordItem 33 = .ok (.ifCond .lt 35, 3) := by decide +kernel
theorem dX9_wordItem_36 : decode cX9_wordItem 36 = .ok (.aload_n 0, 1) := by decide +kernel
theorem dX9_wordItem_37 : decode cX9_wordItem 37 = .ok (.bipush 44, 2) := by decide +kernel
theorem dX9_wordItem_39 : decode cX9_wordItem 39 = .ok (.invokevirtual 80, 3) := by decide +kernel
theorem dX9_wordItem_42 : decode cX9_wordItem 42 = .ok (.ifCond .eq 26, 3) := by decide +kernel
theorem dX9_wordItem_45 : decode cX9_wordItem 45 = .ok (.aload_n 0, 1) := by decide +kernel
theorem dX9_wordItem_46 : decode cX9_wordItem 46 = .ok (.iload_n 1, 1) := by decide +kernel
theorem dX9_wordItem_47 : decode cX9_wordItem 47 = .ok (.bipush 7, 2) := by decide +kernel
theorem dX9_wordItem_49 : decode cX9_wordItem 49 = .ok (.bipush 8, 2) := by decide +kernel
theorem dX9_wordItem_51 : decode cX9_wordItem 51 = .ok (.iload_n 3, 1) := by decide +kernel
theorem dX9_wordItem_52 : decode cX9_wordItem 52 = .ok (.imul, 1) := by decide +kernel
theorem dX9_wordItem_53 : decode cX9_wordItem 53 = .ok (.iload 4, 2) := by decide +kernel
theorem dX9_wordItem_55 : decode cX9_wordItem 55 = .ok (.iadd, 1) := by decide +kernel
theorem dX9_wordItem_56 : decode cX9_wordItem 56 = .ok (.imul, 1) := by decide +kernel
theorem dX9_wordItem_57 : decode cX9_wordItem 57 = .ok (.iadd, 1) := by decide +kernel
theorem dX9_wordItem_58 : decode cX9_wordItem 58 = .ok (.invokevirtual 84, 3) := by decide +kernel
theorem dX9_wordItem_61 : decode cX9_wordItem 61 = .ok (.ifCond .eq 7, 3) := by decide +kernel
theorem dX9_wordItem_64 : decode cX9_wordItem 64 = .ok (.iconst 1, 1) := by decide +kernel
theorem dX9_wordItem_65 : decode cX9_wordItem 65 = .ok (.goto 4, 3) := by decide +kernel
theorem dX9_wordItem_68 : decode cX9_wordItem 68 = .ok (.iconst 0, 1) := by decide +kernel
theorem dX9_wordItem_69 : decode cX9_wordItem 69 = .ok (.ireturn, 1) := by decide +kernel
set_option maxRecDepth 20000 in
theorem ggX9_soundsItem_X9_number : GoodIn wsX9_soundsItem wsX9_number := goodIn_r _ [6, 7, 8, 9, 10, 11, 12, 5, 13, 14, 15, 16, 17, 18, 28, 29, 30, 31, 32, 33, 34, 35, 36, 37, 38, 39, 40] (by decide +kernel) (by decide +kernel)
set_option maxRecDepth 20000 in
theorem gX9_soundsItem_X9_number : GoodIn wsX9_soundsItem (wsV RX9 76 RX9 yX9_number wsX9_number) := goodIn_app (goodIn_of _ (by decide +kernel)) ggX9_soundsItem_X9_number
set_option maxRecDepth 20000 in
theorem ggX9_soundsItem_X9_takes : GoodIn wsX9_soundsItem wsX9_takes := goodIn_r _ [22, 9, 10, 11, 12, 5, 13, 14, 15, 28, 29, 30, 31, 32, 33, 34, 35, 36, 37, 38, 39, 40] (by decide +kernel) (by decide +kernel)
set_option maxRecDepth 20000 in
theorem gX9_soundsItem_X9_takes : GoodIn wsX9_soundsItem (wsV RX9 80 RX9 yX9_takes wsX9_takes) := goodIn_app (goodIn_of _ (by decide +kernel)) ggX9_soundsItem_X9_takes
set_option maxRecDepth 20000 in
theorem ggX9_soundsItem_X9_sound : GoodIn wsX9_soundsItem wsX9_sound := goodIn_r _ [26, 27, 9, 10, 11, 12, 5, 13, 14, 15, 16, 17, 18, 28, 29, 30, 31, 32, 33, 34, 35, 36, 37, 38, 39, 40] (by decide +kernel) (by decide +kernel)
set_option maxRecDepth 20000 in
theorem gX9_soundsItem_X9_sound : GoodIn wsX9_soundsItem (wsV RX9 73 RX9 yX9_sound wsX9_sound) := goodIn_app (goodIn_of _ (by decide +kernel)) ggX9_soundsItem_X9_sound
theorem dX9_soundsItem_0 : decode cX9_soundsItem 0 = .ok (.aload_n 0, 1) := by decide +kernel
theorem dX9_soundsItem_1 : decode cX9_soundsItem 1 = .ok (.iconst 0, 1) := by decide +kernel
theorem dX9_soundsItem_2 : decode cX9_soundsItem 2 = .ok (.iconst 1, 1) := by decide +kernel
theorem dX9_soundsItem_3 : decode cX9_soundsItem 3 = .ok (.invokevirtual 76, 3) := by decide +kernel
theorem dX9_soundsItem_6 : decode cX9_soundsItem 6 = .ok (.istore_n 1, 1) := by decide +kernel
theorem dX9_soundsItem_7 : decode cX9_soundsItem 7 = .ok (.iload_n 1, 1) := by decide +kernel
theorem dX9_soundsItem_8 : decode cX9_soundsItem 8 = .ok (.ifCond .lt 12, 3) := by decide +kernel
theorem dX9_soundsItem_11 : decode cX9_soundsItem 11 = .ok (.aload_n 0, 1) := by decide +kernel
theorem dX9_soundsItem_12 : decode cX9_soundsItem 12 = .ok (.bipush 44, 2) := by decide +kernel
theorem dX9_soundsItem_14 : decode cX9_soundsItem 14 = .ok (.invokevirtual 80, 3) := by decide +kernel
theorem dX9_soundsItem_17 : decode cX9_soundsItem 17 = .ok (.ifCond .ne 5, 3) := by decide +kernel
theorem dX9_soundsItem_20 : decode cX9_soundsItem 20 = .ok (.iconst 0, 1) := by decide +kernel
theorem dX9_soundsItem_21 : decode cX9_soundsItem 21 = .ok (.ireturn, 1) := by decide +kernel
theorem dX9_soundsItem_22 : decode cX9_soundsItem 22 = .ok (.iconst 0, 1) := by decide +kernel
theorem dX9_soundsItem_23 : decode cX9_soundsItem 23 = .ok (.istore_n 2, 1) := by decide +kernel
theorem dX9_soundsItem_24 : decode cX9_soundsItem 24 = .ok (.aload_n 0, 1) := by decide +kernel
theorem dX9_soundsItem_25 : decode cX9_soundsItem 25 = .ok (.invokevirtual 73, 3) := by decide +kernel
theorem dX9_soundsItem_28 : decode cX9_soundsItem 28 = .ok (.istore_n 3, 1) := by decide +kernel
theorem dX9_soundsItem_29 : decode cX9_soundsItem 29 = .ok (.iload_n 3, 1) := by decide +kernel
theorem dX9_soundsItem_30 : decode cX9_soundsItem 30 = .ok (.ifCond .lt 25, 3) := by decide +kernel
theorem dX9_soundsItem_33 : decode cX9_soundsItem 33 = .ok (.iload_n 2, 1) := by decide +kernel
theorem dX9_soundsItem_34 : decode cX9_soundsItem 34 = .ok (.iload_n 3, 1) := by decide +kernel
theorem dX9_soundsItem_35 : decode cX9_soundsItem 35 = .ok (.ishr, 1) := by decide +kernel
theorem dX9_soundsItem_36 : decode cX9_soundsItem 36 = .ok (.ifCond .eq 5, 3) := by decide +kernel
theorem dX9_soundsItem_39 : decode cX9_soundsItem 39 = .ok (.iconst 0, 1) := by decide +kernel
theorem dX9_soundsItem_40 : decode cX9_soundsItem 40 = .ok (.ireturn, 1) := by decide +kernel
theorem dX9_soundsItem_41 : decode cX9_soundsItem 41 = .ok (.iload_n 2, 1) := by decide +kernel
theorem dX9_soundsItem_42 : decode cX9_soundsItem 42 = .ok (.iconst 1, 1) := by decide +kernel
theorem dX9_soundsItem_43 : decode cX9_soundsItem 43 = .ok (.iload_n 3, 1) := by decide +kernel
theorem dX9_soundsItem_44 : decode cX9_soundsItem 44 = .ok (.ishl, 1) := by decide +kernel
theorem dX9_soundsItem_45 : decode cX9_soundsItem 45 = .ok (.ior, 1) := by decide +kernel
theorem dX9_soundsItem_46 : decode cX9_soundsItem 46 = .ok (.istore_n 2, 1) := by decide +kernel
theorem dX9_soundsItem_47 : decode cX9_soundsItem 47 = .ok (.aload_n 0, 1) := by decide +kernel
theorem dX9_soundsItem_48 : decode cX9_soundsItem 48 = .ok (.invokevirtual 73, 3) := by decide +kernel
theorem dX9_soundsItem_51 : decode cX9_soundsItem 51 = .ok (.istore_n 3, 1) := by decide +kernel
theorem dX9_soundsItem_52 : decode cX9_soundsItem 52 = .ok (.goto (-23), 3) := by decide +kernel
theorem dX9_soundsItem_55 : decode cX9_soundsItem 55 = .ok (.aload_n 0, 1) := by decide +kernel
theorem dX9_soundsItem_56 : decode cX9_soundsItem 56 = .ok (.getfield 13, 3) := by decide +kernel
theorem dX9_soundsItem_59 : decode cX9_soundsItem 59 = .ok (.sipush 280, 3) := by decide +kernel
theorem dX9_soundsItem_62 : decode cX9_soundsItem 62 = .ok (.iload_n 1, 1) := by decide +kernel
theorem dX9_soundsItem_63 : decode cX9_soundsItem 63 = .ok (.iadd, 1) := by decide +kernel
theorem dX9_soundsItem_64 : decode cX9_soundsItem 64 = .ok (.iload_n 2, 1) := by decide +kernel
theorem dX9_soundsItem_65 : decode cX9_soundsItem 65 = .ok (.iastore, 1) := by decide +kernel
theorem dX9_soundsItem_66 : decode cX9_soundsItem 66 = .ok (.iload_n 2, 1) := by decide +kernel
theorem dX9_soundsItem_67 : decode cX9_soundsItem 67 = .ok (.ifCond .eq 7, 3) := by decide +kernel
theorem dX9_soundsItem_70 : decode cX9_soundsItem 70 = .ok (.iconst 1, 1) := by decide +kernel
theorem dX9_soundsItem_71 : decode cX9_soundsItem 71 = .ok (.goto 4, 3) := by decide +kernel
theorem dX9_soundsItem_74 : decode cX9_soundsItem 74 = .ok (.iconst 0, 1) := by decide +kernel
theorem dX9_soundsItem_75 : decode cX9_soundsItem 75 = .ok (.ireturn, 1) := by decide +kernel
set_option maxRecDepth 20000 in
theorem ggX9_placeItem_X9_sound : GoodIn wsX9_placeItem wsX9_sound := goodIn_r _ [6, 7, 8, 9, 10, 11, 5, 12, 13, 14, 15, 16, 17, 18, 19, 20, 21, 22, 23, 24, 25, 26, 27, 28, 29, 30] (by decide +kernel) (by decide +kernel)
set_option maxRecDepth 20000 in
theorem gX9_placeItem_X9_sound : GoodIn wsX9_placeItem (wsV RX9 73 RX9 yX9_sound wsX9_sound) := goodIn_app (goodIn_of _ (by decide +kernel)) ggX9_placeItem_X9_sound
theorem dX9_placeItem_0 : decode cX9_placeItem 0 = .ok (.aload_n 0, 1) := by decide +kernel
theorem dX9_placeItem_1 : decode cX9_placeItem 1 = .ok (.invokevirtual 73, 3) := by decide +kernel
theorem dX9_placeItem_4 : decode cX9_placeItem 4 = .ok (.istore_n 1, 1) := by decide +kernel
theorem dX9_placeItem_5 : decode cX9_placeItem 5 = .ok (.iload_n 1, 1) := by decide +kernel
theorem dX9_placeItem_6 : decode cX9_placeItem 6 = .ok (.ifCond .ge 7, 3) := by decide +kernel
theorem dX9_placeItem_9 : decode cX9_placeItem 9 = .ok (.iconst (-1), 1) := by decide +kernel
theorem dX9_placeItem_10 : decode cX9_placeItem 10 = .ok (.goto 7, 3) := by decide +kernel
theorem dX9_placeItem_13 : decode cX9_placeItem 13 = .ok (.aload_n 0, 1) := by decide +kernel
theorem dX9_placeItem_14 : decode cX9_placeItem 14 = .ok (.invokevirtual 73, 3) := by decide +kernel
theorem dX9_placeItem_17 : decode cX9_placeItem 17 = .ok (.istore_n 2, 1) := by decide +kernel
theorem dX9_placeItem_18 : decode cX9_placeItem 18 = .ok (.iload_n 2, 1) := by decide +kernel
theorem dX9_placeItem_19 : decode cX9_placeItem 19 = .ok (.ifCond .lt 8, 3) := by decide +kernel
theorem dX9_placeItem_22 : decode cX9_placeItem 22 = .ok (.iload_n 1, 1) := by decide +kernel
theorem dX9_placeItem_23 : decode cX9_placeItem 23 = .ok (.iload_n 2, 1) := by decide +kernel
theorem dX9_placeItem_24 : decode cX9_placeItem 24 = .ok (.if_icmp .ne 5, 3) := by decide +kernel
theorem dX9_placeItem_27 : decode cX9_placeItem 27 = .ok (.iconst 0, 1) := by decide +kernel
theorem dX9_placeItem_28 : decode cX9_placeItem 28 = .ok (.ireturn, 1) := by decide +kernel
theorem dX9_placeItem_29 : decode cX9_placeItem 29 = .ok (.aload_n 0, 1) := by decide +kernel
theorem dX9_placeItem_30 : decode cX9_placeItem 30 = .ok (.getfield 13, 3) := by decide +kernel
theorem dX9_placeItem_33 : decode cX9_placeItem 33 = .ok (.sipush 282, 3) := by decide +kernel
theorem dX9_placeItem_36 : decode cX9_placeItem 36 = .ok (.iload_n 1, 1) := by decide +kernel
theorem dX9_placeItem_37 : decode cX9_placeItem 37 = .ok (.iadd, 1) := by decide +kernel
theorem dX9_placeItem_38 : decode cX9_placeItem 38 = .ok (.iload_n 2, 1) := by decide +kernel
theorem dX9_placeItem_39 : decode cX9_placeItem 39 = .ok (.iastore, 1) := by decide +kernel
theorem dX9_placeItem_40 : decode cX9_placeItem 40 = .ok (.iconst 1, 1) := by decide +kernel
theorem dX9_placeItem_41 : decode cX9_placeItem 41 = .ok (.ireturn, 1) := by decide +kernel
set_option maxRecDepth 20000 in
theorem ggX9_pairItem_X9_number : GoodIn wsX9_pairItem wsX9_number := goodIn_r _ [6, 7, 8, 9, 10, 11, 12, 5, 13, 14, 15, 16, 17, 18, 23, 24, 25, 26, 27, 28, 29, 30, 31, 32, 33, 34, 35] (by decide +kernel) (by decide +kernel)
set_option maxRecDepth 20000 in
theorem gX9_pairItem_X9_number : GoodIn wsX9_pairItem (wsV RX9 76 RX9 yX9_number wsX9_number) := goodIn_app (goodIn_of _ (by decide +kernel)) ggX9_pairItem_X9_number
set_option maxRecDepth 20000 in
theorem ggX9_pairItem_X9_takes : GoodIn wsX9_pairItem wsX9_takes := goodIn_r _ [22, 9, 10, 11, 12, 5, 13, 14, 15, 23, 24, 25, 26, 27, 28, 29, 30, 31, 32, 33, 34, 35] (by decide +kernel) (by decide +kernel)
set_option maxRecDepth 20000 in
theorem gX9_pairItem_X9_takes : GoodIn wsX9_pairItem (wsV RX9 80 RX9 yX9_takes wsX9_takes) := goodIn_app (goodIn_of _ (by decide +kernel)) ggX9_pairItem_X9_takes
theorem dX9_pairItem_0 : decode cX9_pairItem 0 = .ok (.aload_n 0, 1) := by decide +kernel
theorem dX9_pairItem_1 : decode cX9_pairItem 1 = .ok (.getfield 13, 3) := by decide +kernel
theorem dX9_pairItem_4 : decode cX9_pairItem 4 = .ok (.iload_n 1, 1) := by decide +kernel
theorem dX9_pairItem_5 : decode cX9_pairItem 5 = .ok (.aload_n 0, 1) := by decide +kernel
theorem dX9_pairItem_6 : decode cX9_pairItem 6 = .ok (.iload_n 2, 1) := by decide +kernel
theorem dX9_pairItem_7 : decode cX9_pairItem 7 = .ok (.iload_n 3, 1) := by decide +kernel
theorem dX9_pairItem_8 : decode cX9_pairItem 8 = .ok (.invokevirtual 76, 3) := by decide +kernel
theorem dX9_pairItem_11 : decode cX9_pairItem 11 = .ok (.iastore, 1) := by decide +kernel
theorem dX9_pairItem_12 : decode cX9_pairItem 12 = .ok (.aload_n 0, 1) := by decide +kernel
theorem dX9_pairItem_13 : decode cX9_pairItem 13 = .ok (.getfield 13, 3) := by decide +kernel
theorem dX9_pairItem_16 : decode cX9_pairItem 16 = .ok (.iload_n 1, 1) := by decide +kernel
theorem dX9_pairItem_17 : decode cX9_pairItem 17 = .ok (.iaload, 1) := by decide +kernel
theorem dX9_pairItem_18 : decode cX9_pairItem 18 = .ok (.ifCond .lt 12, 3) := by decide +kernel
theorem dX9_pairItem_21 : decode cX9_pairItem 21 = .ok (.aload_n 0, 1) := by decide +kernel
theorem dX9_pairItem_22 : decode cX9_pairItem 22 = .ok (.bipush 44, 2) := by decide +kernel
theorem dX9_pairItem_24 : decode cX9_pairItem 24 = .ok (.invokevirtual 80, 3) := by decide +kernel
theorem dX9_pairItem_27 : decode cX9_pairItem 27 = .ok (.ifCond .ne 5, 3) := by decide +kernel
theorem dX9_pairItem_30 : decode cX9_pairItem 30 = .ok (.iconst 0, 1) := by decide +kernel
theorem dX9_pairItem_31 : decode cX9_pairItem 31 = .ok (.ireturn, 1) := by decide +kernel
theorem dX9_pairItem_32 : decode cX9_pairItem 32 = .ok (.aload_n 0, 1) := by decide +kernel
theorem dX9_pairItem_33 : decode cX9_pairItem 33 = .ok (.getfield 13, 3) := by decide +kernel
theorem dX9_pairItem_36 : decode cX9_pairItem 36 = .ok (.iload_n 1, 1) := by decide +kernel
theorem dX9_pairItem_37 : decode cX9_pairItem 37 = .ok (.iconst 1, 1) := by decide +kernel
theorem dX9_pairItem_38 : decode cX9_pairItem 38 = .ok (.iadd, 1) := by decide +kernel
theorem dX9_pairItem_39 : decode cX9_pairItem 39 = .ok (.aload_n 0, 1) := by decide +kernel
theorem dX9_pairItem_40 : decode cX9_pairItem 40 = .ok (.iload_n 2, 1) := by decide +kernel
theorem dX9_pairItem_41 : decode cX9_pairItem 41 = .ok (.iload_n 3, 1) := by decide +kernel
theorem dX9_pairItem_42 : decode cX9_pairItem 42 = .ok (.invokevirtual 76, 3) := by decide +kernel
theorem dX9_pairItem_45 : decode cX9_pairItem 45 = .ok (.iastore, 1) := by decide +kernel
theorem dX9_pairItem_46 : decode cX9_pairItem 46 = .ok (.aload_n 0, 1) := by decide +kernel
theorem dX9_pairItem_47 : decode cX9_pairItem 47 = .ok (.getfield 13, 3) := by decide +kernel
theorem dX9_pairItem_50 : decode cX9_pairItem 50 = .ok (.iload_n 1, 1) := by decide +kernel
theorem dX9_pairItem_51 : decode cX9_pairItem 51 = .ok (.iconst 1, 1) := by decide +kernel
theorem dX9_pairItem_52 : decode cX9_pairItem 52 = .ok (.iadd, 1) := by decide +kernel
theorem dX9_pairItem_53 : decode cX9_pairItem 53 = .ok (.iaload, 1) := by decide +kernel
theorem dX9_pairItem_54 : decode cX9_pairItem 54 = .ok (.ifCond .lt 7, 3) := by decide +kernel
theorem dX9_pairItem_57 : decode cX9_pairItem 57 = .ok (.iconst 1, 1) := by decide +kernel
theorem dX9_pairItem_58 : decode cX9_pairItem 58 = .ok (.goto 4, 3) := by decide +kernel
theorem dX9_pairItem_61 : decode cX9_pairItem 61 = .ok (.iconst 0, 1) := by decide +kernel
theorem dX9_pairItem_62 : decode cX9_pairItem 62 = .ok (.ireturn, 1) := by decide +kernel
set_option maxRecDepth 20000 in
theorem ggX9_oneItem_X9_number : GoodIn wsX9_oneItem wsX9_number := goodIn_r _ [6, 7, 8, 9, 10, 11, 12, 5, 13, 14, 15, 16, 17, 18, 19, 20, 21, 22, 23, 24, 25, 26, 27, 28, 29, 30, 31] (by decide +kernel) (by decide +kernel)
set_option maxRecDepth 20000 in
theorem gX9_oneItem_X9_number : GoodIn wsX9_oneItem (wsV RX9 76 RX9 yX9_number wsX9_number) := goodIn_app (goodIn_of _ (by decide +kernel)) ggX9_oneItem_X9_number
theorem dX9_oneItem_0 : decode cX9_oneItem 0 = .ok (.aload_n 0, 1) := by decide +kernel
theorem dX9_oneItem_1 : decode cX9_oneItem 1 = .ok (.getfield 13, 3) := by decide +kernel
theorem dX9_oneItem_4 : decode cX9_oneItem 4 = .ok (.iload_n 1, 1) := by decide +kernel
theorem dX9_oneItem_5 : decode cX9_oneItem 5 = .ok (.aload_n 0, 1) := by decide +kernel
theorem dX9_oneItem_6 : decode cX9_oneItem 6 = .ok (.iload_n 2, 1) := by decide +kernel
theorem dX9_oneItem_7 : decode cX9_oneItem 7 = .ok (.iload_n 3, 1) := by decide +kernel
theorem dX9_oneItem_8 : decode cX9_oneItem 8 = .ok (.invokevirtual 76, 3) := by decide +kernel
theorem dX9_oneItem_11 : decode cX9_oneItem 11 = .ok (.iastore, 1) := by decide +kernel
theorem dX9_oneItem_12 : decode cX9_oneItem 12 = .ok (.aload_n 0, 1) := by decide +kernel
theorem dX9_oneItem_13 : decode cX9_oneItem 13 = .ok (.getfield 13, 3) := by decide +kernel
theorem dX9_oneItem_16 : decode cX9_oneItem 16 = .ok (.iload_n 1, 1) := by decide +kernel
theorem dX9_oneItem_17 : decode cX9_oneItem 17 = .ok (.iaload, 1) := by decide +kernel
theorem dX9_oneItem_18 : decode cX9_oneItem 18 = .ok (.ifCond .lt 7, 3) := by decide +kernel
theorem dX9_oneItem_21 : decode cX9_oneItem 21 = .ok (.iconst 1, 1) := by decide +kernel
theorem dX9_oneItem_22 : decode cX9_oneItem 22 = .ok (.goto 4, 3) := by decide +kernel
theorem dX9_oneItem_25 : decode cX9_oneItem 25 = .ok (.iconst 0, 1) := by decide +kernel
theorem dX9_oneItem_26 : decode cX9_oneItem 26 = .ok (.ireturn, 1) := by decide +kernel
set_option maxRecDepth 20000 in
theorem ggX9_joinItem_X9_number : GoodIn wsX9_joinItem wsX9_number := goodIn_r _ [6, 7, 8, 9, 10, 11, 12, 5, 13, 14, 15, 16, 17, 18, 23, 24, 25, 26, 27, 28, 29, 30, 31, 32, 33, 34, 35] (by decide +kernel) (by decide +kernel)
set_option maxRecDepth 20000 in
theorem gX9_joinItem_X9_number : GoodIn wsX9_joinItem (wsV RX9 76 RX9 yX9_number wsX9_number) := goodIn_app (goodIn_of _ (by decide +kernel)) ggX9_joinItem_X9_number
set_option maxRecDepth 20000 in
theorem ggX9_joinItem_X9_takes : GoodIn wsX9_joinItem wsX9_takes := goodIn_r _ [22, 9, 10, 11, 12, 5, 13, 14, 15, 23, 24, 25, 26, 27, 28, 29, 30, 31, 32, 33, 34, 35] (by decide +kernel) (by decide +kernel)
set_option maxRecDepth 20000 in
theorem gX9_joinItem_X9_takes : GoodIn wsX9_joinItem (wsV RX9 80 RX9 yX9_takes wsX9_takes) := goodIn_app (goodIn_of _ (by decide +kernel)) ggX9_joinItem_X9_takes
theorem dX9_joinItem_0 : decode cX9_joinItem 0 = .ok (.aload_n 0, 1) := by decide +kernel
theorem dX9_joinItem_1 : decode cX9_joinItem 1 = .ok (.getfield 13, 3) := by decide +kernel
theorem dX9_joinItem_4 : decode cX9_joinItem 4 = .ok (.sipush 304, 3) := by decide +kernel
theorem dX9_joinItem_7 : decode cX9_joinItem 7 = .ok (.iaload, 1) := by decide +kernel
theorem dX9_joinItem_8 : decode cX9_joinItem 8 = .ok (.bipush 8, 2) := by decide +kernel
theorem dX9_joinItem_10 : decode cX9_joinItem 10 = .ok (.if_icmp .ne 5, 3) := by decide +kernel
theorem dX9_joinItem_13 : decode cX9_joinItem 13 = .ok (.iconst 0, 1) := by decide +kernel
theorem dX9_joinItem_14 : decode cX9_joinItem 14 = .ok (.ireturn, 1) := by decide +kernel
theorem dX9_joinItem_15 : decode cX9_joinItem 15 = .ok (.sipush 305, 3) := by decide +kernel
theorem dX9_joinItem_18 : decode cX9_joinItem 18 = .ok (.iconst 3, 1) := by decide +kernel
theorem dX9_joinItem_19 : decode cX9_joinItem 19 = .ok (.aload_n 0, 1) := by decide +kernel
theorem dX9_joinItem_20 : decode cX9_joinItem 20 = .ok (.getfield 13, 3) := by decide +kernel
theorem dX9_joinItem_23 : decode cX9_joinItem 23 = .ok (.sipush 304, 3) := by decide +kernel
theorem dX9_joinItem_26 : decode cX9_joinItem 26 = .ok (.iaload, 1) := by decide +kernel
theorem dX9_joinItem_27 : decode cX9_joinItem 27 = .ok (.imul, 1) := by decide +kernel
theorem dX9_joinItem_28 : decode cX9_joinItem 28 = .ok (.iadd, 1) := by decide +kernel
theorem dX9_joinItem_29 : decode cX9_joinItem 29 = .ok (.istore_n 1, 1) := by decide +kernel
theorem dX9_joinItem_30 : decode cX9_joinItem 30 = .ok (.iconst 0, 1) := by decide +kernel
theorem dX9_joinItem_31 : decode cX9_joinItem 31 = .ok (.istore_n 2, 1) := by decide +kernel
theorem dX9_joinItem_32 : decode cX9_joinItem 32 = .ok (.iload_n 2, 1) := by decide +kernel
theorem dX9_joinItem_33 : decode cX9_joinItem 33 = .ok (.iconst 3, 1) := by decide +kernel
theorem dX9_joinItem_34 : decode cX9_joinItem 34 = .ok (.if_icmp .ge 51, 3) := by decide +kernel
theorem dX9_joinItem_37 : decode cX9_joinItem 37 = .ok (.aload_n 0, 1) := by decide +kernel
theorem dX9_joinItem_38 : decode cX9_joinItem 38 = .ok (.getfield 13, 3) := by decide +kernel
theorem dX9_joinItem_41 : decode cX9_joinItem 41 = .ok (.iload_n 1, 1) := by decide +kernel
theorem dX9_joinItem_42 : decode cX9_joinItem 42 = .ok (.iload_n 2, 1) := by decide +kernel
theorem dX9_joinItem_43 : decode cX9_joinItem 43 = .ok (.iadd, 1) := by decide +kernel
theorem dX9_joinItem_44 : decode cX9_joinItem 44 = .ok (.aload_n 0, 1) := by decide +kernel
theorem dX9_joinItem_45 : decode cX9_joinItem 45 = .ok (.iconst 0, 1) := by decide +kernel
theorem dX9_joinItem_46 : decode cX9_joinItem 46 = .ok (.bipush 7, 2) := by decide +kernel
theorem dX9_joinItem_48 : decode cX9_joinItem 48 = .ok (.invokevirtual 76, 3) := by decide +kernel
theorem dX9_joinItem_51 : decode cX9_joinItem 51 = .ok (.iastore, 1) := by decide +kernel
theorem dX9_joinItem_52 : decode cX9_joinItem 52 = .ok (.aload_n 0, 1) := by decide +kernel
theorem dX9_joinItem_53 : decode cX9_joinItem 53 = .ok (.getfield 13, 3) := by decide +kernel
theorem dX9_joinItem_56 : decode cX9_joinItem 56 = .ok (.iload_n 1, 1) := by decide +kernel
theorem dX9_joinItem_57 : decode cX9_joinItem 57 = .ok (.iload_n 2, 1) := by decide +kernel
theorem dX9_joinItem_58 : decode cX9_joinItem 58 = .ok (.iadd, 1) := by decide +kernel
theorem dX9_joinItem_59 : decode cX9_joinItem 59 = .ok (.iaload, 1) := by decide +kernel
theorem dX9_joinItem_60 : decode cX9_joinItem 60 = .ok (.ifCond .lt 17, 3) := by decide +kernel
theorem dX9_joinItem_63 : decode cX9_joinItem 63 = .ok (.iload_n 2, 1) := by decide +kernel
theorem dX9_joinItem_64 : decode cX9_joinItem 64 = .ok (.iconst 2, 1) := by decide +kernel
theorem dX9_joinItem_65 : decode cX9_joinItem 65 = .ok (.if_icmp .ge 14, 3) := by decide +kernel
theorem dX9_joinItem_68 : decode cX9_joinItem 68 = .ok (.aload_n 0, 1) := by decide +kernel
theorem dX9_joinItem_69 : decode cX9_joinItem 69 = .ok (.bipush 44, 2) := by decide +kernel
theorem dX9_joinItem_71 : decode cX9_joinItem 71 = .ok (.invokevirtual 80, 3) := by decide +kernel
theorem dX9_joinItem_74 : decode cX9_joinItem 74 = .ok (.ifCond .ne 5, 3) := by decide +kernel
theorem dX9_joinItem_77 : decode cX9_joinItem 77 = .ok (.iconst 0, 1) := by decide +kernel
theorem dX9_joinItem_78 : decode cX9_joinItem 78 = .ok (.ireturn, 1) := by decide +kernel
theorem dX9_joinItem_79 : decode cX9_joinItem 79 = .ok (.iinc 2 1, 3) := by decide +kernel
theorem dX9_joinItem_82 : decode cX9_joinItem 82 = .ok (.goto (-50), 3) := by decide +kernel
theorem dX9_joinItem_85 : decode cX9_joinItem 85 = .ok (.aload_n 0, 1) := by decide +kernel
theorem dX9_joinItem_86 : decode cX9_joinItem 86 = .ok (.getfield 13, 3) := by decide +kernel
theorem dX9_joinItem_89 : decode cX9_joinItem 89 = .ok (.sipush 304, 3) := by decide +kernel
theorem dX9_joinItem_92 : decode cX9_joinItem 92 = .ok (.dup2, 1) := by decide +kernel
theorem dX9_joinItem_93 : decode cX9_joinItem 93 = .ok (.iaload, 1) := by decide +kernel
theorem dX9_joinItem_94 : decode cX9_joinItem 94 = .ok (.iconst 1, 1) := by decide +kernel
theorem dX9_joinItem_95 : decode cX9_joinItem 95 = .ok (.iadd, 1) := by decide +kernel
theorem dX9_joinItem_96 : decode cX9_joinItem 96 = .ok (.iastore, 1) := by decide +kernel
theorem dX9_joinItem_97 : decode cX9_joinItem 97 = .ok (.aload_n 0, 1) := by decide +kernel
theorem dX9_joinItem_98 : decode cX9_joinItem 98 = .ok (.getfield 13, 3) := by decide +kernel
theorem dX9_joinItem_101 : decode cX9_joinItem 101 = .ok (.iload_n 1, 1) := by decide +kernel
theorem dX9_joinItem_102 : decode cX9_joinItem 102 = .ok (.iaload, 1) := by decide +kernel
theorem dX9_joinItem_103 : decode cX9_joinItem 103 = .ok (.aload_n 0, 1) := by decide +kernel
theorem dX9_joinItem_104 : decode cX9_joinItem 104 = .ok (.getfield 13, 3) := by decide +kernel
theorem dX9_joinItem_107 : decode cX9_joinItem 107 = .ok (.iload_n 1, 1) := by decide +kernel
theorem dX9_joinItem_108 : decode cX9_joinItem 108 = .ok (.iconst 1, 1) := by decide +kernel
theorem dX9_joinItem_109 : decode cX9_joinItem 109 = .ok (.iadd, 1) := by decide +kernel
theorem dX9_joinItem_110 : decode cX9_joinItem 110 = .ok (.iaload, 1) := by decide +kernel
theorem dX9_joinItem_111 : decode cX9_joinItem 111 = .ok (.if_icmp .eq 43, 3) := by decide +kernel
theorem dX9_joinItem_114 : decode cX9_joinItem 114 = .ok (.aload_n 0, 1) := by decide +kernel
theorem dX9_joinItem_115 : decode cX9_joinItem 115 = .ok (.getfield 13, 3) := by decide +kernel
theorem dX9_joinItem_118 : decode cX9_joinItem 118 = .ok (.iload_n 1, 1) := by decide +kernel
theorem dX9_joinItem_119 : decode cX9_joinItem 119 = .ok (.iaload, 1) := by decide +kernel
theorem dX9_joinItem_120 : decode cX9_joinItem 120 = .ok (.aload_n 0, 1) := by decide +kernel
theorem dX9_joinItem_121 : decode cX9_joinItem 121 = .ok (.getfield 13, 3) := by decide +kernel
theorem dX9_joinItem_124 : decode cX9_joinItem 124 = .ok (.iload_n 1, 1) := by decide +kernel
theorem dX9_joinItem_125 : decode cX9_joinItem 125 = .ok (.iconst 2, 1) := by decide +kernel
theorem dX9_joinItem_126 : decode cX9_joinItem 126 = .ok (.iadd, 1) := by decide +kernel
theorem dX9_joinItem_127 : decode cX9_joinItem 127 = .ok (.iaload, 1) := by decide +kernel
theorem dX9_joinItem_128 : decode cX9_joinItem 128 = .ok (.if_icmp .eq 26, 3) := by decide +kernel
theorem dX9_joinItem_131 : decode cX9_joinItem 131 = .ok (.aload_n 0, 1) := by decide +kernel
theorem dX9_joinItem_132 : decode cX9_joinItem 132 = .ok (.getfield 13, 3) := by decide +kernel
theorem dX9_joinItem_135 : decode cX9_joinItem 135 = .ok (.iload_n 1, 1) := by decide +kernel
theorem dX9_joinItem_136 : decode cX9_joinItem 136 = .ok (.iconst 1, 1) := by decide +kernel
theorem dX9_joinItem_137 : decode cX9_joinItem 137 = .ok (.iadd, 1) := by decide +kernel
theorem dX9_joinItem_138 : decode cX9_joinItem 138 = .ok (.iaload, 1) := by decide +kernel
theorem dX9_joinItem_139 : decode cX9_joinItem 139 = .ok (.aload_n 0, 1) := by decide +kernel
theorem dX9_joinItem_140 : decode cX9_joinItem 140 = .ok (.getfield 13, 3) := by decide +kernel
theorem dX9_joinItem_143 : decode cX9_joinItem 143 = .ok (.iload_n 1, 1) := by decide +kernel
theorem dX9_joinItem_144 : decode cX9_joinItem 144 = .ok (.iconst 2, 1) := by decide +kernel
theorem dX9_joinItem_145 : decode cX9_joinItem 145 = .ok (.iadd, 1) := by decide +kernel
theorem dX9_joinItem_146 : decode cX9_joinItem 146 = .ok (.iaload, 1) := by decide +kernel
theorem dX9_joinItem_147 : decode cX9_joinItem 147 = .ok (.if_icmp .eq 7, 3) := by decide +kernel
theorem dX9_joinItem_150 : decode cX9_joinItem 150 = .ok (.iconst 1, 1) := by decide +kernel
theorem dX9_joinItem_151 : decode cX9_joinItem 151 = .ok (.goto 4, 3) := by decide +kernel
theorem dX9_joinItem_154 : decode cX9_joinItem 154 = .ok (.iconst 0, 1) := by decide +kernel
theorem dX9_joinItem_155 : decode cX9_joinItem 155 = .ok (.ireturn, 1) := by decide +kernel
set_option maxRecDepth 20000 in
theorem ggX9_needItem_X9_byteAt : GoodIn wsX9_needItem wsX9_byteAt := goodIn_r _ [9, 4, 10, 11, 15, 16, 17, 18, 19, 20, 21, 22, 23, 24, 25, 26, 27] (by decide +kernel) (by decide +kernel)
set_option maxRecDepth 20000 in
theorem gX9_needItem_X9_byteAt : GoodIn wsX9_needItem (wsV RX9 63 RX9 yX9_byteAt wsX9_byteAt) := goodIn_app (goodIn_of _ (by decide +kernel)) ggX9_needItem_X9_byteAt
set_option maxRecDepth 20000 in
theorem ggX9_needItem_X9_in : GoodIn wsX9_needItem wsX9_in := goodIn_r _ [14] (by decide +kernel) (by decide +kernel)
set_option maxRecDepth 20000 in
theorem gX9_needItem_X9_in : GoodIn wsX9_needItem (va_wsS RX9 49 yX9_in wsX9_in) := goodIn_app (goodIn_of _ (by decide +kernel)) ggX9_needItem_X9_in
theorem dX9_needItem_0 : decode cX9_needItem 0 = .ok (.aload_n 0, 1) := by decide +kernel
theorem dX9_needItem_1 : decode cX9_needItem 1 = .ok (.getfield 13, 3) := by decide +kernel
theorem dX9_needItem_4 : decode cX9_needItem 4 = .ok (.sipush 329, 3) := by decide +kernel
theorem dX9_needItem_7 : decode cX9_needItem 7 = .ok (.iaload, 1) := by decide +kernel
theorem dX9_needItem_8 : decode cX9_needItem 8 = .ok (.bipush 6, 2) := by decide +kernel
theorem dX9_needItem_10 : decode cX9_needItem 10 = .ok (.if_icmp .ne 5, 3) := by decide +kernel
theorem dX9_needItem_13 : decode cX9_needItem 13 = .ok (.iconst 0, 1) := by decide +kernel
theorem dX9_needItem_14 : decode cX9_needItem 14 = .ok (.ireturn, 1) := by decide +kernel
theorem dX9_needItem_15 : decode cX9_needItem 15 = .ok (.iconst 0, 1) := by decide +kernel
theorem dX9_needItem_16 : decode cX9_needItem 16 = .ok (.istore_n 1, 1) := by decide +kernel
theorem dX9_needItem_17 : decode cX9_needItem 17 = .ok (.aload_n 0, 1) := by decide +kernel
theorem dX9_needItem_18 : decode cX9_needItem 18 = .ok (.invokevirtual 63, 3) := by decide +kernel
theorem dX9_needItem_21 : decode cX9_needItem 21 = .ok (.i2l, 1) := by decide +kernel
theorem dX9_needItem_22 : decode cX9_needItem 22 = .ok (.ldc2_w 67, 3) := by decide +kernel
theorem dX9_needItem_25 : decode cX9_needItem 25 = .ok (.ldc2_w 87, 3) := by decide +kernel
theorem dX9_needItem_28 : decode cX9_needItem 28 = .ok (.invokestatic 49, 3) := by decide +kernel
theorem dX9_needItem_31 : decode cX9_needItem 31 = .ok (.ifCond .eq 38, 3) := by decide +kernel
theorem dX9_needItem_34 : decode cX9_needItem 34 = .ok (.aload_n 0, 1) := by decide +kernel
theorem dX9_needItem_35 : decode cX9_needItem 35 = .ok (.invokevirtual 63, 3) := by decide +kernel
theorem dX9_needItem_38 : decode cX9_needItem 38 = .ok (.bipush 48, 2) := by decide +kernel
theorem dX9_needItem_40 : decode cX9_needItem 40 = .ok (.isub, 1) := by decide +kernel
theorem dX9_needItem_41 : decode cX9_needItem 41 = .ok (.istore_n 2, 1) := by decide +kernel
theorem dX9_needItem_42 : decode cX9_needItem 42 = .ok (.iload_n 1, 1) := by decide +kernel
theorem dX9_needItem_43 : decode cX9_needItem 43 = .ok (.iload_n 2, 1) := by decide +kernel
theorem dX9_needItem_44 : decode cX9_needItem 44 = .ok (.ishr, 1) := by decide +kernel
theorem dX9_needItem_45 : decode cX9_needItem 45 = .ok (.ifCond .eq 5, 3) := by decide +kernel
theorem dX9_needItem_48 : decode cX9_needItem 48 = .ok (.iconst 0, 1) := by decide +kernel
theorem dX9_needItem_49 : decode cX9_needItem 49 = .ok (.ireturn, 1) := by decide +kernel
theorem dX9_needItem_50 : decode cX9_needItem 50 = .ok (.iload_n 1, 1) := by decide +kernel
theorem dX9_needItem_51 : decode cX9_needItem 51 = .ok (.iconst 1, 1) := by decide +kernel
theorem dX9_needItem_52 : decode cX9_needItem 52 = .ok (.iload_n 2, 1) := by decide +kernel
theorem dX9_needItem_53 : decode cX9_needItem 53 = .ok (.ishl, 1) := by decide +kernel
theorem dX9_needItem_54 : decode cX9_needItem 54 = .ok (.ior, 1) := by decide +kernel
theorem dX9_needItem_55 : decode cX9_needItem 55 = .ok (.istore_n 1, 1) := by decide +kernel
theorem dX9_needItem_56 : decode cX9_needItem 56 = .ok (.aload_n 0, 1) := by decide +kernel
theorem dX9_needItem_57 : decode cX9_needItem 57 = .ok (.dup, 1) := by decide +kernel
theorem dX9_needItem_58 : decode cX9_needItem 58 = .ok (.getfield 60, 3) := by decide +kernel
theorem dX9_needItem_61 : decode cX9_needItem 61 = .ok (.iconst 1, 1) := by decide +kernel
theorem dX9_needItem_62 : decode cX9_needItem 62 = .ok (.iadd, 1) := by decide +kernel
theorem dX9_needItem_63 : decode cX9_needItem 63 = .ok (.putfield 60, 3) := by decide +kernel
theorem dX9_needItem_66 : decode cX9_needItem 66 = .ok (.goto (-49), 3) := by decide +kernel
theorem dX9_needItem_69 : decode cX9_needItem 69 = .ok (.aload_n 0, 1) := by decide +kernel
theorem dX9_needItem_70 : decode cX9_needItem 70 = .ok (.getfield 13, 3) := by decide +kernel
theorem dX9_needItem_73 : decode cX9_needItem 73 = .ok (.sipush 330, 3) := by decide +kernel
theorem dX9_needItem_76 : decode cX9_needItem 76 = .ok (.aload_n 0, 1) := by decide +kernel
theorem dX9_needItem_77 : decode cX9_needItem 77 = .ok (.getfield 13, 3) := by decide +kernel
theorem dX9_needItem_80 : decode cX9_needItem 80 = .ok (.sipush 329, 3) := by decide +kernel
theorem dX9_needItem_83 : decode cX9_needItem 83 = .ok (.iaload, 1) := by decide +kernel
theorem dX9_needItem_84 : decode cX9_needItem 84 = .ok (.iadd, 1) := by decide +kernel
theorem dX9_needItem_85 : decode cX9_needItem 85 = .ok (.iload_n 1, 1) := by decide +kernel
theorem dX9_needItem_86 : decode cX9_needItem 86 = .ok (.iastore, 1) := by decide +kernel
theorem dX9_needItem_87 : decode cX9_needItem 87 = .ok (.aload_n 0, 1) := by decide +kernel
theorem dX9_needItem_88 : decode cX9_needItem 88 = .ok (.getfield 13, 3) := by decide +kernel
theorem dX9_needItem_91 : decode cX9_needItem 91 = .ok (.sipush 329, 3) := by decide +kernel
theorem dX9_needItem_94 : decode cX9_needItem 94 = .ok (.dup2, 1) := by decide +kernel
theorem dX9_needItem_95 : decode cX9_needItem 95 = .ok (.iaload, 1) := by decide +kernel
theorem dX9_needItem_96 : decode cX9_needItem 96 = .ok (.iconst 1, 1) := by decide +kernel
theorem dX9_needItem_97 : decode cX9_needItem 97 = .ok (.iadd, 1) := by decide +kernel
theorem dX9_needItem_98 : decode cX9_needItem 98 = .ok (.iastore, 1) := by decide +kernel
theorem dX9_needItem_99 : decode cX9_needItem 99 = .ok (.iload_n 1, 1) := by decide +kernel
theorem dX9_needItem_100 : decode cX9_needItem 100 = .ok (.ifCond .eq 7, 3) := by decide +kernel
theorem dX9_needItem_103 : decode cX9_needItem 103 = .ok (.iconst 1, 1) := by decide +kernel
theorem dX9_needItem_104 : decode cX9_needItem 104 = .ok (.goto 4, 3) := by decide +kernel
theorem dX9_needItem_107 : decode cX9_needItem 107 = .ok (.iconst 0, 1) := by decide +kernel
theorem dX9_needItem_108 : decode cX9_needItem 108 = .ok (.ireturn, 1) := by decide +kernel
set_option maxRecDepth 20000 in
theorem ggX9_item_X9_byteAt : GoodIn wsX9_item wsX9_byteAt := goodIn_r _ [6, 1, 7, 8, 61, 62, 63, 64, 65, 66, 67, 68, 69, 70, 71, 72, 73] (by decide +kernel) (by decide +kernel)
set_option maxRecDepth 20000 in
theorem gX9_item_X9_byteAt : GoodIn wsX9_item (wsV RX9 63 RX9 yX9_byteAt wsX9_byteAt) := goodIn_app (goodIn_of _ (by decide +kernel)) ggX9_item_X9_byteAt
set_option maxRecDepth 20000 in
theorem ggX9_item_X9_wordItem : GoodIn wsX9_item wsX9_wordItem := goodIn_r _ [12, 13, 14, 15, 5, 16, 17, 18, 1, 2, 3, 4, 6, 7, 8, 19, 20, 21, 22, 23, 24, 25, 26, 27, 28, 29, 30, 31, 32, 33, 34, 35, 61, 62, 63, 64, 65, 66, 67, 68, 69, 70, 71, 72, 73] (by decide +kernel) (by decide +kernel)
set_option maxRecDepth 20000 in
theorem gX9_item_X9_wordItem : GoodIn wsX9_item (wsV RX9 89 RX9 yX9_wordItem wsX9_wordItem) := goodIn_app (goodIn_of _ (by decide +kernel)) ggX9_item_X9_wordItem
set_option maxRecDepth 20000 in
theorem ggX9_item_X9_soundsItem : GoodIn wsX9_item wsX9_soundsItem := goodIn_r _ [39, 30, 13, 14, 15, 5, 16, 17, 18, 1, 2, 3, 4, 6, 7, 8, 19, 20, 21, 22, 23, 24, 25, 31, 32, 33, 34, 35, 61, 62, 63, 64, 65, 66, 67, 68, 69, 70, 71, 72, 73] (by decide +kernel) (by decide +kernel)
set_option maxRecDepth 20000 in
theorem gX9_item_X9_soundsItem : GoodIn wsX9_item (wsV RX9 93 RX9 yX9_soundsItem wsX9_soundsItem) := goodIn_app (goodIn_of _ (by decide +kernel)) ggX9_item_X9_soundsItem
set_option maxRecDepth 20000 in
theorem ggX9_item_X9_placeItem : GoodIn wsX9_item wsX9_placeItem := goodIn_r _ [43, 30, 31, 32, 33, 5, 34, 35, 1, 2, 3, 4, 6, 7, 8, 19, 20, 21, 61, 62, 63, 64, 65, 66, 67, 68, 69, 70, 71, 72, 73] (by decide +kernel) (by decide +kernel)
set_option maxRecDepth 20000 in
theorem gX9_item_X9_placeItem : GoodIn wsX9_item (wsV RX9 97 RX9 yX9_placeItem wsX9_placeItem) := goodIn_app (goodIn_of _ (by decide +kernel)) ggX9_item_X9_placeItem
set_option maxRecDepth 20000 in
theorem ggX9_item_X9_pairItem : GoodIn wsX9_item wsX9_pairItem := goodIn_r _ [47, 30, 13, 14, 15, 5, 16, 17, 18, 1, 2, 3, 4, 6, 7, 8, 19, 20, 21, 22, 23, 24, 25, 61, 62, 63, 64, 65, 66, 67, 68, 69, 70, 71, 72, 73] (by decide +kernel) (by decide +kernel)
set_option maxRecDepth 20000 in
theorem gX9_item_X9_pairItem : GoodIn wsX9_item (wsV RX9 100 RX9 yX9_pairItem wsX9_pairItem) := goodIn_app (goodIn_of _ (by decide +kernel)) ggX9_item_X9_pairItem
set_option maxRecDepth 20000 in
theorem ggX9_item_X9_oneItem : GoodIn wsX9_item wsX9_oneItem := goodIn_r _ [51, 30, 13, 14, 15, 5, 16, 17, 18, 1, 2, 3, 4, 6, 7, 8, 19, 20, 21, 61, 62, 63, 64, 65, 66, 67, 68, 69, 70, 71, 72, 73] (by decide +kernel) (by decide +kernel)
set_option maxRecDepth 20000 in
theorem gX9_item_X9_oneItem : GoodIn wsX9_item (wsV RX9 104 RX9 yX9_oneItem wsX9_oneItem) := goodIn_app (goodIn_of _ (by decide +kernel)) ggX9_item_X9_oneItem
set_option maxRecDepth 20000 in
theorem ggX9_item_X9_joinItem : GoodIn wsX9_item wsX9_joinItem := goodIn_r _ [55, 30, 13, 14, 15, 5, 16, 17, 18, 1, 2, 3, 4, 6, 7, 8, 19, 20, 21, 22, 23, 24, 25, 61, 62, 63, 64, 65, 66, 67, 68, 69, 70, 71, 72, 73] (by decide +kernel) (by decide +kernel)
set_option maxRecDepth 20000 in
theorem gX9_item_X9_joinItem : GoodIn wsX9_item (wsV RX9 107 RX9 yX9_joinItem wsX9_joinItem) := goodIn_app (goodIn_of _ (by decide +kernel)) ggX9_item_X9_joinItem
set_option maxRecDepth 20000 in
theorem ggX9_item_X9_needItem : GoodIn wsX9_item wsX9_needItem := goodIn_r _ [59, 30, 17, 60, 1, 2, 3, 4, 5, 6, 7, 8, 19, 20, 21, 61, 62, 63, 64, 65, 66, 67, 68, 69, 70, 71, 72, 73] (by decide +kernel) (by decide +kernel)
set_option maxRecDepth 20000 in
theorem gX9_item_X9_needItem : GoodIn wsX9_item (wsV RX9 110 RX9 yX9_needItem wsX9_needItem) := goodIn_app (goodIn_of _ (by decide +kernel)) ggX9_item_X9_needItem
theorem dX9_item_0 : decode cX9_item 0 = .ok (.aload_n 0, 1) := by decide +kernel
theorem dX9_item_1 : decode cX9_item 1 = .ok (.invokevirtual 63, 3) := by decide +kernel
theorem dX9_item_4 : decode cX9_item 4 = .ok (.istore_n 1, 1) := by decide +kernel
theorem dX9_item_5 : decode cX9_item 5 = .ok (.aload_n 0, 1) := by decide +kernel
theorem dX9_item_6 : decode cX9_item 6 = .ok (.dup, 1) := by decide +kernel
theorem dX9_item_7 : decode cX9_item 7 = .ok (.getfield 60, 3) := by decide +kernel
theorem dX9_item_10 : decode cX9_item 10 = .ok (.iconst 1, 1) := by decide +kernel
theorem dX9_item_11 : decode cX9_item 11 = .ok (.iadd, 1) := by decide +kernel
theorem dX9_item_12 : decode cX9_item 12 = .ok (.putfield 60, 3) := by decide +kernel
theorem dX9_item_15 : decode cX9_item 15 = .ok (.iload_n 1, 1) := by decide +kernel
theorem dX9_item_16 : decode cX9_item 16 = .ok (.tableswitch 171 101 119 #[163, 171, 142, 171, 171, 153, 120, 171, 171, 109, 131, 171, 171, 104, 99, 171, 158, 171, 92], 92) := by decide +kernel
theorem dX9_item_108 : decode cX9_item 108 = .ok (.aload_n 0, 1) := by decide +kernel
theorem dX9_item_109 : decode cX9_item 109 = .ok (.iconst 0, 1) := by decide +kernel
theorem dX9_item_110 : decode cX9_item 110 = .ok (.iconst 1, 1) := by decide +kernel
theorem dX9_item_111 : decode cX9_item 111 = .ok (.invokevirtual 89, 3) := by decide +kernel
theorem dX9_item_114 : decode cX9_item 114 = .ok (.ireturn, 1) := by decide +kernel
theorem dX9_item_115 : decode cX9_item 115 = .ok (.aload_n 0, 1) := by decide +kernel
theorem dX9_item_116 : decode cX9_item 116 = .ok (.invokevirtual 93, 3) := by decide +kernel
theorem dX9_item_119 : decode cX9_item 119 = .ok (.ireturn, 1) := by decide +kernel
theorem dX9_item_120 : decode cX9_item 120 = .ok (.aload_n 0, 1) := by decide +kernel
theorem dX9_item_121 : decode cX9_item 121 = .ok (.invokevirtual 97, 3) := by decide +kernel
theorem dX9_item_124 : decode cX9_item 124 = .ok (.ireturn, 1) := by decide +kernel
theorem dX9_item_125 : decode cX9_item 125 = .ok (.aload_n 0, 1) := by decide +kernel
theorem dX9_item_126 : decode cX9_item 126 = .ok (.sipush 298, 3) := by decide +kernel
theorem dX9_item_129 : decode cX9_item 129 = .ok (.iconst 1, 1) := by decide +kernel
theorem dX9_item_130 : decode cX9_item 130 = .ok (.bipush 8, 2) := by decide +kernel
theorem dX9_item_132 : decode cX9_item 132 = .ok (.invokevirtual 100, 3) := by decide +kernel
theorem dX9_item_135 : decode cX9_item 135 = .ok (.ireturn, 1) := by decide +kernel
theorem dX9_item_136 : decode cX9_item 136 = .ok (.aload_n 0, 1) := by decide +kernel
theorem dX9_item_137 : decode cX9_item 137 = .ok (.sipush 300, 3) := by decide +kernel
theorem dX9_item_140 : decode cX9_item 140 = .ok (.iconst 0, 1) := by decide +kernel
theorem dX9_item_141 : decode cX9_item 141 = .ok (.bipush 10, 2) := by decide +kernel
theorem dX9_item_143 : decode cX9_item 143 = .ok (.invokevirtual 100, 3) := by decide +kernel
theorem dX9_item_146 : decode cX9_item 146 = .ok (.ireturn, 1) := by decide +kernel
theorem dX9_item_147 : decode cX9_item 147 = .ok (.aload_n 0, 1) := by decide +kernel
theorem dX9_item_148 : decode cX9_item 148 = .ok (.sipush 302, 3) := by decide +kernel
theorem dX9_item_151 : decode cX9_item 151 = .ok (.iconst 0, 1) := by decide +kernel
theorem dX9_item_152 : decode cX9_item 152 = .ok (.bipush 10, 2) := by decide +kernel
theorem dX9_item_154 : decode cX9_item 154 = .ok (.invokevirtual 104, 3) := by decide +kernel
theorem dX9_item_157 : decode cX9_item 157 = .ok (.ireturn, 1) := by decide +kernel
theorem dX9_item_158 : decode cX9_item 158 = .ok (.aload_n 0, 1) := by decide +kernel
theorem dX9_item_159 : decode cX9_item 159 = .ok (.sipush 303, 3) := by decide +kernel
theorem dX9_item_162 : decode cX9_item 162 = .ok (.iconst 1, 1) := by decide +kernel
theorem dX9_item_163 : decode cX9_item 163 = .ok (.bipush 99, 2) := by decide +kernel
theorem dX9_item_165 : decode cX9_item 165 = .ok (.invokevirtual 104, 3) := by decide +kernel
theorem dX9_item_168 : decode cX9_item 168 = .ok (.ireturn, 1) := by decide +kernel
theorem dX9_item_169 : decode cX9_item 169 = .ok (.aload_n 0, 1) := by decide +kernel
theorem dX9_item_170 : decode cX9_item 170 = .ok (.invokevirtual 107, 3) := by decide +kernel
theorem dX9_item_173 : decode cX9_item 173 = .ok (.ireturn, 1) := by decide +kernel
theorem dX9_item_174 : decode cX9_item 174 = .ok (.aload_n 0, 1) := by decide +kernel
theorem dX9_item_175 : decode cX9_item 175 = .ok (.invokevirtual 110, 3) := by decide +kernel
theorem dX9_item_178 : decode cX9_item 178 = .ok (.ireturn, 1) := by decide +kernel
theorem dX9_item_179 : decode cX9_item 179 = .ok (.aload_n 0, 1) := by decide +kernel
theorem dX9_item_180 : decode cX9_item 180 = .ok (.bipush 112, 2) := by decide +kernel
theorem dX9_item_182 : decode cX9_item 182 = .ok (.iconst 2, 1) := by decide +kernel
theorem dX9_item_183 : decode cX9_item 183 = .ok (.invokevirtual 89, 3) := by decide +kernel
theorem dX9_item_186 : decode cX9_item 186 = .ok (.ireturn, 1) := by decide +kernel
theorem dX9_item_187 : decode cX9_item 187 = .ok (.iconst 0, 1) := by decide +kernel
theorem dX9_item_188 : decode cX9_item 188 = .ok (.ireturn, 1) := by decide +kernel
set_option maxRecDepth 20000 in
theorem ggX9_fault_X9_begin : GoodIn wsX9_fault wsX9_begin := goodIn_r _ [7, 8, 9, 70, 71, 72, 73, 74, 75, 76, 77, 78, 79, 80, 81, 82] (by decide +kernel) (by decide +kernel)
set_option maxRecDepth 20000 in
theorem gX9_fault_X9_begin : GoodIn wsX9_fault (wsV RX9 41 RX9 yX9_begin wsX9_begin) := goodIn_app (goodIn_of _ (by decide +kernel)) ggX9_fault_X9_begin
set_option maxRecDepth 20000 in
theorem ggX9_fault_X9_item : GoodIn wsX9_fault wsX9_item := goodIn_r _ [13, 1, 14, 15, 16, 6, 17, 2, 18, 19, 20, 21, 22, 23, 24, 25, 26, 27, 28, 29, 30, 31, 32, 33, 34, 35, 36, 37, 38, 39, 8, 40, 41, 42, 43, 44, 45, 46, 47, 48, 49, 50, 51, 52, 53, 54, 55, 56, 57, 58, 59, 60, 61, 62, 63, 64, 65, 66, 67, 68, 69, 70, 71, 72, 73, 74, 75, 76, 77, 78, 79, 80, 81, 82] (by decide +kernel) (by decide +kernel)
set_option maxRecDepth 20000 in
theorem gX9_fault_X9_item : GoodIn wsX9_fault (wsV RX9 113 RX9 yX9_item wsX9_item) := goodIn_app (goodIn_of _ (by decide +kernel)) ggX9_fault_X9_item
set_option maxRecDepth 20000 in
theorem ggX9_fault_X9_takes : GoodIn wsX9_fault wsX9_takes := goodIn_r _ [35, 1, 14, 15, 16, 6, 17, 2, 18, 70, 71, 72, 73, 74, 75, 76, 77, 78, 79, 80, 81, 82] (by decide +kernel) (by decide +kernel)
set_option maxRecDepth 20000 in
theorem gX9_fault_X9_takes : GoodIn wsX9_fault (wsV RX9 80 RX9 yX9_takes wsX9_takes) := goodIn_app (goodIn_of _ (by decide +kernel)) ggX9_fault_X9_takes
theorem dX9_fault_0 : decode cX9_fault 0 = .ok (.aload_n 0, 1) := by decide +kernel
theorem dX9_fault_1 : decode cX9_fault 1 = .ok (.invokevirtual 41, 3) := by decide +kernel
theorem dX9_fault_4 : decode cX9_fault 4 = .ok (.aload_n 0, 1) := by decide +kernel
theorem dX9_fault_5 : decode cX9_fault 5 = .ok (.iconst 0, 1) := by decide +kernel
theorem dX9_fault_6 : decode cX9_fault 6 = .ok (.putfield 60, 3) := by decide +kernel
theorem dX9_fault_9 : decode cX9_fault 9 = .ok (.aload_n 0, 1) := by decide +kernel
theorem dX9_fault_10 : decode cX9_fault 10 = .ok (.getfield 60, 3) := by decide +kernel
theorem dX9_fault_13 : decode cX9_fault 13 = .ok (.aload_n 0, 1) := by decide +kernel
theorem dX9_fault_14 : decode cX9_fault 14 = .ok (.getfield 53, 3) := by decide +kernel
theorem dX9_fault_17 : decode cX9_fault 17 = .ok (.if_icmp .ge 29, 3) := by decide +kernel
theorem dX9_fault_20 : decode cX9_fault 20 = .ok (.aload_n 0, 1) := by decide +kernel
theorem dX9_fault_21 : decode cX9_fault 21 = .ok (.getfield 60, 3) := by decide +kernel
theorem dX9_fault_24 : decode cX9_fault 24 = .ok (.istore_n 1, 1) := by decide +kernel
theorem dX9_fault_25 : decode cX9_fault 25 = .ok (.aload_n 0, 1) := by decide +kernel
theorem dX9_fault_26 : decode cX9_fault 26 = .ok (.invokevirtual 113, 3) := by decide +kernel
theorem dX9_fault_29 : decode cX9_fault 29 = .ok (.ifCond .eq 12, 3) := by decide +kernel
theorem dX9_fault_32 : decode cX9_fault 32 = .ok (.aload_n 0, 1) := by decide +kernel
theorem dX9_fault_33 : decode cX9_fault 33 = .ok (.bipush 59, 2) := by decide +kernel
theorem dX9_fault_35 : decode cX9_fault 35 = .ok (.invokevirtual 80, 3) := by decide +kernel
theorem dX9_fault_38 : decode cX9_fault 38 = .ok (.ifCond .ne 5, 3) := by decide +kernel
theorem dX9_fault_41 : decode cX9_fault 41 = .ok (.iload_n 1, 1) := by decide +kernel
theorem dX9_fault_42 : decode cX9_fault 42 = .ok (.ireturn, 1) := by decide +kernel
theorem dX9_fault_43 : decode cX9_fault 43 = .ok (.goto (-34), 3) := by decide +kernel
theorem dX9_fault_46 : decode cX9_fault 46 = .ok (.bipush (-4), 2) := by decide +kernel
theorem dX9_fault_48 : decode cX9_fault 48 = .ok (.ireturn, 1) := by decide +kernel
set_option maxRecDepth 20000 in
theorem ggX9_lay_X9_fault : GoodIn wsX9_lay wsX9_fault := goodIn_r _ [7, 8, 9, 10, 11, 12, 6, 13, 14, 15, 16, 17, 18, 19, 20, 21, 22, 23, 24, 25, 26, 27, 28, 29, 30, 31, 32, 33, 34, 35, 36, 37, 38, 39, 40, 41, 42, 43, 44, 45, 46, 47, 48, 49, 50, 51, 52, 53, 54, 55, 56, 57, 58, 59, 60, 61, 62, 63, 64, 65, 66, 67, 68, 69, 70, 71, 72, 73, 74, 75, 95, 96, 97, 98, 99, 100, 101, 102, 103, 104, 105, 106, 107] (by decide +kernel) (by decide +kernel)
set_option maxRecDepth 20000 in
theorem gX9_lay_X9_fault : GoodIn wsX9_lay (wsV RX9 116 RX9 yX9_fault wsX9_fault) := goodIn_app (goodIn_of _ (by decide +kernel)) ggX9_lay_X9_fault
set_option maxRecDepth 20000 in
theorem ggX9_lay_X9_layRead : GoodIn wsX9_lay wsX9_layRead := goodIn_r _ [79, 80, 14, 95, 96, 97, 98, 99, 100, 101, 102, 103, 104, 105, 106, 107] (by decide +kernel) (by decide +kernel)
set_option maxRecDepth 20000 in
theorem gX9_lay_X9_layRead : GoodIn wsX9_lay (wsV RX9 44 RX9 yX9_layRead wsX9_layRead) := goodIn_app (goodIn_of _ (by decide +kernel)) ggX9_lay_X9_layRead
set_option maxRecDepth 20000 in
theorem ggX9_lay_X9_toldSet : GoodIn wsX9_lay wsX9_toldSet := goodIn_r _ [84, 85, 86, 87, 6, 88, 80, 89, 90, 91, 95, 96, 97, 98, 99, 100, 101, 102, 103, 104, 105, 106, 107] (by decide +kernel) (by decide +kernel)
set_option maxRecDepth 20000 in
theorem gX9_lay_X9_toldSet : GoodIn wsX9_lay (wsV RX9 122 RX9 yX9_toldSet wsX9_toldSet) := goodIn_app (goodIn_of _ (by decide +kernel)) ggX9_lay_X9_toldSet
set_option maxRecDepth 20000 in
theorem ggX9_lay_X9_ones : GoodIn wsX9_lay wsX9_ones := goodIn_r _ [94] (by decide +kernel) (by decide +kernel)
set_option maxRecDepth 20000 in
theorem gX9_lay_X9_ones : GoodIn wsX9_lay (va_wsS RX9 125 yX9_ones wsX9_ones) := goodIn_app (goodIn_of _ (by decide +kernel)) ggX9_lay_X9_ones
theorem dX9_lay_0 : decode cX9_lay 0 = .ok (.aload_n 0, 1) := by decide +kernel
theorem dX9_lay_1 : decode cX9_lay 1 = .ok (.invokevirtual 116, 3) := by decide +kernel
theorem dX9_lay_4 : decode cX9_lay 4 = .ok (.ifCond .lt 6, 3) := by decide +kernel
theorem dX9_lay_7 : decode cX9_lay 7 = .ok (.bipush (-2), 2) := by decide +kernel
theorem dX9_lay_9 : decode cX9_lay 9 = .ok (.ireturn, 1) := by decide +kernel
theorem dX9_lay_10 : decode cX9_lay 10 = .ok (.aload_n 0, 1) := by decide +kernel
theorem dX9_lay_11 : decode cX9_lay 11 = .ok (.invokevirtual 44, 3) := by decide +kernel
theorem dX9_lay_14 : decode cX9_lay 14 = .ok (.aload_n 0, 1) := by decide +kernel
theorem dX9_lay_15 : decode cX9_lay 15 = .ok (.iconst 0, 1) := by decide +kernel
theorem dX9_lay_16 : decode cX9_lay 16 = .ok (.putfield 119, 3) := by decide +kernel
theorem dX9_lay_19 : decode cX9_lay 19 = .ok (.iconst 0, 1) := by decide +kernel
theorem dX9_lay_20 : decode cX9_lay 20 = .ok (.istore_n 1, 1) := by decide +kernel
theorem dX9_lay_21 : decode cX9_lay 21 = .ok (.iload_n 1, 1) := by decide +kernel
theorem dX9_lay_22 : decode cX9_lay 22 = .ok (.bipush 16, 2) := by decide +kernel
theorem dX9_lay_24 : decode cX9_lay 24 = .ok (.if_icmp .ge 16, 3) := by decide +kernel
theorem dX9_lay_27 : decode cX9_lay 27 = .ok (.aload_n 0, 1) := by decide +kernel
theorem dX9_lay_28 : decode cX9_lay 28 = .ok (.getfield 19, 3) := by decide +kernel
theorem dX9_lay_31 : decode cX9_lay 31 = .ok (.iload_n 1, 1) := by decide +kernel
theorem dX9_lay_32 : decode cX9_lay 32 = .ok (.iconst 0, 1) := by decide +kernel
theorem dX9_lay_33 : decode cX9_lay 33 = .ok (.iastore, 1) := by decide +kernel
theorem dX9_lay_34 : decode cX9_lay 34 = .ok (.iinc 1 1, 3) := by decide +kernel
theorem dX9_lay_37 : decode cX9_lay 37 = .ok (.goto (-16), 3) := by decide +kernel
theorem dX9_lay_40 : decode cX9_lay 40 = .ok (.aload_n 0, 1) := by decide +kernel
theorem dX9_lay_41 : decode cX9_lay 41 = .ok (.invokevirtual 122, 3) := by decide +kernel
theorem dX9_lay_44 : decode cX9_lay 44 = .ok (.invokestatic 125, 3) := by decide +kernel
theorem dX9_lay_47 : decode cX9_lay 47 = .ok (.ireturn, 1) := by decide +kernel
theorem dX9_ones_0 : decode cX9_ones 0 = .ok (.iconst 0, 1) := by decide +kernel
theorem dX9_ones_1 : decode cX9_ones 1 = .ok (.istore_n 1, 1) := by decide +kernel
theorem dX9_ones_2 : decode cX9_ones 2 = .ok (.iload_n 0, 1) := by decide +kernel
theorem dX9_ones_3 : decode cX9_ones 3 = .ok (.istore_n 2, 1) := by decide +kernel
theorem dX9_ones_4 : decode cX9_ones 4 = .ok (.iload_n 2, 1) := by decide +kernel
theorem dX9_ones_5 : decode cX9_ones 5 = .ok (.ifCond .eq 15, 3) := by decide +kernel
theorem dX9_ones_8 : decode cX9_ones 8 = .ok (.iinc 1 1, 3) := by decide +kernel
theorem dX9_ones_11 : decode cX9_ones 11 = .ok (.iload_n 2, 1) := by decide +kernel
theorem dX9_ones_12 : decode cX9_ones 12 = .ok (.iload_n 2, 1) := by decide +kernel
theorem dX9_ones_13 : decode cX9_ones 13 = .ok (.iconst 1, 1) := by decide +kernel
theorem dX9_ones_14 : decode cX9_ones 14 = .ok (.isub, 1) := by decide +kernel
theorem dX9_ones_15 : decode cX9_ones 15 = .ok (.iand, 1) := by decide +kernel
theorem dX9_ones_16 : decode cX9_ones 16 = .ok (.istore_n 2, 1) := by decide +kernel
theorem dX9_ones_17 : decode cX9_ones 17 = .ok (.goto (-13), 3) := by decide +kernel
theorem dX9_ones_20 : decode cX9_ones 20 = .ok (.iload_n 1, 1) := by decide +kernel
theorem dX9_ones_21 : decode cX9_ones 21 = .ok (.ireturn, 1) := by decide +kernel
theorem dX9_wordAt_0 : decode cX9_wordAt 0 = .ok (.iconst 0, 1) := by decide +kernel
theorem dX9_wordAt_1 : decode cX9_wordAt 1 = .ok (.bipush 7, 2) := by decide +kernel
theorem dX9_wordAt_3 : decode cX9_wordAt 3 = .ok (.bipush 8, 2) := by decide +kernel
theorem dX9_wordAt_5 : decode cX9_wordAt 5 = .ok (.iload_n 0, 1) := by decide +kernel
theorem dX9_wordAt_6 : decode cX9_wordAt 6 = .ok (.imul, 1) := by decide +kernel
theorem dX9_wordAt_7 : decode cX9_wordAt 7 = .ok (.iload_n 1, 1) := by decide +kernel
theorem dX9_wordAt_8 : decode cX9_wordAt 8 = .ok (.iadd, 1) := by decide +kernel
theorem dX9_wordAt_9 : decode cX9_wordAt 9 = .ok (.imul, 1) := by decide +kernel
theorem dX9_wordAt_10 : decode cX9_wordAt 10 = .ok (.iadd, 1) := by decide +kernel
theorem dX9_wordAt_11 : decode cX9_wordAt 11 = .ok (.ireturn, 1) := by decide +kernel
theorem dX9_earAt_0 : decode cX9_earAt 0 = .ok (.bipush 112, 2) := by decide +kernel
theorem dX9_earAt_2 : decode cX9_earAt 2 = .ok (.bipush 7, 2) := by decide +kernel
theorem dX9_earAt_4 : decode cX9_earAt 4 = .ok (.bipush 8, 2) := by decide +kernel
theorem dX9_earAt_6 : decode cX9_earAt 6 = .ok (.iload_n 0, 1) := by decide +kernel
theorem dX9_earAt_7 : decode cX9_earAt 7 = .ok (.imul, 1) := by decide +kernel
theorem dX9_earAt_8 : decode cX9_earAt 8 = .ok (.iload_n 1, 1) := by decide +kernel
theorem dX9_earAt_9 : decode cX9_earAt 9 = .ok (.iadd, 1) := by decide +kernel
theorem dX9_earAt_10 : decode cX9_earAt 10 = .ok (.imul, 1) := by decide +kernel
theorem dX9_earAt_11 : decode cX9_earAt 11 = .ok (.iadd, 1) := by decide +kernel
theorem dX9_earAt_12 : decode cX9_earAt 12 = .ok (.ireturn, 1) := by decide +kernel
set_option maxRecDepth 20000 in
theorem ggX9_isTold_X9_wordAt : GoodIn wsX9_isTold wsX9_wordAt := goodIn_r _ [5] (by decide +kernel) (by decide +kernel)
set_option maxRecDepth 20000 in
theorem gX9_isTold_X9_wordAt : GoodIn wsX9_isTold (va_wsS RX9 129 yX9_wordAt wsX9_wordAt) := goodIn_app (goodIn_of _ (by decide +kernel)) ggX9_isTold_X9_wordAt
theorem dX9_isTold_0 : decode cX9_isTold 0 = .ok (.aload_n 0, 1) := by decide +kernel
theorem dX9_isTold_1 : decode cX9_isTold 1 = .ok (.getfield 16, 3) := by decide +kernel
theorem dX9_isTold_4 : decode cX9_isTold 4 = .ok (.iconst 0, 1) := by decide +kernel
theorem dX9_isTold_5 : decode cX9_isTold 5 = .ok (.iload_n 1, 1) := by decide +kernel
theorem dX9_isTold_6 : decode cX9_isTold 6 = .ok (.invokestatic 129, 3) := by decide +kernel
theorem dX9_isTold_9 : decode cX9_isTold 9 = .ok (.iaload, 1) := by decide +kernel
theorem dX9_isTold_10 : decode cX9_isTold 10 = .ok (.ifCond .le 20, 3) := by decide +kernel
theorem dX9_isTold_13 : decode cX9_isTold 13 = .ok (.aload_n 0, 1) := by decide +kernel
theorem dX9_isTold_14 : decode cX9_isTold 14 = .ok (.getfield 16, 3) := by decide +kernel
theorem dX9_isTold_17 : decode cX9_isTold 17 = .ok (.iconst 1, 1) := by decide +kernel
theorem dX9_isTold_18 : decode cX9_isTold 18 = .ok (.iload_n 1, 1) := by decide +kernel
theorem dX9_isTold_19 : decode cX9_isTold 19 = .ok (.invokestatic 129, 3) := by decide +kernel
theorem dX9_isTold_22 : decode cX9_isTold 22 = .ok (.iaload, 1) := by decide +kernel
theorem dX9_isTold_23 : decode cX9_isTold 23 = .ok (.ifCond .le 7, 3) := by decide +kernel
theorem dX9_isTold_26 : decode cX9_isTold 26 = .ok (.iconst 1, 1) := by decide +kernel
theorem dX9_isTold_27 : decode cX9_isTold 27 = .ok (.goto 4, 3) := by decide +kernel
theorem dX9_isTold_30 : decode cX9_isTold 30 = .ok (.iconst 0, 1) := by decide +kernel
theorem dX9_isTold_31 : decode cX9_isTold 31 = .ok (.ireturn, 1) := by decide +kernel
set_option maxRecDepth 20000 in
theorem ggX9_toldSet_X9_isTold : GoodIn wsX9_toldSet wsX9_isTold := goodIn_r _ [5, 6, 7, 8, 4, 9, 10, 11, 12, 13, 14, 15, 16, 17, 18, 19, 20, 21, 22] (by decide +kernel) (by decide +kernel)
set_option maxRecDepth 20000 in
theorem gX9_toldSet_X9_isTold : GoodIn wsX9_toldSet (wsV RX9 132 RX9 yX9_isTold wsX9_isTold) := goodIn_app (goodIn_of _ (by decide +kernel)) ggX9_toldSet_X9_isTold
theorem dX9_toldSet_0 : decode cX9_toldSet 0 = .ok (.iconst 0, 1) := by decide +kernel
theorem dX9_toldSet_1 : decode cX9_toldSet 1 = .ok (.istore_n 1, 1) := by decide +kernel
theorem dX9_toldSet_2 : decode cX9_toldSet 2 = .ok (.iconst 0, 1) := by decide +kernel
theorem dX9_toldSet_3 : decode cX9_toldSet 3 = .ok (.istore_n 2, 1) := by decide +kernel
theorem dX9_toldSet_4 : decode cX9_toldSet 4 = .ok (.iload_n 2, 1) := by decide +kernel
theorem dX9_toldSet_5 : decode cX9_toldSet 5 = .ok (.bipush 8, 2) := by decide +kernel
theorem dX9_toldSet_7 : decode cX9_toldSet 7 = .ok (.if_icmp .ge 27, 3) := by decide +kernel
theorem dX9_toldSet_10 : decode cX9_toldSet 10 = .ok (.iload_n 1, 1) := by decide +kernel
theorem dX9_toldSet_11 : decode cX9_toldSet 11 = .ok (.aload_n 0, 1) := by decide +kernel
theorem dX9_toldSet_12 : decode cX9_toldSet 12 = .ok (.iload_n 2, 1) := by decide +kernel
theorem dX9_toldSet_13 : decode cX9_toldSet 13 = .ok (.invokevirtual 132, 3) := by decide +kernel
theorem dX9_toldSet_16 : decode cX9_toldSet 16 = .ok (.ifCond .eq 9, 3) := by decide +kernel
theorem dX9_toldSet_19 : decode cX9_toldSet 19 = .ok (.iconst 1, 1) := by decide +kernel
theorem dX9_toldSet_20 : decode cX9_toldSet 20 = .ok (.iload_n 2, 1) := by decide +kernel
theorem dX9_toldSet_21 : decode cX9_toldSet 21 = .ok (.ishl, 1) := by decide +kernel
theorem dX9_toldSet_22 : decode cX9_toldSet 22 = .ok (.goto 4, 3) := by decide +kernel
theorem dX9_toldSet_25 : decode cX9_toldSet 25 = .ok (.iconst 0, 1) := by decide +kernel
theorem dX9_toldSet_26 : decode cX9_toldSet 26 = .ok (.ior, 1) := by decide +kernel
theorem dX9_toldSet_27 : decode cX9_toldSet 27 = .ok (.istore_n 1, 1) := by decide +kernel
theorem dX9_toldSet_28 : decode cX9_toldSet 28 = .ok (.iinc 2 1, 3) := by decide +kernel
theorem dX9_toldSet_31 : decode cX9_toldSet 31 = .ok (.goto (-27), 3) := by decide +kernel
theorem dX9_toldSet_34 : decode cX9_toldSet 34 = .ok (.iload_n 1, 1) := by decide +kernel
theorem dX9_toldSet_35 : decode cX9_toldSet 35 = .ok (.ireturn, 1) := by decide +kernel
set_option maxRecDepth 20000 in
theorem ggX9_isMeaning_X9_in : GoodIn wsX9_isMeaning wsX9_in := goodIn_r _ [5] (by decide +kernel) (by decide +kernel)
set_option maxRecDepth 20000 in
theorem gX9_isMeaning_X9_in : GoodIn wsX9_isMeaning (va_wsS RX9 49 yX9_in wsX9_in) := goodIn_app (goodIn_of _ (by decide +kernel)) ggX9_isMeaning_X9_in
theorem dX9_isMeaning_0 : decode cX9_isMeaning 0 = .ok (.iload_n 0, 1) := by decide +kernel
theorem dX9_isMeaning_1 : decode cX9_isMeaning 1 = .ok (.i2l, 1) := by decide +kernel
theorem dX9_isMeaning_2 : decode cX9_isMeaning 2 = .ok (.lconst 0, 1) := by decide +kernel
theorem dX9_isMeaning_3 : decode cX9_isMeaning 3 = .ok (.ldc2_w 135, 3) := by decide +kernel
theorem dX9_isMeaning_6 : decode cX9_isMeaning 6 = .ok (.invokestatic 49, 3) := by decide +kernel
theorem dX9_isMeaning_9 : decode cX9_isMeaning 9 = .ok (.ireturn, 1) := by decide +kernel
set_option maxRecDepth 20000 in
theorem ggX9_said_X9_has : GoodIn wsX9_said wsX9_has := goodIn_r _ [5] (by decide +kernel) (by decide +kernel)
set_option maxRecDepth 20000 in
theorem gX9_said_X9_has : GoodIn wsX9_said (va_wsS RX9 137 yX9_has wsX9_has) := goodIn_app (goodIn_of _ (by decide +kernel)) ggX9_said_X9_has
theorem dX9_said_0 : decode cX9_said 0 = .ok (.aload_n 0, 1) := by decide +kernel
theorem dX9_said_1 : decode cX9_said 1 = .ok (.getfield 16, 3) := by decide +kernel
theorem dX9_said_4 : decode cX9_said 4 = .ok (.sipush 282, 3) := by decide +kernel
theorem dX9_said_7 : decode cX9_said 7 = .ok (.iload_n 2, 1) := by decide +kernel
theorem dX9_said_8 : decode cX9_said 8 = .ok (.iadd, 1) := by decide +kernel
theorem dX9_said_9 : decode cX9_said 9 = .ok (.iaload, 1) := by decide +kernel
theorem dX9_said_10 : decode cX9_said 10 = .ok (.istore_n 3, 1) := by decide +kernel
theorem dX9_said_11 : decode cX9_said 11 = .ok (.aload_n 0, 1) := by decide +kernel
theorem dX9_said_12 : decode cX9_said 12 = .ok (.getfield 16, 3) := by decide +kernel
theorem dX9_said_15 : decode cX9_said 15 = .ok (.sipush 280, 3) := by decide +kernel
theorem dX9_said_18 : decode cX9_said 18 = .ok (.iload_n 1, 1) := by decide +kernel
theorem dX9_said_19 : decode cX9_said 19 = .ok (.iadd, 1) := by decide +kernel
theorem dX9_said_20 : decode cX9_said 20 = .ok (.iaload, 1) := by decide +kernel
theorem dX9_said_21 : decode cX9_said 21 = .ok (.iload_n 2, 1) := by decide +kernel
theorem dX9_said_22 : decode cX9_said 22 = .ok (.invokestatic 137, 3) := by decide +kernel
theorem dX9_said_25 : decode cX9_said 25 = .ok (.ifCond .eq 7, 3) := by decide +kernel
theorem dX9_said_28 : decode cX9_said 28 = .ok (.iload_n 2, 1) := by decide +kernel
theorem dX9_said_29 : decode cX9_said 29 = .ok (.goto 29, 3) := by decide +kernel
theorem dX9_said_32 : decode cX9_said 32 = .ok (.iload_n 3, 1) := by decide +kernel
theorem dX9_said_33 : decode cX9_said 33 = .ok (.ifCond .lt 24, 3) := by decide +kernel
theorem dX9_said_36 : decode cX9_said 36 = .ok (.aload_n 0, 1) := by decide +kernel
theorem dX9_said_37 : decode cX9_said 37 = .ok (.getfield 16, 3) := by decide +kernel
theorem dX9_said_40 : decode cX9_said 40 = .ok (.sipush 280, 3) := by decide +kernel
theorem dX9_said_43 : decode cX9_said 43 = .ok (.iload_n 1, 1) := by decide +kernel
theorem dX9_said_44 : decode cX9_said 44 = .ok (.iadd, 1) := by decide +kernel
theorem dX9_said_45 : decode cX9_said 45 = .ok (.iaload, 1) := by decide +kernel
theorem dX9_said_46 : decode cX9_said 46 = .ok (.iload_n 3, 1) := by decide +kernel
theorem dX9_said_47 : decode cX9_said 47 = .ok (.invokestatic 137, 3) := by decide +kernel
theorem dX9_said_50 : decode cX9_said 50 = .ok (.ifCond .eq 7, 3) := by decide +kernel
theorem dX9_said_53 : decode cX9_said 53 = .ok (.iload_n 3, 1) := by decide +kernel
theorem dX9_said_54 : decode cX9_said 54 = .ok (.goto 4, 3) := by decide +kernel
theorem dX9_said_57 : decode cX9_said 57 = .ok (.iconst (-1), 1) := by decide +kernel
theorem dX9_said_58 : decode cX9_said 58 = .ok (.ireturn, 1) := by decide +kernel
set_option maxRecDepth 20000 in
theorem ggX9_say_X9_said : GoodIn wsX9_say wsX9_said := goodIn_r _ [6, 1, 7, 8, 5, 9, 10, 11, 12, 13, 14, 15, 16, 17, 18, 19, 20, 21, 22] (by decide +kernel) (by decide +kernel)
set_option maxRecDepth 20000 in
theorem gX9_say_X9_said : GoodIn wsX9_say (wsV RX9 140 RX9 yX9_said wsX9_said) := goodIn_app (goodIn_of _ (by decide +kernel)) ggX9_say_X9_said
theorem dX9_say_0 : decode cX9_say 0 = .ok (.iconst 0, 1) := by decide +kernel
theorem dX9_say_1 : decode cX9_say 1 = .ok (.istore 4, 2) := by decide +kernel
theorem dX9_say_3 : decode cX9_say 3 = .ok (.iconst 0, 1) := by decide +kernel
theorem dX9_say_4 : decode cX9_say 4 = .ok (.istore 5, 2) := by decide +kernel
theorem dX9_say_6 : decode cX9_say 6 = .ok (.iload 5, 2) := by decide +kernel
theorem dX9_say_8 : decode cX9_say 8 = .ok (.aload_n 0, 1) := by decide +kernel
theorem dX9_say_9 : decode cX9_say 9 = .ok (.getfield 16, 3) := by decide +kernel
theorem dX9_say_12 : decode cX9_say 12 = .ok (.iload_n 1, 1) := by decide +kernel
theorem dX9_say_13 : decode cX9_say 13 = .ok (.iaload, 1) := by decide +kernel
theorem dX9_say_14 : decode cX9_say 14 = .ok (.if_icmp .ge 56, 3) := by decide +kernel
theorem dX9_say_17 : decode cX9_say 17 = .ok (.aload_n 0, 1) := by decide +kernel
theorem dX9_say_18 : decode cX9_say 18 = .ok (.getfield 16, 3) := by decide +kernel
theorem dX9_say_21 : decode cX9_say 21 = .ok (.iload_n 1, 1) := by decide +kernel
theorem dX9_say_22 : decode cX9_say 22 = .ok (.iconst 1, 1) := by decide +kernel
theorem dX9_say_23 : decode cX9_say 23 = .ok (.iadd, 1) := by decide +kernel
theorem dX9_say_24 : decode cX9_say 24 = .ok (.iload 5, 2) := by decide +kernel
theorem dX9_say_26 : decode cX9_say 26 = .ok (.iadd, 1) := by decide +kernel
theorem dX9_say_27 : decode cX9_say 27 = .ok (.iaload, 1) := by decide +kernel
theorem dX9_say_28 : decode cX9_say 28 = .ok (.istore 6, 2) := by decide +kernel
theorem dX9_say_30 : decode cX9_say 30 = .ok (.iload_n 2, 1) := by decide +kernel
theorem dX9_say_31 : decode cX9_say 31 = .ok (.ifCond .ge 8, 3) := by decide +kernel
theorem dX9_say_34 : decode cX9_say 34 = .ok (.iload 6, 2) := by decide +kernel
theorem dX9_say_36 : decode cX9_say 36 = .ok (.goto 10, 3) := by decide +kernel
theorem dX9_say_39 : decode cX9_say 39 = .ok (.aload_n 0, 1) := by decide +kernel
theorem dX9_say_40 : decode cX9_say 40 = .ok (.iload_n 2, 1) := by decide +kernel
theorem dX9_say_41 : decode cX9_say 41 = .ok (.iload 6, 2) := by decide +kernel
theorem dX9_say_43 : decode cX9_say 43 = .ok (.invokevirtual 140, 3) := by decide +kernel
theorem dX9_say_46 : decode cX9_say 46 = .ok (.istore 7, 2) := by decide +kernel
theorem dX9_say_48 : decode cX9_say 48 = .ok (.iload 7, 2) := by decide +kernel
theorem dX9_say_50 : decode cX9_say 50 = .ok (.ifCond .lt 14, 3) := by decide +kernel
theorem dX9_say_53 : decode cX9_say 53 = .ok (.aload_n 3, 1) := by decide +kernel
theorem dX9_say_54 : decode cX9_say 54 = .ok (.iconst 1, 1) := by decide +kernel
theorem dX9_say_55 : decode cX9_say 55 = .ok (.iload 4, 2) := by decide +kernel
theorem dX9_say_57 : decode cX9_say 57 = .ok (.iadd, 1) := by decide +kernel
theorem dX9_say_58 : decode cX9_say 58 = .ok (.iload 7, 2) := by decide +kernel
theorem dX9_say_60 : decode cX9_say 60 = .ok (.iastore, 1) := by decide +kernel
theorem dX9_say_61 : decode cX9_say 61 = .ok (.iinc 4 1, 3) := by decide +kernel
theorem dX9_say_64 : decode cX9_say 64 = .ok (.iinc 5 1, 3) := by decide +kernel
theorem dX9_say_67 : decode cX9_say 67 = .ok (.goto (-61), 3) := by decide +kernel
theorem dX9_say_70 : decode cX9_say 70 = .ok (.aload_n 3, 1) := by decide +kernel
theorem dX9_say_71 : decode cX9_say 71 = .ok (.iconst 0, 1) := by decide +kernel
theorem dX9_say_72 : decode cX9_say 72 = .ok (.iload 4, 2) := by decide +kernel
theorem dX9_say_74 : decode cX9_say 74 = .ok (.iastore, 1) := by decide +kernel
theorem dX9_say_75 : decode cX9_say 75 = .ok (.return_, 1) := by decide +kernel
theorem dX9_least_0 : decode cX9_least 0 = .ok (.iload_n 0, 1) := by decide +kernel
theorem dX9_least_1 : decode cX9_least 1 = .ok (.iload_n 1, 1) := by decide +kernel
theorem dX9_least_2 : decode cX9_least 2 = .ok (.if_icmp .ge 7, 3) := by decide +kernel
theorem dX9_least_5 : decode cX9_least 5 = .ok (.iload_n 0, 1) := by decide +kernel
theorem dX9_least_6 : decode cX9_least 6 = .ok (.goto 4, 3) := by decide +kernel
theorem dX9_least_9 : decode cX9_least 9 = .ok (.iload_n 1, 1) := by decide +kernel
theorem dX9_least_10 : decode cX9_least 10 = .ok (.ireturn, 1) := by decide +kernel
set_option maxRecDepth 20000 in
theorem ggX9_farOf_X9_least : GoodIn wsX9_farOf wsX9_least := goodIn_r _ [7] (by decide +kernel) (by decide +kernel)
set_option maxRecDepth 20000 in
theorem gX9_farOf_X9_least : GoodIn wsX9_farOf (va_wsS RX9 143 yX9_least wsX9_least) := goodIn_app (goodIn_of _ (by decide +kernel)) ggX9_farOf_X9_least
theorem dX9_farOf_0 : decode cX9_farOf 0 = .ok (.iconst 0, 1) := by decide +kernel
theorem dX9_farOf_1 : decode cX9_farOf 1 = .ok (.istore_n 1, 1) := by decide +kernel
theorem dX9_farOf_2 : decode cX9_farOf 2 = .ok (.iload_n 1, 1) := by decide +kernel
theorem dX9_farOf_3 : decode cX9_farOf 3 = .ok (.aload_n 0, 1) := by decide +kernel
theorem dX9_farOf_4 : decode cX9_farOf 4 = .ok (.getfield 25, 3) := by decide +kernel
theorem dX9_farOf_7 : decode cX9_farOf 7 = .ok (.iconst 0, 1) := by decide +kernel
theorem dX9_farOf_8 : decode cX9_farOf 8 = .ok (.iaload, 1) := by decide +kernel
theorem dX9_farOf_9 : decode cX9_farOf 9 = .ok (.if_icmp .gt 141, 3) := by decide +kernel
theorem dX9_farOf_12 : decode cX9_farOf 12 = .ok (.iconst 0, 1) := by decide +kernel
theorem dX9_farOf_13 : decode cX9_farOf 13 = .ok (.istore_n 2, 1) := by decide +kernel
theorem dX9_farOf_14 : decode cX9_farOf 14 = .ok (.iload_n 2, 1) := by decide +kernel
theorem dX9_farOf_15 : decode cX9_farOf 15 = .ok (.aload_n 0, 1) := by decide +kernel
theorem dX9_farOf_16 : decode cX9_farOf 16 = .ok (.getfield 28, 3) := by decide +kernel
theorem dX9_farOf_19 : decode cX9_farOf 19 = .ok (.iconst 0, 1) := by decide +kernel
theorem dX9_farOf_20 : decode cX9_farOf 20 = .ok (.iaload, 1) := by decide +kernel
theorem dX9_farOf_21 : decode cX9_farOf 21 = .ok (.if_icmp .gt 123, 3) := by decide +kernel
theorem dX9_farOf_24 : decode cX9_farOf 24 = .ok (.iload_n 1, 1) := by decide +kernel
theorem dX9_farOf_25 : decode cX9_farOf 25 = .ok (.ifCond .ne 7, 3) := by decide +kernel
theorem dX9_farOf_28 : decode cX9_farOf 28 = .ok (.iload_n 2, 1) := by decide +kernel
theorem dX9_farOf_29 : decode cX9_farOf 29 = .ok (.goto 13, 3) := by decide +kernel
theorem dX9_farOf_32 : decode cX9_farOf 32 = .ok (.iload_n 2, 1) := by decide +kernel
theorem dX9_farOf_33 : decode cX9_farOf 33 = .ok (.ifCond .ne 7, 3) := by decide +kernel
theorem dX9_farOf_36 : decode cX9_farOf 36 = .ok (.iload_n 1, 1) := by decide +kernel
theorem dX9_farOf_37 : decode cX9_farOf 37 = .ok (.goto 5, 3) := by decide +kernel
theorem dX9_farOf_40 : decode cX9_farOf 40 = .ok (.bipush 99, 2) := by decide +kernel
theorem dX9_farOf_42 : decode cX9_farOf 42 = .ok (.istore_n 3, 1) := by decide +kernel
theorem dX9_farOf_43 : decode cX9_farOf 43 = .ok (.iload_n 1, 1) := by decide +kernel
theorem dX9_farOf_44 : decode cX9_farOf 44 = .ok (.ifCond .le 82, 3) := by decide +kernel
theorem dX9_farOf_47 : decode cX9_farOf 47 = .ok (.iload_n 2, 1) := by decide +kernel
theorem dX9_farOf_48 : decode cX9_farOf 48 = .ok (.ifCond .le 78, 3) := by decide +kernel
theorem dX9_farOf_51 : decode cX9_farOf 51 = .ok (.aload_n 0, 1) := by decide +kernel
theorem dX9_farOf_52 : decode cX9_farOf 52 = .ok (.getfield 31, 3) := by decide +kernel
theorem dX9_farOf_55 : decode cX9_farOf 55 = .ok (.bipush 7, 2) := by decide +kernel
theorem dX9_farOf_57 : decode cX9_farOf 57 = .ok (.iload_n 1, 1) := by decide +kernel
theorem dX9_farOf_58 : decode cX9_farOf 58 = .ok (.iconst 1, 1) := by decide +kernel
theorem dX9_farOf_59 : decode cX9_farOf 59 = .ok (.isub, 1) := by decide +kernel
theorem dX9_farOf_60 : decode cX9_farOf 60 = .ok (.imul, 1) := by decide +kernel
theorem dX9_farOf_61 : decode cX9_farOf 61 = .ok (.iload_n 2, 1) := by decide +kernel
theorem dX9_farOf_62 : decode cX9_farOf 62 = .ok (.iadd, 1) := by decide +kernel
theorem dX9_farOf_63 : decode cX9_farOf 63 = .ok (.iconst 1, 1) := by decide +kernel
theorem dX9_farOf_64 : decode cX9_farOf 64 = .ok (.isub, 1) := by decide +kernel
theorem dX9_farOf_65 : decode cX9_farOf 65 = .ok (.iaload, 1) := by decide +kernel
theorem dX9_farOf_66 : decode cX9_farOf 66 = .ok (.aload_n 0, 1) := by decide +kernel
theorem dX9_farOf_67 : decode cX9_farOf 67 = .ok (.getfield 25, 3) := by decide +kernel
theorem dX9_farOf_70 : decode cX9_farOf 70 = .ok (.iload_n 1, 1) := by decide +kernel
theorem dX9_farOf_71 : decode cX9_farOf 71 = .ok (.iaload, 1) := by decide +kernel
theorem dX9_farOf_72 : decode cX9_farOf 72 = .ok (.aload_n 0, 1) := by decide +kernel
theorem dX9_farOf_73 : decode cX9_farOf 73 = .ok (.getfield 28, 3) := by decide +kernel
theorem dX9_farOf_76 : decode cX9_farOf 76 = .ok (.iload_n 2, 1) := by decide +kernel
theorem dX9_farOf_77 : decode cX9_farOf 77 = .ok (.iaload, 1) := by decide +kernel
theorem dX9_farOf_78 : decode cX9_farOf 78 = .ok (.if_icmp .ne 7, 3) := by decide +kernel
theorem dX9_farOf_81 : decode cX9_farOf 81 = .ok (.iconst 0, 1) := by decide +kernel
theorem dX9_farOf_82 : decode cX9_farOf 82 = .ok (.goto 4, 3) := by decide +kernel
theorem dX9_farOf_85 : decode cX9_farOf 85 = .ok (.iconst 1, 1) := by decide +kernel
theorem dX9_farOf_86 : decode cX9_farOf 86 = .ok (.iadd, 1) := by decide +kernel
theorem dX9_farOf_87 : decode cX9_farOf 87 = .ok (.istore 4, 2) := by decide +kernel
theorem dX9_farOf_89 : decode cX9_farOf 89 = .ok (.iload 4, 2) := by decide +kernel
theorem dX9_farOf_91 : decode cX9_farOf 91 = .ok (.iconst 1, 1) := by decide +kernel
theorem dX9_farOf_92 : decode cX9_farOf 92 = .ok (.aload_n 0, 1) := by decide +kernel
theorem dX9_farOf_93 : decode cX9_farOf 93 = .ok (.getfield 31, 3) := by decide +kernel
theorem dX9_farOf_96 : decode cX9_farOf 96 = .ok (.bipush 7, 2) := by decide +kernel
theorem dX9_farOf_98 : decode cX9_farOf 98 = .ok (.iload_n 1, 1) := by decide +kernel
theorem dX9_farOf_99 : decode cX9_farOf 99 = .ok (.iconst 1, 1) := by decide +kernel
theorem dX9_farOf_100 : decode cX9_farOf 100 = .ok (.isub, 1) := by decide +kernel
theorem dX9_farOf_101 : decode cX9_farOf 101 = .ok (.imul, 1) := by decide +kernel
theorem dX9_farOf_102 : decode cX9_farOf 102 = .ok (.iload_n 2, 1) := by decide +kernel
theorem dX9_farOf_103 : decode cX9_farOf 103 = .ok (.iadd, 1) := by decide +kernel
theorem dX9_farOf_104 : decode cX9_farOf 104 = .ok (.iaload, 1) := by decide +kernel
theorem dX9_farOf_105 : decode cX9_farOf 105 = .ok (.aload_n 0, 1) := by decide +kernel
theorem dX9_farOf_106 : decode cX9_farOf 106 = .ok (.getfield 31, 3) := by decide +kernel
theorem dX9_farOf_109 : decode cX9_farOf 109 = .ok (.bipush 7, 2) := by decide +kernel
theorem dX9_farOf_111 : decode cX9_farOf 111 = .ok (.iload_n 1, 1) := by decide +kernel
theorem dX9_farOf_112 : decode cX9_farOf 112 = .ok (.imul, 1) := by decide +kernel
theorem dX9_farOf_113 : decode cX9_farOf 113 = .ok (.iload_n 2, 1) := by decide +kernel
theorem dX9_farOf_114 : decode cX9_farOf 114 = .ok (.iadd, 1) := by decide +kernel
theorem dX9_farOf_115 : decode cX9_farOf 115 = .ok (.iconst 1, 1) := by decide +kernel
theorem dX9_farOf_116 : decode cX9_farOf 116 = .ok (.isub, 1) := by decide +kernel
theorem dX9_farOf_117 : decode cX9_farOf 117 = .ok (.iaload, 1) := by decide +kernel
theorem dX9_farOf_118 : decode cX9_farOf 118 = .ok (.invokestatic 143, 3) := by decide +kernel
theorem dX9_farOf_121 : decode cX9_farOf 121 = .ok (.iadd, 1) := by decide +kernel
theorem dX9_farOf_122 : decode cX9_farOf 122 = .ok (.invokestatic 143, 3) := by decide +kernel
theorem dX9_farOf_125 : decode cX9_farOf 125 = .ok (.istore_n 3, 1) := by decide +kernel
theorem dX9_farOf_126 : decode cX9_farOf 126 = .ok (.aload_n 0, 1) := by decide +kernel
theorem dX9_farOf_127 : decode cX9_farOf 127 = .ok (.getfield 31, 3) := by decide +kernel
theorem dX9_farOf_130 : decode cX9_farOf 130 = .ok (.bipush 7, 2) := by decide +kernel
theorem dX9_farOf_132 : decode cX9_farOf 132 = .ok (.iload_n 1, 1) := by decide +kernel
theorem dX9_farOf_133 : decode cX9_farOf 133 = .ok (.imul, 1) := by decide +kernel
theorem dX9_farOf_134 : decode cX9_farOf 134 = .ok (.iload_n 2, 1) := by decide +kernel
theorem dX9_farOf_135 : decode cX9_farOf 135 = .ok (.iadd, 1) := by decide +kernel
theorem dX9_farOf_136 : decode cX9_farOf 136 = .ok (.iload_n 3, 1) := by decide +kernel
theorem dX9_farOf_137 : decode cX9_farOf 137 = .ok (.iastore, 1) := by decide +kernel
theorem dX9_farOf_138 : decode cX9_farOf 138 = .ok (.iinc 2 1, 3) := by decide +kernel
theorem dX9_farOf_141 : decode cX9_farOf 141 = .ok (.goto (-127), 3) := by decide +kernel
theorem dX9_farOf_144 : decode cX9_farOf 144 = .ok (.iinc 1 1, 3) := by decide +kernel
theorem dX9_farOf_147 : decode cX9_farOf 147 = .ok (.goto (-145), 3) := by decide +kernel
theorem dX9_farOf_150 : decode cX9_farOf 150 = .ok (.aload_n 0, 1) := by decide +kernel
theorem dX9_farOf_151 : decode cX9_farOf 151 = .ok (.getfield 31, 3) := by decide +kernel
theorem dX9_farOf_154 : decode cX9_farOf 154 = .ok (.bipush 7, 2) := by decide +kernel
theorem dX9_farOf_156 : decode cX9_farOf 156 = .ok (.aload_n 0, 1) := by decide +kernel
theorem dX9_farOf_157 : decode cX9_farOf 157 = .ok (.getfield 25, 3) := by decide +kernel
theorem dX9_farOf_160 : decode cX9_farOf 160 = .ok (.iconst 0, 1) := by decide +kernel
theorem dX9_farOf_161 : decode cX9_farOf 161 = .ok (.iaload, 1) := by decide +kernel
theorem dX9_farOf_162 : decode cX9_farOf 162 = .ok (.imul, 1) := by decide +kernel
theorem dX9_farOf_163 : decode cX9_farOf 163 = .ok (.aload_n 0, 1) := by decide +kernel
theorem dX9_farOf_164 : decode cX9_farOf 164 = .ok (.getfield 28, 3) := by decide +kernel
theorem dX9_farOf_167 : decode cX9_farOf 167 = .ok (.iconst 0, 1) := by decide +kernel
theorem dX9_farOf_168 : decode cX9_farOf 168 = .ok (.iaload, 1) := by decide +kernel
theorem dX9_farOf_169 : decode cX9_farOf 169 = .ok (.iadd, 1) := by decide +kernel
theorem dX9_farOf_170 : decode cX9_farOf 170 = .ok (.iaload, 1) := by decide +kernel
theorem dX9_farOf_171 : decode cX9_farOf 171 = .ok (.ireturn, 1) := by decide +kernel
