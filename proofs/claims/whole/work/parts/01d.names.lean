set_option maxRecDepth 20000 in
theorem ggX10_lay_X10_fault : GoodIn wsX10_lay wsX10_fault := goodIn_r _ [7, 8, 9, 10, 11, 12, 6, 13, 14, 15, 16, 17, 18, 19, 20, 21, 22, 23, 24, 25, 26, 27, 28, 29, 30, 31, 32, 33, 34, 35, 36, 37, 38, 39, 40, 41, 42, 43, 44, 45, 46, 47, 48, 49, 50, 51, 52, 53, 54, 55, 56, 57, 58, 59, 60, 61, 62, 63, 64, 65, 66, 67, 68, 69, 70, 71, 72, 73, 74, 75, 95, 96, 97, 98, 99, 100, 101, 102, 103, 104, 105, 106, 107] (by decide +kernel) (by decide +kernel)
set_option maxRecDepth 20000 in
theorem gX10_lay_X10_fault : GoodIn wsX10_lay (wsV RX10 116 RX10 yX10_fault wsX10_fault) := goodIn_app (goodIn_of _ (by decide +kernel)) ggX10_lay_X10_fault
set_option maxRecDepth 20000 in
theorem ggX10_lay_X10_layRead : GoodIn wsX10_lay wsX10_layRead := goodIn_r _ [79, 80, 14, 95, 96, 97, 98, 99, 100, 101, 102, 103, 104, 105, 106, 107] (by decide +kernel) (by decide +kernel)
set_option maxRecDepth 20000 in
theorem gX10_lay_X10_layRead : GoodIn wsX10_lay (wsV RX10 44 RX10 yX10_layRead wsX10_layRead) := goodIn_app (goodIn_of _ (by decide +kernel)) ggX10_lay_X10_layRead
set_option maxRecDepth 20000 in
theorem ggX10_lay_X10_toldSet : GoodIn wsX10_lay wsX10_toldSet := goodIn_r _ [84, 85, 86, 87, 6, 88, 80, 89, 90, 91, 95, 96, 97, 98, 99, 100, 101, 102, 103, 104, 105, 106, 107] (by decide +kernel) (by decide +kernel)
set_option maxRecDepth 20000 in
theorem gX10_lay_X10_toldSet : GoodIn wsX10_lay (wsV RX10 122 RX10 yX10_toldSet wsX10_toldSet) := goodIn_app (goodIn_of _ (by decide +kernel)) ggX10_lay_X10_toldSet
set_option maxRecDepth 20000 in
theorem ggX10_lay_X10_ones : GoodIn wsX10_lay wsX10_ones := goodIn_r _ [94] (by decide +kernel) (by decide +kernel)
set_option maxRecDepth 20000 in
theorem gX10_lay_X10_ones : GoodIn wsX10_lay (va_wsS RX10 125 yX10_ones wsX10_ones) := goodIn_app (goodIn_of _ (by decide +kernel)) ggX10_lay_X10_ones
theorem dX10_lay_0 : decode cX10_lay 0 = .ok (.aload_n 0, 1) := by decide +kernel
theorem dX10_lay_1 : decode cX10_lay 1 = .ok (.invokevirtual 116, 3) := by decide +kernel
theorem dX10_lay_4 : decode cX10_lay 4 = .ok (.ifCond .lt 6, 3) := by decide +kernel
theorem dX10_lay_7 : decode cX10_lay 7 = .ok (.bipush (-2), 2) := by decide +kernel
theorem dX10_lay_9 : decode cX10_lay 9 = .ok (.ireturn, 1) := by decide +kernel
theorem dX10_lay_10 : decode cX10_lay 10 = .ok (.aload_n 0, 1) := by decide +kernel
theorem dX10_lay_11 : decode cX10_lay 11 = .ok (.invokevirtual 44, 3) := by decide +kernel
theorem dX10_lay_14 : decode cX10_lay 14 = .ok (.aload_n 0, 1) := by decide +kernel
theorem dX10_lay_15 : decode cX10_lay 15 = .ok (.iconst 0, 1) := by decide +kernel
theorem dX10_lay_16 : decode cX10_lay 16 = .ok (.putfield 119, 3) := by decide +kernel
theorem dX10_lay_19 : decode cX10_lay 19 = .ok (.iconst 0, 1) := by decide +kernel
theorem dX10_lay_20 : decode cX10_lay 20 = .ok (.istore_n 1, 1) := by decide +kernel
theorem dX10_lay_21 : decode cX10_lay 21 = .ok (.iload_n 1, 1) := by decide +kernel
theorem dX10_lay_22 : decode cX10_lay 22 = .ok (.bipush 16, 2) := by decide +kernel
theorem dX10_lay_24 : decode cX10_lay 24 = .ok (.if_icmp .ge 16, 3) := by decide +kernel
theorem dX10_lay_27 : decode cX10_lay 27 = .ok (.aload_n 0, 1) := by decide +kernel
theorem dX10_lay_28 : decode cX10_lay 28 = .ok (.getfield 19, 3) := by decide +kernel
theorem dX10_lay_31 : decode cX10_lay 31 = .ok (.iload_n 1, 1) := by decide +kernel
theorem dX10_lay_32 : decode cX10_lay 32 = .ok (.iconst 0, 1) := by decide +kernel
theorem dX10_lay_33 : decode cX10_lay 33 = .ok (.iastore, 1) := by decide +kernel
theorem dX10_lay_34 : decode cX10_lay 34 = .ok (.iinc 1 1, 3) := by decide +kernel
theorem dX10_lay_37 : decode cX10_lay 37 = .ok (.goto (-16), 3) := by decide +kernel
theorem dX10_lay_40 : decode cX10_lay 40 = .ok (.aload_n 0, 1) := by decide +kernel
theorem dX10_lay_41 : decode cX10_lay 41 = .ok (.invokevirtual 122, 3) := by decide +kernel
theorem dX10_lay_44 : decode cX10_lay 44 = .ok (.invokestatic 125, 3) := by decide +kernel
theorem dX10_lay_47 : decode cX10_lay 47 = .ok (.ireturn, 1) := by decide +kernel
theorem dX10_ones_0 : decode cX10_ones 0 = .ok (.iconst 0, 1) := by decide +kernel
theorem dX10_ones_1 : decode cX10_ones 1 = .ok (.istore_n 1, 1) := by decide +kernel
theorem dX10_ones_2 : decode cX10_ones 2 = .ok (.iload_n 0, 1) := by decide +kernel
theorem dX10_ones_3 : decode cX10_ones 3 = .ok (.istore_n 2, 1) := by decide +kernel
theorem dX10_ones_4 : decode cX10_ones 4 = .ok (.iload_n 2, 1) := by decide +kernel
theorem dX10_ones_5 : decode cX10_ones 5 = .ok (.ifCond .eq 15, 3) := by decide +kernel
theorem dX10_ones_8 : decode cX10_ones 8 = .ok (.iinc 1 1, 3) := by decide +kernel
theorem dX10_ones_11 : decode cX10_ones 11 = .ok (.iload_n 2, 1) := by decide +kernel
theorem dX10_ones_12 : decode cX10_ones 12 = .ok (.iload_n 2, 1) := by decide +kernel
theorem dX10_ones_13 : decode cX10_ones 13 = .ok (.iconst 1, 1) := by decide +kernel
theorem dX10_ones_14 : decode cX10_ones 14 = .ok (.isub, 1) := by decide +kernel
theorem dX10_ones_15 : decode cX10_ones 15 = .ok (.iand, 1) := by decide +kernel
theorem dX10_ones_16 : decode cX10_ones 16 = .ok (.istore_n 2, 1) := by decide +kernel
theorem dX10_ones_17 : decode cX10_ones 17 = .ok (.goto (-13), 3) := by decide +kernel
theorem dX10_ones_20 : decode cX10_ones 20 = .ok (.iload_n 1, 1) := by decide +kernel
theorem dX10_ones_21 : decode cX10_ones 21 = .ok (.ireturn, 1) := by decide +kernel
theorem dX10_wordAt_0 : decode cX10_wordAt 0 = .ok (.iconst 0, 1) := by decide +kernel
theorem dX10_wordAt_1 : decode cX10_wordAt 1 = .ok (.bipush 7, 2) := by decide +kernel
theorem dX10_wordAt_3 : decode cX10_wordAt 3 = .ok (.bipush 8, 2) := by decide +kernel
theorem dX10_wordAt_5 : decode cX10_wordAt 5 = .ok (.iload_n 0, 1) := by decide +kernel
theorem dX10_wordAt_6 : decode cX10_wordAt 6 = .ok (.imul, 1) := by decide +kernel
theorem dX10_wordAt_7 : decode cX10_wordAt 7 = .ok (.iload_n 1, 1) := by decide +kernel
theorem dX10_wordAt_8 : decode cX10_wordAt 8 = .ok (.iadd, 1) := by decide +kernel
theorem dX10_wordAt_9 : decode cX10_wordAt 9 = .ok (.imul, 1) := by decide +kernel
theorem dX10_wordAt_10 : decode cX10_wordAt 10 = .ok (.iadd, 1) := by decide +kernel
theorem dX10_wordAt_11 : decode cX10_wordAt 11 = .ok (.ireturn, 1) := by decide +kernel
theorem dX10_earAt_0 : decode cX10_earAt 0 = .ok (.bipush 112, 2) := by decide +kernel
theorem dX10_earAt_2 : decode cX10_earAt 2 = .ok (.bipush 7, 2) := by decide +kernel
theorem dX10_earAt_4 : decode cX10_earAt 4 = .ok (.bipush 8, 2) := by decide +kernel
theorem dX10_earAt_6 : decode cX10_earAt 6 = .ok (.iload_n 0, 1) := by decide +kernel
theorem dX10_earAt_7 : decode cX10_earAt 7 = .ok (.imul, 1) := by decide +kernel
theorem dX10_earAt_8 : decode cX10_earAt 8 = .ok (.iload_n 1, 1) := by decide +kernel
theorem dX10_earAt_9 : decode cX10_earAt 9 = .ok (.iadd, 1) := by decide +kernel
theorem dX10_earAt_10 : decode cX10_earAt 10 = .ok (.imul, 1) := by decide +kernel
theorem dX10_earAt_11 : decode cX10_earAt 11 = .ok (.iadd, 1) := by decide +kernel
theorem dX10_earAt_12 : decode cX10_earAt 12 = .ok (.ireturn, 1) := by decide +kernel
set_option maxRecDepth 20000 in
theorem ggX10_isTold_X10_wordAt : GoodIn wsX10_isTold wsX10_wordAt := goodIn_r _ [5] (by decide +kernel) (by decide +kernel)
set_option maxRecDepth 20000 in
theorem gX10_isTold_X10_wordAt : GoodIn wsX10_isTold (va_wsS RX10 129 yX10_wordAt wsX10_wordAt) := goodIn_app (goodIn_of _ (by decide +kernel)) ggX10_isTold_X10_wordAt
theorem dX10_isTold_0 : decode cX10_isTold 0 = .ok (.aload_n 0, 1) := by decide +kernel
theorem dX10_isTold_1 : decode cX10_isTold 1 = .ok (.getfield 16, 3) := by decide +kernel
theorem dX10_isTold_4 : decode cX10_isTold 4 = .ok (.iconst 0, 1) := by decide +kernel
theorem dX10_isTold_5 : decode cX10_isTold 5 = .ok (.iload_n 1, 1) := by decide +kernel
theorem dX10_isTold_6 : decode cX10_isTold 6 = .ok (.invokestatic 129, 3) := by decide +kernel
theorem dX10_isTold_9 : decode cX10_isTold 9 = .ok (.iaload, 1) := by decide +kernel
theorem dX10_isTold_10 : decode cX10_isTold 10 = .ok (.ifCond .le 20, 3) := by decide +kernel
theorem dX10_isTold_13 : decode cX10_isTold 13 = .ok (.aload_n 0, 1) := by decide +kernel
theorem dX10_isTold_14 : decode cX10_isTold 14 = .ok (.getfield 16, 3) := by decide +kernel
theorem dX10_isTold_17 : decode cX10_isTold 17 = .ok (.iconst 1, 1) := by decide +kernel
theorem dX10_isTold_18 : decode cX10_isTold 18 = .ok (.iload_n 1, 1) := by decide +kernel
theorem dX10_isTold_19 : decode cX10_isTold 19 = .ok (.invokestatic 129, 3) := by decide +kernel
theorem dX10_isTold_22 : decode cX10_isTold 22 = .ok (.iaload, 1) := by decide +kernel
theorem dX10_isTold_23 : decode cX10_isTold 23 = .ok (.ifCond .le 7, 3) := by decide +kernel
theorem dX10_isTold_26 : decode cX10_isTold 26 = .ok (.iconst 1, 1) := by decide +kernel
theorem dX10_isTold_27 : decode cX10_isTold 27 = .ok (.goto 4, 3) := by decide +kernel
theorem dX10_isTold_30 : decode cX10_isTold 30 = .ok (.iconst 0, 1) := by decide +kernel
theorem dX10_isTold_31 : decode cX10_isTold 31 = .ok (.ireturn, 1) := by decide +kernel
set_option maxRecDepth 20000 in
theorem ggX10_toldSet_X10_isTold : GoodIn wsX10_toldSet wsX10_isTold := goodIn_r _ [5, 6, 7, 8, 4, 9, 10, 11, 12, 13, 14, 15, 16, 17, 18, 19, 20, 21, 22] (by decide +kernel) (by decide +kernel)
set_option maxRecDepth 20000 in
theorem gX10_toldSet_X10_isTold : GoodIn wsX10_toldSet (wsV RX10 132 RX10 yX10_isTold wsX10_isTold) := goodIn_app (goodIn_of _ (by decide +kernel)) ggX10_toldSet_X10_isTold
theorem dX10_toldSet_0 : decode cX10_toldSet 0 = .ok (.iconst 0, 1) := by decide +kernel
theorem dX10_toldSet_1 : decode cX10_toldSet 1 = .ok (.istore_n 1, 1) := by decide +kernel
theorem dX10_toldSet_2 : decode cX10_toldSet 2 = .ok (.iconst 0, 1) := by decide +kernel
theorem dX10_toldSet_3 : decode cX10_toldSet 3 = .ok (.istore_n 2, 1) := by decide +kernel
theorem dX10_toldSet_4 : decode cX10_toldSet 4 = .ok (.iload_n 2, 1) := by decide +kernel
theorem dX10_toldSet_5 : decode cX10_toldSet 5 = .ok (.bipush 8, 2) := by decide +kernel
theorem dX10_toldSet_7 : decode cX10_toldSet 7 = .ok (.if_icmp .ge 27, 3) := by decide +kernel
theorem dX10_toldSet_10 : decode cX10_toldSet 10 = .ok (.iload_n 1, 1) := by decide +kernel
theorem dX10_toldSet_11 : decode cX10_toldSet 11 = .ok (.aload_n 0, 1) := by decide +kernel
theorem dX10_toldSet_12 : decode cX10_toldSet 12 = .ok (.iload_n 2, 1) := by decide +kernel
theorem dX10_toldSet_13 : decode cX10_toldSet 13 = .ok (.invokevirtual 132, 3) := by decide +kernel
theorem dX10_toldSet_16 : decode cX10_toldSet 16 = .ok (.ifCond .eq 9, 3) := by decide +kernel
theorem dX10_toldSet_19 : decode cX10_toldSet 19 = .ok (.iconst 1, 1) := by decide +kernel
theorem dX10_toldSet_20 : decode cX10_toldSet 20 = .ok (.iload_n 2, 1) := by decide +kernel
theorem dX10_toldSet_21 : decode cX10_toldSet 21 = .ok (.ishl, 1) := by decide +kernel
theorem dX10_toldSet_22 : decode cX10_toldSet 22 = .ok (.goto 4, 3) := by decide +kernel
theorem dX10_toldSet_25 : decode cX10_toldSet 25 = .ok (.iconst 0, 1) := by decide +kernel
theorem dX10_toldSet_26 : decode cX10_toldSet 26 = .ok (.ior, 1) := by decide +kernel
theorem dX10_toldSet_27 : decode cX10_toldSet 27 = .ok (.istore_n 1, 1) := by decide +kernel
theorem dX10_toldSet_28 : decode cX10_toldSet 28 = .ok (.iinc 2 1, 3) := by decide +kernel
theorem dX10_toldSet_31 : decode cX10_toldSet 31 = .ok (.goto (-27), 3) := by decide +kernel
theorem dX10_toldSet_34 : decode cX10_toldSet 34 = .ok (.iload_n 1, 1) := by decide +kernel
theorem dX10_toldSet_35 : decode cX10_toldSet 35 = .ok (.ireturn, 1) := by decide +kernel
set_option maxRecDepth 20000 in
theorem ggX10_isMeaning_X10_in : GoodIn wsX10_isMeaning wsX10_in := goodIn_r _ [5] (by decide +kernel) (by decide +kernel)
set_option maxRecDepth 20000 in
theorem gX10_isMeaning_X10_in : GoodIn wsX10_isMeaning (va_wsS RX10 49 yX10_in wsX10_in) := goodIn_app (goodIn_of _ (by decide +kernel)) ggX10_isMeaning_X10_in
theorem dX10_isMeaning_0 : decode cX10_isMeaning 0 = .ok (.iload_n 0, 1) := by decide +kernel
theorem dX10_isMeaning_1 : decode cX10_isMeaning 1 = .ok (.i2l, 1) := by decide +kernel
theorem dX10_isMeaning_2 : decode cX10_isMeaning 2 = .ok (.lconst 0, 1) := by decide +kernel
theorem dX10_isMeaning_3 : decode cX10_isMeaning 3 = .ok (.ldc2_w 135, 3) := by decide +kernel
theorem dX10_isMeaning_6 : decode cX10_isMeaning 6 = .ok (.invokestatic 49, 3) := by decide +kernel
theorem dX10_isMeaning_9 : decode cX10_isMeaning 9 = .ok (.ireturn, 1) := by decide +kernel
set_option maxRecDepth 20000 in
theorem ggX10_said_X10_has : GoodIn wsX10_said wsX10_has := goodIn_r _ [5] (by decide +kernel) (by decide +kernel)
set_option maxRecDepth 20000 in
theorem gX10_said_X10_has : GoodIn wsX10_said (va_wsS RX10 137 yX10_has wsX10_has) := goodIn_app (goodIn_of _ (by decide +kernel)) ggX10_said_X10_has
theorem dX10_said_0 : decode cX10_said 0 = .ok (.aload_n 0, 1) := by decide +kernel
theorem dX10_said_1 : decode cX10_said 1 = .ok (.getfield 16, 3) := by decide +kernel
theorem dX10_said_4 : decode cX10_said 4 = .ok (.sipush 282, 3) := by decide +kernel
theorem dX10_said_7 : decode cX10_said 7 = .ok (.iload_n 2, 1) := by decide +kernel
theorem dX10_said_8 : decode cX10_said 8 = .ok (.iadd, 1) := by decide +kernel
theorem dX10_said_9 : decode cX10_said 9 = .ok (.iaload, 1) := by decide +kernel
theorem dX10_said_10 : decode cX10_said 10 = .ok (.istore_n 3, 1) := by decide +kernel
theorem dX10_said_11 : decode cX10_said 11 = .ok (.aload_n 0, 1) := by decide +kernel
theorem dX10_said_12 : decode cX10_said 12 = .ok (.getfield 16, 3) := by decide +kernel
theorem dX10_said_15 : decode cX10_said 15 = .ok (.sipush 280, 3) := by decide +kernel
theorem dX10_said_18 : decode cX10_said 18 = .ok (.iload_n 1, 1) := by decide +kernel
theorem dX10_said_19 : decode cX10_said 19 = .ok (.iadd, 1) := by decide +kernel
theorem dX10_said_20 : decode cX10_said 20 = .ok (.iaload, 1) := by decide +kernel
theorem dX10_said_21 : decode cX10_said 21 = .ok (.iload_n 2, 1) := by decide +kernel
theorem dX10_said_22 : decode cX10_said 22 = .ok (.invokestatic 137, 3) := by decide +kernel
theorem dX10_said_25 : decode cX10_said 25 = .ok (.ifCond .eq 7, 3) := by decide +kernel
theorem dX10_said_28 : decode cX10_said 28 = .ok (.iload_n 2, 1) := by decide +kernel
theorem dX10_said_29 : decode cX10_said 29 = .ok (.goto 29, 3) := by decide +kernel
theorem dX10_said_32 : decode cX10_said 32 = .ok (.iload_n 3, 1) := by decide +kernel
theorem dX10_said_33 : decode cX10_said 33 = .ok (.ifCond .lt 24, 3) := by decide +kernel
theorem dX10_said_36 : decode cX10_said 36 = .ok (.aload_n 0, 1) := by decide +kernel
theorem dX10_said_37 : decode cX10_said 37 = .ok (.getfield 16, 3) := by decide +kernel
theorem dX10_said_40 : decode cX10_said 40 = .ok (.sipush 280, 3) := by decide +kernel
theorem dX10_said_43 : decode cX10_said 43 = .ok (.iload_n 1, 1) := by decide +kernel
theorem dX10_said_44 : decode cX10_said 44 = .ok (.iadd, 1) := by decide +kernel
theorem dX10_said_45 : decode cX10_said 45 = .ok (.iaload, 1) := by decide +kernel
theorem dX10_said_46 : decode cX10_said 46 = .ok (.iload_n 3, 1) := by decide +kernel
theorem dX10_said_47 : decode cX10_said 47 = .ok (.invokestatic 137, 3) := by decide +kernel
theorem dX10_said_50 : decode cX10_said 50 = .ok (.ifCond .eq 7, 3) := by decide +kernel
theorem dX10_said_53 : decode cX10_said 53 = .ok (.iload_n 3, 1) := by decide +kernel
theorem dX10_said_54 : decode cX10_said 54 = .ok (.goto 4, 3) := by decide +kernel
theorem dX10_said_57 : decode cX10_said 57 = .ok (.iconst (-1), 1) := by decide +kernel
theorem dX10_said_58 : decode cX10_said 58 = .ok (.ireturn, 1) := by decide +kernel
set_option maxRecDepth 20000 in
theorem ggX10_say_X10_said : GoodIn wsX10_say wsX10_said := goodIn_r _ [6, 1, 7, 8, 5, 9, 10, 11, 12, 13, 14, 15, 16, 17, 18, 19, 20, 21, 22] (by decide +kernel) (by decide +kernel)
set_option maxRecDepth 20000 in
theorem gX10_say_X10_said : GoodIn wsX10_say (wsV RX10 140 RX10 yX10_said wsX10_said) := goodIn_app (goodIn_of _ (by decide +kernel)) ggX10_say_X10_said
theorem dX10_say_0 : decode cX10_say 0 = .ok (.iconst 0, 1) := by decide +kernel
theorem dX10_say_1 : decode cX10_say 1 = .ok (.istore 4, 2) := by decide +kernel
theorem dX10_say_3 : decode cX10_say 3 = .ok (.iconst 0, 1) := by decide +kernel
theorem dX10_say_4 : decode cX10_say 4 = .ok (.istore 5, 2) := by decide +kernel
theorem dX10_say_6 : decode cX10_say 6 = .ok (.iload 5, 2) := by decide +kernel
theorem dX10_say_8 : decode cX10_say 8 = .ok (.aload_n 0, 1) := by decide +kernel
theorem dX10_say_9 : decode cX10_say 9 = .ok (.getfield 16, 3) := by decide +kernel
theorem dX10_say_12 : decode cX10_say 12 = .ok (.iload_n 1, 1) := by decide +kernel
theorem dX10_say_13 : decode cX10_say 13 = .ok (.iaload, 1) := by decide +kernel
theorem dX10_say_14 : decode cX10_say 14 = .ok (.if_icmp .ge 56, 3) := by decide +kernel
theorem dX10_say_17 : decode cX10_say 17 = .ok (.aload_n 0, 1) := by decide +kernel
theorem dX10_say_18 : decode cX10_say 18 = .ok (.getfield 16, 3) := by decide +kernel
theorem dX10_say_21 : decode cX10_say 21 = .ok (.iload_n 1, 1) := by decide +kernel
theorem dX10_say_22 : decode cX10_say 22 = .ok (.iconst 1, 1) := by decide +kernel
theorem dX10_say_23 : decode cX10_say 23 = .ok (.iadd, 1) := by decide +kernel
theorem dX10_say_24 : decode cX10_say 24 = .ok (.iload 5, 2) := by decide +kernel
theorem dX10_say_26 : decode cX10_say 26 = .ok (.iadd, 1) := by decide +kernel
theorem dX10_say_27 : decode cX10_say 27 = .ok (.iaload, 1) := by decide +kernel
theorem dX10_say_28 : decode cX10_say 28 = .ok (.istore 6, 2) := by decide +kernel
theorem dX10_say_30 : decode cX10_say 30 = .ok (.iload_n 2, 1) := by decide +kernel
theorem dX10_say_31 : decode cX10_say 31 = .ok (.ifCond .ge 8, 3) := by decide +kernel
theorem dX10_say_34 : decode cX10_say 34 = .ok (.iload 6, 2) := by decide +kernel
theorem dX10_say_36 : decode cX10_say 36 = .ok (.goto 10, 3) := by decide +kernel
theorem dX10_say_39 : decode cX10_say 39 = .ok (.aload_n 0, 1) := by decide +kernel
theorem dX10_say_40 : decode cX10_say 40 = .ok (.iload_n 2, 1) := by decide +kernel
theorem dX10_say_41 : decode cX10_say 41 = .ok (.iload 6, 2) := by decide +kernel
theorem dX10_say_43 : decode cX10_say 43 = .ok (.invokevirtual 140, 3) := by decide +kernel
theorem dX10_say_46 : decode cX10_say 46 = .ok (.istore 7, 2) := by decide +kernel
theorem dX10_say_48 : decode cX10_say 48 = .ok (.iload 7, 2) := by decide +kernel
theorem dX10_say_50 : decode cX10_say 50 = .ok (.ifCond .lt 14, 3) := by decide +kernel
theorem dX10_say_53 : decode cX10_say 53 = .ok (.aload_n 3, 1) := by decide +kernel
theorem dX10_say_54 : decode cX10_say 54 = .ok (.iconst 1, 1) := by decide +kernel
theorem dX10_say_55 : decode cX10_say 55 = .ok (.iload 4, 2) := by decide +kernel
theorem dX10_say_57 : decode cX10_say 57 = .ok (.iadd, 1) := by decide +kernel
theorem dX10_say_58 : decode cX10_say 58 = .ok (.iload 7, 2) := by decide +kernel
theorem dX10_say_60 : decode cX10_say 60 = .ok (.iastore, 1) := by decide +kernel
theorem dX10_say_61 : decode cX10_say 61 = .ok (.iinc 4 1, 3) := by decide +kernel
theorem dX10_say_64 : decode cX10_say 64 = .ok (.iinc 5 1, 3) := by decide +kernel
theorem dX10_say_67 : decode cX10_say 67 = .ok (.goto (-61), 3) := by decide +kernel
theorem dX10_say_70 : decode cX10_say 70 = .ok (.aload_n 3, 1) := by decide +kernel
theorem dX10_say_71 : decode cX10_say 71 = .ok (.iconst 0, 1) := by decide +kernel
theorem dX10_say_72 : decode cX10_say 72 = .ok (.iload 4, 2) := by decide +kernel
theorem dX10_say_74 : decode cX10_say 74 = .ok (.iastore, 1) := by decide +kernel
theorem dX10_say_75 : decode cX10_say 75 = .ok (.return_, 1) := by decide +kernel
theorem dX10_least_0 : decode cX10_least 0 = .ok (.iload_n 0, 1) := by decide +kernel
theorem dX10_least_1 : decode cX10_least 1 = .ok (.iload_n 1, 1) := by decide +kernel
theorem dX10_least_2 : decode cX10_least 2 = .ok (.if_icmp .ge 7, 3) := by decide +kernel
theorem dX10_least_5 : decode cX10_least 5 = .ok (.iload_n 0, 1) := by decide +kernel
theorem dX10_least_6 : decode cX10_least 6 = .ok (.goto 4, 3) := by decide +kernel
theorem dX10_least_9 : decode cX10_least 9 = .ok (.iload_n 1, 1) := by decide +kernel
theorem dX10_least_10 : decode cX10_least 10 = .ok (.ireturn, 1) := by decide +kernel
set_option maxRecDepth 20000 in
theorem ggX10_farOf_X10_least : GoodIn wsX10_farOf wsX10_least := goodIn_r _ [7] (by decide +kernel) (by decide +kernel)
set_option maxRecDepth 20000 in
theorem gX10_farOf_X10_least : GoodIn wsX10_farOf (va_wsS RX10 143 yX10_least wsX10_least) := goodIn_app (goodIn_of _ (by decide +kernel)) ggX10_farOf_X10_least
theorem dX10_farOf_0 : decode cX10_farOf 0 = .ok (.iconst 0, 1) := by decide +kernel
theorem dX10_farOf_1 : decode cX10_farOf 1 = .ok (.istore_n 1, 1) := by decide +kernel
theorem dX10_farOf_2 : decode cX10_farOf 2 = .ok (.iload_n 1, 1) := by decide +kernel
theorem dX10_farOf_3 : decode cX10_farOf 3 = .ok (.aload_n 0, 1) := by decide +kernel
theorem dX10_farOf_4 : decode cX10_farOf 4 = .ok (.getfield 25, 3) := by decide +kernel
theorem dX10_farOf_7 : decode cX10_farOf 7 = .ok (.iconst 0, 1) := by decide +kernel
theorem dX10_farOf_8 : decode cX10_farOf 8 = .ok (.iaload, 1) := by decide +kernel
theorem dX10_farOf_9 : decode cX10_farOf 9 = .ok (.if_icmp .gt 141, 3) := by decide +kernel
theorem dX10_farOf_12 : decode cX10_farOf 12 = .ok (.iconst 0, 1) := by decide +kernel
theorem dX10_farOf_13 : decode cX10_farOf 13 = .ok (.istore_n 2, 1) := by decide +kernel
theorem dX10_farOf_14 : decode cX10_farOf 14 = .ok (.iload_n 2, 1) := by decide +kernel
theorem dX10_farOf_15 : decode cX10_farOf 15 = .ok (.aload_n 0, 1) := by decide +kernel
theorem dX10_farOf_16 : decode cX10_farOf 16 = .ok (.getfield 28, 3) := by decide +kernel
theorem dX10_farOf_19 : decode cX10_farOf 19 = .ok (.iconst 0, 1) := by decide +kernel
theorem dX10_farOf_20 : decode cX10_farOf 20 = .ok (.iaload, 1) := by decide +kernel
theorem dX10_farOf_21 : decode cX10_farOf 21 = .ok (.if_icmp .gt 123, 3) := by decide +kernel
theorem dX10_farOf_24 : decode cX10_farOf 24 = .ok (.iload_n 1, 1) := by decide +kernel
theorem dX10_farOf_25 : decode cX10_farOf 25 = .ok (.ifCond .ne 7, 3) := by decide +kernel
theorem dX10_farOf_28 : decode cX10_farOf 28 = .ok (.iload_n 2, 1) := by decide +kernel
theorem dX10_farOf_29 : decode cX10_farOf 29 = .ok (.goto 13, 3) := by decide +kernel
theorem dX10_farOf_32 : decode cX10_farOf 32 = .ok (.iload_n 2, 1) := by decide +kernel
theorem dX10_farOf_33 : decode cX10_farOf 33 = .ok (.ifCond .ne 7, 3) := by decide +kernel
theorem dX10_farOf_36 : decode cX10_farOf 36 = .ok (.iload_n 1, 1) := by decide +kernel
theorem dX10_farOf_37 : decode cX10_farOf 37 = .ok (.goto 5, 3) := by decide +kernel
theorem dX10_farOf_40 : decode cX10_farOf 40 = .ok (.bipush 99, 2) := by decide +kernel
theorem dX10_farOf_42 : decode cX10_farOf 42 = .ok (.istore_n 3, 1) := by decide +kernel
theorem dX10_farOf_43 : decode cX10_farOf 43 = .ok (.iload_n 1, 1) := by decide +kernel
theorem dX10_farOf_44 : decode cX10_farOf 44 = .ok (.ifCond .le 82, 3) := by decide +kernel
theorem dX10_farOf_47 : decode cX10_farOf 47 = .ok (.iload_n 2, 1) := by decide +kernel
theorem dX10_farOf_48 : decode cX10_farOf 48 = .ok (.ifCond .le 78, 3) := by decide +kernel
theorem dX10_farOf_51 : decode cX10_farOf 51 = .ok (.aload_n 0, 1) := by decide +kernel
theorem dX10_farOf_52 : decode cX10_farOf 52 = .ok (.getfield 31, 3) := by decide +kernel
theorem dX10_farOf_55 : decode cX10_farOf 55 = .ok (.bipush 7, 2) := by decide +kernel
theorem dX10_farOf_57 : decode cX10_farOf 57 = .ok (.iload_n 1, 1) := by decide +kernel
theorem dX10_farOf_58 : decode cX10_farOf 58 = .ok (.iconst 1, 1) := by decide +kernel
theorem dX10_farOf_59 : decode cX10_farOf 59 = .ok (.isub, 1) := by decide +kernel
theorem dX10_farOf_60 : decode cX10_farOf 60 = .ok (.imul, 1) := by decide +kernel
theorem dX10_farOf_61 : decode cX10_farOf 61 = .ok (.iload_n 2, 1) := by decide +kernel
theorem dX10_farOf_62 : decode cX10_farOf 62 = .ok (.iadd, 1) := by decide +kernel
theorem dX10_farOf_63 : decode cX10_farOf 63 = .ok (.iconst 1, 1) := by decide +kernel
theorem dX10_farOf_64 : decode cX10_farOf 64 = .ok (.isub, 1) := by decide +kernel
theorem dX10_farOf_65 : decode cX10_farOf 65 = .ok (.iaload, 1) := by decide +kernel
theorem dX10_farOf_66 : decode cX10_farOf 66 = .ok (.aload_n 0, 1) := by decide +kernel
theorem dX10_farOf_67 : decode cX10_farOf 67 = .ok (.getfield 25, 3) := by decide +kernel
theorem dX10_farOf_70 : decode cX10_farOf 70 = .ok (.iload_n 1, 1) := by decide +kernel
theorem dX10_farOf_71 : decode cX10_farOf 71 = .ok (.iaload, 1) := by decide +kernel
theorem dX10_farOf_72 : decode cX10_farOf 72 = .ok (.aload_n 0, 1) := by decide +kernel
theorem dX10_farOf_73 : decode cX10_farOf 73 = .ok (.getfield 28, 3) := by decide +kernel
theorem dX10_farOf_76 : decode cX10_farOf 76 = .ok (.iload_n 2, 1) := by decide +kernel
theorem dX10_farOf_77 : decode cX10_farOf 77 = .ok (.iaload, 1) := by decide +kernel
theorem dX10_farOf_78 : decode cX10_farOf 78 = .ok (.if_icmp .ne 7, 3) := by decide +kernel
theorem dX10_farOf_81 : decode cX10_farOf 81 = .ok (.iconst 0, 1) := by decide +kernel
theorem dX10_farOf_82 : decode cX10_farOf 82 = .ok (.goto 4, 3) := by decide +kernel
theorem dX10_farOf_85 : decode cX10_farOf 85 = .ok (.iconst 1, 1) := by decide +kernel
theorem dX10_farOf_86 : decode cX10_farOf 86 = .ok (.iadd, 1) := by decide +kernel
theorem dX10_farOf_87 : decode cX10_farOf 87 = .ok (.istore 4, 2) := by decide +kernel
theorem dX10_farOf_89 : decode cX10_farOf 89 = .ok (.iload 4, 2) := by decide +kernel
theorem dX10_farOf_91 : decode cX10_farOf 91 = .ok (.iconst 1, 1) := by decide +kernel
theorem dX10_farOf_92 : decode cX10_farOf 92 = .ok (.aload_n 0, 1) := by decide +kernel
theorem dX10_farOf_93 : decode cX10_farOf 93 = .ok (.getfield 31, 3) := by decide +kernel
theorem dX10_farOf_96 : decode cX10_farOf 96 = .ok (.bipush 7, 2) := by decide +kernel
theorem dX10_farOf_98 : decode cX10_farOf 98 = .ok (.iload_n 1, 1) := by decide +kernel
theorem dX10_farOf_99 : decode cX10_farOf 99 = .ok (.iconst 1, 1) := by decide +kernel
theorem dX10_farOf_100 : decode cX10_farOf 100 = .ok (.isub, 1) := by decide +kernel
theorem dX10_farOf_101 : decode cX10_farOf 101 = .ok (.imul, 1) := by decide +kernel
theorem dX10_farOf_102 : decode cX10_farOf 102 = .ok (.iload_n 2, 1) := by decide +kernel
theorem dX10_farOf_103 : decode cX10_farOf 103 = .ok (.iadd, 1) := by decide +kernel
theorem dX10_farOf_104 : decode cX10_farOf 104 = .ok (.iaload, 1) := by decide +kernel
theorem dX10_farOf_105 : decode cX10_farOf 105 = .ok (.aload_n 0, 1) := by decide +kernel
theorem dX10_farOf_106 : decode cX10_farOf 106 = .ok (.getfield 31, 3) := by decide +kernel
theorem dX10_farOf_109 : decode cX10_farOf 109 = .ok (.bipush 7, 2) := by decide +kernel
theorem dX10_farOf_111 : decode cX10_farOf 111 = .ok (.iload_n 1, 1) := by decide +kernel
theorem dX10_farOf_112 : decode cX10_farOf 112 = .ok (.imul, 1) := by decide +kernel
theorem dX10_farOf_113 : decode cX10_farOf 113 = .ok (.iload_n 2, 1) := by decide +kernel
theorem dX10_farOf_114 : decode cX10_farOf 114 = .ok (.iadd, 1) := by decide +kernel
theorem dX10_farOf_115 : decode cX10_farOf 115 = .ok (.iconst 1, 1) := by decide +kernel
theorem dX10_farOf_116 : decode cX10_farOf 116 = .ok (.isub, 1) := by decide +kernel
theorem dX10_farOf_117 : decode cX10_farOf 117 = .ok (.iaload, 1) := by decide +kernel
theorem dX10_farOf_118 : decode cX10_farOf 118 = .ok (.invokestatic 143, 3) := by decide +kernel
theorem dX10_farOf_121 : decode cX10_farOf 121 = .ok (.iadd, 1) := by decide +kernel
theorem dX10_farOf_122 : decode cX10_farOf 122 = .ok (.invokestatic 143, 3) := by decide +kernel
theorem dX10_farOf_125 : decode cX10_farOf 125 = .ok (.istore_n 3, 1) := by decide +kernel
theorem dX10_farOf_126 : decode cX10_farOf 126 = .ok (.aload_n 0, 1) := by decide +kernel
theorem dX10_farOf_127 : decode cX10_farOf 127 = .ok (.getfield 31, 3) := by decide +kernel
theorem dX10_farOf_130 : decode cX10_farOf 130 = .ok (.bipush 7, 2) := by decide +kernel
theorem dX10_farOf_132 : decode cX10_farOf 132 = .ok (.iload_n 1, 1) := by decide +kernel
theorem dX10_farOf_133 : decode cX10_farOf 133 = .ok (.imul, 1) := by decide +kernel
theorem dX10_farOf_134 : decode cX10_farOf 134 = .ok (.iload_n 2, 1) := by decide +kernel
theorem dX10_farOf_135 : decode cX10_farOf 135 = .ok (.iadd, 1) := by decide +kernel
theorem dX10_farOf_136 : decode cX10_farOf 136 = .ok (.iload_n 3, 1) := by decide +kernel
theorem dX10_farOf_137 : decode cX10_farOf 137 = .ok (.iastore, 1) := by decide +kernel
theorem dX10_farOf_138 : decode cX10_farOf 138 = .ok (.iinc 2 1, 3) := by decide +kernel
theorem dX10_farOf_141 : decode cX10_farOf 141 = .ok (.goto (-127), 3) := by decide +kernel
theorem dX10_farOf_144 : decode cX10_farOf 144 = .ok (.iinc 1 1, 3) := by decide +kernel
theorem dX10_farOf_147 : decode cX10_farOf 147 = .ok (.goto (-145), 3) := by decide +kernel
theorem dX10_farOf_150 : decode cX10_farOf 150 = .ok (.aload_n 0, 1) := by decide +kernel
theorem dX10_farOf_151 : decode cX10_farOf 151 = .ok (.getfield 31, 3) := by decide +kernel
theorem dX10_farOf_154 : decode cX10_farOf 154 = .ok (.bipush 7, 2) := by decide +kernel
theorem dX10_farOf_156 : decode cX10_farOf 156 = .ok (.aload_n 0, 1) := by decide +kernel
theorem dX10_farOf_157 : decode cX10_farOf 157 = .ok (.getfield 25, 3) := by decide +kernel
theorem dX10_farOf_160 : decode cX10_farOf 160 = .ok (.iconst 0, 1) := by decide +kernel
theorem dX10_farOf_161 : decode cX10_farOf 161 = .ok (.iaload, 1) := by decide +kernel
theorem dX10_farOf_162 : decode cX10_farOf 162 = .ok (.imul, 1) := by decide +kernel
theorem dX10_farOf_163 : decode cX10_farOf 163 = .ok (.aload_n 0, 1) := by decide +kernel
theorem dX10_farOf_164 : decode cX10_farOf 164 = .ok (.getfield 28, 3) := by decide +kernel
theorem dX10_farOf_167 : decode cX10_farOf 167 = .ok (.iconst 0, 1) := by decide +kernel
theorem dX10_farOf_168 : decode cX10_farOf 168 = .ok (.iaload, 1) := by decide +kernel
theorem dX10_farOf_169 : decode cX10_farOf 169 = .ok (.iadd, 1) := by decide +kernel
theorem dX10_farOf_170 : decode cX10_farOf 170 = .ok (.iaload, 1) := by decide +kernel
theorem dX10_farOf_171 : decode cX10_farOf 171 = .ok (.ireturn, 1) := by decide +kernel
set_option maxRecDepth 20000 in
theorem ggX10_likeOf_X10_farOf : GoodIn wsX10_likeOf wsX10_farOf := goodIn_r _ [7, 1, 2, 8, 9, 10, 6, 11, 12, 13, 14, 15, 16, 17, 18, 19, 20, 21, 22, 23, 24] (by decide +kernel) (by decide +kernel)
set_option maxRecDepth 20000 in
theorem gX10_likeOf_X10_farOf : GoodIn wsX10_likeOf (wsV RX10 146 RX10 yX10_farOf wsX10_farOf) := goodIn_app (goodIn_of _ (by decide +kernel)) ggX10_likeOf_X10_farOf
theorem dX10_likeOf_0 : decode cX10_likeOf 0 = .ok (.aload_n 0, 1) := by decide +kernel
theorem dX10_likeOf_1 : decode cX10_likeOf 1 = .ok (.getfield 25, 3) := by decide +kernel
theorem dX10_likeOf_4 : decode cX10_likeOf 4 = .ok (.iconst 0, 1) := by decide +kernel
theorem dX10_likeOf_5 : decode cX10_likeOf 5 = .ok (.iaload, 1) := by decide +kernel
theorem dX10_likeOf_6 : decode cX10_likeOf 6 = .ok (.aload_n 0, 1) := by decide +kernel
theorem dX10_likeOf_7 : decode cX10_likeOf 7 = .ok (.getfield 28, 3) := by decide +kernel
theorem dX10_likeOf_10 : decode cX10_likeOf 10 = .ok (.iconst 0, 1) := by decide +kernel
theorem dX10_likeOf_11 : decode cX10_likeOf 11 = .ok (.iaload, 1) := by decide +kernel
theorem dX10_likeOf_12 : decode cX10_likeOf 12 = .ok (.if_icmp .le 12, 3) := by decide +kernel
theorem dX10_likeOf_15 : decode cX10_likeOf 15 = .ok (.aload_n 0, 1) := by decide +kernel
theorem dX10_likeOf_16 : decode cX10_likeOf 16 = .ok (.getfield 25, 3) := by decide +kernel
theorem dX10_likeOf_19 : decode cX10_likeOf 19 = .ok (.iconst 0, 1) := by decide +kernel
theorem dX10_likeOf_20 : decode cX10_likeOf 20 = .ok (.iaload, 1) := by decide +kernel
theorem dX10_likeOf_21 : decode cX10_likeOf 21 = .ok (.goto 9, 3) := by decide +kernel
theorem dX10_likeOf_24 : decode cX10_likeOf 24 = .ok (.aload_n 0, 1) := by decide +kernel
theorem dX10_likeOf_25 : decode cX10_likeOf 25 = .ok (.getfield 28, 3) := by decide +kernel
theorem dX10_likeOf_28 : decode cX10_likeOf 28 = .ok (.iconst 0, 1) := by decide +kernel
theorem dX10_likeOf_29 : decode cX10_likeOf 29 = .ok (.iaload, 1) := by decide +kernel
theorem dX10_likeOf_30 : decode cX10_likeOf 30 = .ok (.istore_n 1, 1) := by decide +kernel
theorem dX10_likeOf_31 : decode cX10_likeOf 31 = .ok (.iload_n 1, 1) := by decide +kernel
theorem dX10_likeOf_32 : decode cX10_likeOf 32 = .ok (.ifCond .ne 8, 3) := by decide +kernel
theorem dX10_likeOf_35 : decode cX10_likeOf 35 = .ok (.bipush 100, 2) := by decide +kernel
theorem dX10_likeOf_37 : decode cX10_likeOf 37 = .ok (.goto 15, 3) := by decide +kernel
theorem dX10_likeOf_40 : decode cX10_likeOf 40 = .ok (.bipush 100, 2) := by decide +kernel
theorem dX10_likeOf_42 : decode cX10_likeOf 42 = .ok (.bipush 100, 2) := by decide +kernel
theorem dX10_likeOf_44 : decode cX10_likeOf 44 = .ok (.aload_n 0, 1) := by decide +kernel
theorem dX10_likeOf_45 : decode cX10_likeOf 45 = .ok (.invokevirtual 146, 3) := by decide +kernel
theorem dX10_likeOf_48 : decode cX10_likeOf 48 = .ok (.imul, 1) := by decide +kernel
theorem dX10_likeOf_49 : decode cX10_likeOf 49 = .ok (.iload_n 1, 1) := by decide +kernel
theorem dX10_likeOf_50 : decode cX10_likeOf 50 = .ok (.idiv, 1) := by decide +kernel
theorem dX10_likeOf_51 : decode cX10_likeOf 51 = .ok (.isub, 1) := by decide +kernel
theorem dX10_likeOf_52 : decode cX10_likeOf 52 = .ok (.ireturn, 1) := by decide +kernel
set_option maxRecDepth 20000 in
theorem ggX10_likeFor_X10_wordAt : GoodIn wsX10_likeFor wsX10_wordAt := goodIn_r _ [6] (by decide +kernel) (by decide +kernel)
set_option maxRecDepth 20000 in
theorem gX10_likeFor_X10_wordAt : GoodIn wsX10_likeFor (va_wsS RX10 129 yX10_wordAt wsX10_wordAt) := goodIn_app (goodIn_of _ (by decide +kernel)) ggX10_likeFor_X10_wordAt
set_option maxRecDepth 20000 in
theorem ggX10_likeFor_X10_say : GoodIn wsX10_likeFor wsX10_say := goodIn_r _ [10, 11, 12, 13, 14, 5, 15, 16, 17, 18, 31, 32, 33, 34, 35, 36, 37, 38, 39, 40, 41, 42, 43] (by decide +kernel) (by decide +kernel)
set_option maxRecDepth 20000 in
theorem gX10_likeFor_X10_say : GoodIn wsX10_likeFor (wsV RX10 149 RX10 yX10_say wsX10_say) := goodIn_app (goodIn_of _ (by decide +kernel)) ggX10_likeFor_X10_say
set_option maxRecDepth 20000 in
theorem ggX10_likeFor_X10_likeOf : GoodIn wsX10_likeFor wsX10_likeOf := goodIn_r _ [22, 1, 2, 23, 24, 25, 5, 26, 27, 28, 29, 30, 31, 32, 33, 34, 35, 36, 37, 38, 39, 40, 41, 42, 43] (by decide +kernel) (by decide +kernel)
set_option maxRecDepth 20000 in
theorem gX10_likeFor_X10_likeOf : GoodIn wsX10_likeFor (wsV RX10 153 RX10 yX10_likeOf wsX10_likeOf) := goodIn_app (goodIn_of _ (by decide +kernel)) ggX10_likeFor_X10_likeOf
theorem dX10_likeFor_0 : decode cX10_likeFor 0 = .ok (.aload_n 0, 1) := by decide +kernel
theorem dX10_likeFor_1 : decode cX10_likeFor 1 = .ok (.iconst 0, 1) := by decide +kernel
theorem dX10_likeFor_2 : decode cX10_likeFor 2 = .ok (.iload_n 1, 1) := by decide +kernel
theorem dX10_likeFor_3 : decode cX10_likeFor 3 = .ok (.invokestatic 129, 3) := by decide +kernel
theorem dX10_likeFor_6 : decode cX10_likeFor 6 = .ok (.iconst 1, 1) := by decide +kernel
theorem dX10_likeFor_7 : decode cX10_likeFor 7 = .ok (.aload_n 0, 1) := by decide +kernel
theorem dX10_likeFor_8 : decode cX10_likeFor 8 = .ok (.getfield 25, 3) := by decide +kernel
theorem dX10_likeFor_11 : decode cX10_likeFor 11 = .ok (.invokevirtual 149, 3) := by decide +kernel
theorem dX10_likeFor_14 : decode cX10_likeFor 14 = .ok (.aload_n 0, 1) := by decide +kernel
theorem dX10_likeFor_15 : decode cX10_likeFor 15 = .ok (.iconst 1, 1) := by decide +kernel
theorem dX10_likeFor_16 : decode cX10_likeFor 16 = .ok (.iload_n 1, 1) := by decide +kernel
theorem dX10_likeFor_17 : decode cX10_likeFor 17 = .ok (.invokestatic 129, 3) := by decide +kernel
theorem dX10_likeFor_20 : decode cX10_likeFor 20 = .ok (.iconst (-1), 1) := by decide +kernel
theorem dX10_likeFor_21 : decode cX10_likeFor 21 = .ok (.aload_n 0, 1) := by decide +kernel
theorem dX10_likeFor_22 : decode cX10_likeFor 22 = .ok (.getfield 28, 3) := by decide +kernel
theorem dX10_likeFor_25 : decode cX10_likeFor 25 = .ok (.invokevirtual 149, 3) := by decide +kernel
theorem dX10_likeFor_28 : decode cX10_likeFor 28 = .ok (.aload_n 0, 1) := by decide +kernel
theorem dX10_likeFor_29 : decode cX10_likeFor 29 = .ok (.invokevirtual 153, 3) := by decide +kernel
theorem dX10_likeFor_32 : decode cX10_likeFor 32 = .ok (.ireturn, 1) := by decide +kernel
set_option maxRecDepth 20000 in
theorem ggX10_isAlike_X10_likeFor : GoodIn wsX10_isAlike wsX10_likeFor := goodIn_r _ [6, 7, 8, 9, 10, 5, 11, 12, 13, 14, 15, 1, 16, 17, 18, 19, 20, 21, 22, 23, 24, 25, 26, 27, 28, 29, 30, 31, 32, 33, 34, 35, 36, 37, 38, 39, 40, 41, 42, 43, 44, 45, 46, 47] (by decide +kernel) (by decide +kernel)
set_option maxRecDepth 20000 in
theorem gX10_isAlike_X10_likeFor : GoodIn wsX10_isAlike (wsV RX10 156 RX10 yX10_likeFor wsX10_likeFor) := goodIn_app (goodIn_of _ (by decide +kernel)) ggX10_isAlike_X10_likeFor
theorem dX10_isAlike_0 : decode cX10_isAlike 0 = .ok (.aload_n 0, 1) := by decide +kernel
theorem dX10_isAlike_1 : decode cX10_isAlike 1 = .ok (.iload_n 1, 1) := by decide +kernel
theorem dX10_isAlike_2 : decode cX10_isAlike 2 = .ok (.invokevirtual 156, 3) := by decide +kernel
theorem dX10_isAlike_5 : decode cX10_isAlike 5 = .ok (.aload_n 0, 1) := by decide +kernel
theorem dX10_isAlike_6 : decode cX10_isAlike 6 = .ok (.getfield 16, 3) := by decide +kernel
theorem dX10_isAlike_9 : decode cX10_isAlike 9 = .ok (.sipush 303, 3) := by decide +kernel
theorem dX10_isAlike_12 : decode cX10_isAlike 12 = .ok (.iaload, 1) := by decide +kernel
theorem dX10_isAlike_13 : decode cX10_isAlike 13 = .ok (.if_icmp .lt 7, 3) := by decide +kernel
theorem dX10_isAlike_16 : decode cX10_isAlike 16 = .ok (.iconst 1, 1) := by decide +kernel
theorem dX10_isAlike_17 : decode cX10_isAlike 17 = .ok (.goto 4, 3) := by decide +kernel
theorem dX10_isAlike_20 : decode cX10_isAlike 20 = .ok (.iconst 0, 1) := by decide +kernel
theorem dX10_isAlike_21 : decode cX10_isAlike 21 = .ok (.ireturn, 1) := by decide +kernel
set_option maxRecDepth 20000 in
theorem ggX10_word__X10_in : GoodIn wsX10_word_ wsX10_in := goodIn_r _ [7] (by decide +kernel) (by decide +kernel)
set_option maxRecDepth 20000 in
theorem gX10_word__X10_in : GoodIn wsX10_word_ (va_wsS RX10 49 yX10_in wsX10_in) := goodIn_app (goodIn_of _ (by decide +kernel)) ggX10_word__X10_in
set_option maxRecDepth 20000 in
theorem ggX10_word__X10_isMeaning : GoodIn wsX10_word_ wsX10_isMeaning := goodIn_r _ [10, 11, 4, 5, 6, 7] (by decide +kernel) (by decide +kernel)
set_option maxRecDepth 20000 in
theorem gX10_word__X10_isMeaning : GoodIn wsX10_word_ (va_wsS RX10 159 yX10_isMeaning wsX10_isMeaning) := goodIn_app (goodIn_of _ (by decide +kernel)) ggX10_word__X10_isMeaning
set_option maxRecDepth 20000 in
theorem ggX10_word__X10_wordAt : GoodIn wsX10_word_ wsX10_wordAt := goodIn_r _ [14] (by decide +kernel) (by decide +kernel)
set_option maxRecDepth 20000 in
theorem gX10_word__X10_wordAt : GoodIn wsX10_word_ (va_wsS RX10 129 yX10_wordAt wsX10_wordAt) := goodIn_app (goodIn_of _ (by decide +kernel)) ggX10_word__X10_wordAt
set_option maxRecDepth 20000 in
theorem ggX10_word__X10_say : GoodIn wsX10_word_ wsX10_say := goodIn_r _ [18, 19, 20, 21, 22, 6, 23, 24, 25, 26, 27, 28, 29, 30, 31, 32, 33, 34, 35, 36, 37, 38, 39] (by decide +kernel) (by decide +kernel)
set_option maxRecDepth 20000 in
theorem gX10_word__X10_say : GoodIn wsX10_word_ (wsV RX10 149 RX10 yX10_say wsX10_say) := goodIn_app (goodIn_of _ (by decide +kernel)) ggX10_word__X10_say
theorem dX10_word__0 : decode cX10_word_ 0 = .ok (.iload_n 1, 1) := by decide +kernel
theorem dX10_word__1 : decode cX10_word_ 1 = .ok (.i2l, 1) := by decide +kernel
theorem dX10_word__2 : decode cX10_word_ 2 = .ok (.lconst 0, 1) := by decide +kernel
theorem dX10_word__3 : decode cX10_word_ 3 = .ok (.lconst 1, 1) := by decide +kernel
theorem dX10_word__4 : decode cX10_word_ 4 = .ok (.invokestatic 49, 3) := by decide +kernel
theorem dX10_word__7 : decode cX10_word_ 7 = .ok (.ifCond .eq 35, 3) := by decide +kernel
theorem dX10_word__10 : decode cX10_word_ 10 = .ok (.iload_n 2, 1) := by decide +kernel
theorem dX10_word__11 : decode cX10_word_ 11 = .ok (.invokestatic 159, 3) := by decide +kernel
theorem dX10_word__14 : decode cX10_word_ 14 = .ok (.ifCond .eq 28, 3) := by decide +kernel
theorem dX10_word__17 : decode cX10_word_ 17 = .ok (.iload_n 3, 1) := by decide +kernel
theorem dX10_word__18 : decode cX10_word_ 18 = .ok (.i2l, 1) := by decide +kernel
theorem dX10_word__19 : decode cX10_word_ 19 = .ok (.lconst 0, 1) := by decide +kernel
theorem dX10_word__20 : decode cX10_word_ 20 = .ok (.lconst 1, 1) := by decide +kernel
theorem dX10_word__21 : decode cX10_word_ 21 = .ok (.invokestatic 49, 3) := by decide +kernel
theorem dX10_word__24 : decode cX10_word_ 24 = .ok (.ifCond .eq 18, 3) := by decide +kernel
theorem dX10_word__27 : decode cX10_word_ 27 = .ok (.iload 4, 2) := by decide +kernel
theorem dX10_word__29 : decode cX10_word_ 29 = .ok (.i2l, 1) := by decide +kernel
theorem dX10_word__30 : decode cX10_word_ 30 = .ok (.ldc2_w 162, 3) := by decide +kernel
theorem dX10_word__33 : decode cX10_word_ 33 = .ok (.ldc2_w 164, 3) := by decide +kernel
theorem dX10_word__36 : decode cX10_word_ 36 = .ok (.invokestatic 49, 3) := by decide +kernel
theorem dX10_word__39 : decode cX10_word_ 39 = .ok (.ifCond .ne 5, 3) := by decide +kernel
theorem dX10_word__42 : decode cX10_word_ 42 = .ok (.iconst (-1), 1) := by decide +kernel
theorem dX10_word__43 : decode cX10_word_ 43 = .ok (.ireturn, 1) := by decide +kernel
theorem dX10_word__44 : decode cX10_word_ 44 = .ok (.aload_n 0, 1) := by decide +kernel
theorem dX10_word__45 : decode cX10_word_ 45 = .ok (.iload_n 1, 1) := by decide +kernel
theorem dX10_word__46 : decode cX10_word_ 46 = .ok (.iload_n 2, 1) := by decide +kernel
theorem dX10_word__47 : decode cX10_word_ 47 = .ok (.invokestatic 129, 3) := by decide +kernel
theorem dX10_word__50 : decode cX10_word_ 50 = .ok (.iload_n 3, 1) := by decide +kernel
theorem dX10_word__51 : decode cX10_word_ 51 = .ok (.iload_n 1, 1) := by decide +kernel
theorem dX10_word__52 : decode cX10_word_ 52 = .ok (.if_icmp .ne 7, 3) := by decide +kernel
theorem dX10_word__55 : decode cX10_word_ 55 = .ok (.iconst (-1), 1) := by decide +kernel
theorem dX10_word__56 : decode cX10_word_ 56 = .ok (.goto 4, 3) := by decide +kernel
theorem dX10_word__59 : decode cX10_word_ 59 = .ok (.iload_n 3, 1) := by decide +kernel
theorem dX10_word__60 : decode cX10_word_ 60 = .ok (.aload_n 0, 1) := by decide +kernel
theorem dX10_word__61 : decode cX10_word_ 61 = .ok (.getfield 25, 3) := by decide +kernel
theorem dX10_word__64 : decode cX10_word_ 64 = .ok (.invokevirtual 149, 3) := by decide +kernel
theorem dX10_word__67 : decode cX10_word_ 67 = .ok (.iload 4, 2) := by decide +kernel
theorem dX10_word__69 : decode cX10_word_ 69 = .ok (.ifCond .ge 12, 3) := by decide +kernel
theorem dX10_word__72 : decode cX10_word_ 72 = .ok (.aload_n 0, 1) := by decide +kernel
theorem dX10_word__73 : decode cX10_word_ 73 = .ok (.getfield 25, 3) := by decide +kernel
theorem dX10_word__76 : decode cX10_word_ 76 = .ok (.iconst 0, 1) := by decide +kernel
theorem dX10_word__77 : decode cX10_word_ 77 = .ok (.iaload, 1) := by decide +kernel
theorem dX10_word__78 : decode cX10_word_ 78 = .ok (.goto 28, 3) := by decide +kernel
theorem dX10_word__81 : decode cX10_word_ 81 = .ok (.iload 4, 2) := by decide +kernel
theorem dX10_word__83 : decode cX10_word_ 83 = .ok (.aload_n 0, 1) := by decide +kernel
theorem dX10_word__84 : decode cX10_word_ 84 = .ok (.getfield 25, 3) := by decide +kernel
theorem dX10_word__87 : decode cX10_word_ 87 = .ok (.iconst 0, 1) := by decide +kernel
theorem dX10_word__88 : decode cX10_word_ 88 = .ok (.iaload, 1) := by decide +kernel
theorem dX10_word__89 : decode cX10_word_ 89 = .ok (.if_icmp .ge 15, 3) := by decide +kernel
theorem dX10_word__92 : decode cX10_word_ 92 = .ok (.aload_n 0, 1) := by decide +kernel
theorem dX10_word__93 : decode cX10_word_ 93 = .ok (.getfield 25, 3) := by decide +kernel
theorem dX10_word__96 : decode cX10_word_ 96 = .ok (.iconst 1, 1) := by decide +kernel
theorem dX10_word__97 : decode cX10_word_ 97 = .ok (.iload 4, 2) := by decide +kernel
theorem dX10_word__99 : decode cX10_word_ 99 = .ok (.iadd, 1) := by decide +kernel
theorem dX10_word__100 : decode cX10_word_ 100 = .ok (.iaload, 1) := by decide +kernel
theorem dX10_word__101 : decode cX10_word_ 101 = .ok (.goto 5, 3) := by decide +kernel
theorem dX10_word__104 : decode cX10_word_ 104 = .ok (.bipush (-4), 2) := by decide +kernel
theorem dX10_word__106 : decode cX10_word_ 106 = .ok (.ireturn, 1) := by decide +kernel
set_option maxRecDepth 20000 in
theorem ggX10_far_X10_in : GoodIn wsX10_far wsX10_in := goodIn_r _ [6] (by decide +kernel) (by decide +kernel)
set_option maxRecDepth 20000 in
theorem gX10_far_X10_in : GoodIn wsX10_far (va_wsS RX10 49 yX10_in wsX10_in) := goodIn_app (goodIn_of _ (by decide +kernel)) ggX10_far_X10_in
set_option maxRecDepth 20000 in
theorem ggX10_far_X10_isMeaning : GoodIn wsX10_far wsX10_isMeaning := goodIn_r _ [9, 10, 3, 4, 5, 6] (by decide +kernel) (by decide +kernel)
set_option maxRecDepth 20000 in
theorem gX10_far_X10_isMeaning : GoodIn wsX10_far (va_wsS RX10 159 yX10_isMeaning wsX10_isMeaning) := goodIn_app (goodIn_of _ (by decide +kernel)) ggX10_far_X10_isMeaning
set_option maxRecDepth 20000 in
theorem ggX10_far_X10_wordAt : GoodIn wsX10_far wsX10_wordAt := goodIn_r _ [13] (by decide +kernel) (by decide +kernel)
set_option maxRecDepth 20000 in
theorem gX10_far_X10_wordAt : GoodIn wsX10_far (va_wsS RX10 129 yX10_wordAt wsX10_wordAt) := goodIn_app (goodIn_of _ (by decide +kernel)) ggX10_far_X10_wordAt
set_option maxRecDepth 20000 in
theorem ggX10_far_X10_say : GoodIn wsX10_far wsX10_say := goodIn_r _ [17, 18, 19, 20, 21, 5, 22, 23, 24, 25, 34, 35, 36, 37, 38, 39, 40, 41, 42, 43, 44, 45, 46] (by decide +kernel) (by decide +kernel)
set_option maxRecDepth 20000 in
theorem gX10_far_X10_say : GoodIn wsX10_far (wsV RX10 149 RX10 yX10_say wsX10_say) := goodIn_app (goodIn_of _ (by decide +kernel)) ggX10_far_X10_say
set_option maxRecDepth 20000 in
theorem ggX10_far_X10_farOf : GoodIn wsX10_far wsX10_farOf := goodIn_r _ [29, 1, 2, 30, 31, 32, 5, 33, 34, 35, 36, 37, 38, 39, 40, 41, 42, 43, 44, 45, 46] (by decide +kernel) (by decide +kernel)
set_option maxRecDepth 20000 in
theorem gX10_far_X10_farOf : GoodIn wsX10_far (wsV RX10 146 RX10 yX10_farOf wsX10_farOf) := goodIn_app (goodIn_of _ (by decide +kernel)) ggX10_far_X10_farOf
theorem dX10_far_0 : decode cX10_far 0 = .ok (.iload_n 1, 1) := by decide +kernel
theorem dX10_far_1 : decode cX10_far 1 = .ok (.i2l, 1) := by decide +kernel
theorem dX10_far_2 : decode cX10_far 2 = .ok (.lconst 0, 1) := by decide +kernel
theorem dX10_far_3 : decode cX10_far 3 = .ok (.lconst 1, 1) := by decide +kernel
theorem dX10_far_4 : decode cX10_far 4 = .ok (.invokestatic 49, 3) := by decide +kernel
theorem dX10_far_7 : decode cX10_far 7 = .ok (.ifCond .eq 28, 3) := by decide +kernel
theorem dX10_far_10 : decode cX10_far 10 = .ok (.iload_n 2, 1) := by decide +kernel
theorem dX10_far_11 : decode cX10_far 11 = .ok (.invokestatic 159, 3) := by decide +kernel
theorem dX10_far_14 : decode cX10_far 14 = .ok (.ifCond .eq 21, 3) := by decide +kernel
theorem dX10_far_17 : decode cX10_far 17 = .ok (.iload_n 3, 1) := by decide +kernel
theorem dX10_far_18 : decode cX10_far 18 = .ok (.i2l, 1) := by decide +kernel
theorem dX10_far_19 : decode cX10_far 19 = .ok (.lconst 0, 1) := by decide +kernel
theorem dX10_far_20 : decode cX10_far 20 = .ok (.lconst 1, 1) := by decide +kernel
theorem dX10_far_21 : decode cX10_far 21 = .ok (.invokestatic 49, 3) := by decide +kernel
theorem dX10_far_24 : decode cX10_far 24 = .ok (.ifCond .eq 11, 3) := by decide +kernel
theorem dX10_far_27 : decode cX10_far 27 = .ok (.iload 4, 2) := by decide +kernel
theorem dX10_far_29 : decode cX10_far 29 = .ok (.invokestatic 159, 3) := by decide +kernel
theorem dX10_far_32 : decode cX10_far 32 = .ok (.ifCond .ne 5, 3) := by decide +kernel
theorem dX10_far_35 : decode cX10_far 35 = .ok (.iconst (-1), 1) := by decide +kernel
theorem dX10_far_36 : decode cX10_far 36 = .ok (.ireturn, 1) := by decide +kernel
theorem dX10_far_37 : decode cX10_far 37 = .ok (.aload_n 0, 1) := by decide +kernel
theorem dX10_far_38 : decode cX10_far 38 = .ok (.iload_n 1, 1) := by decide +kernel
theorem dX10_far_39 : decode cX10_far 39 = .ok (.iload_n 2, 1) := by decide +kernel
theorem dX10_far_40 : decode cX10_far 40 = .ok (.invokestatic 129, 3) := by decide +kernel
theorem dX10_far_43 : decode cX10_far 43 = .ok (.iconst (-1), 1) := by decide +kernel
theorem dX10_far_44 : decode cX10_far 44 = .ok (.aload_n 0, 1) := by decide +kernel
theorem dX10_far_45 : decode cX10_far 45 = .ok (.getfield 25, 3) := by decide +kernel
theorem dX10_far_48 : decode cX10_far 48 = .ok (.invokevirtual 149, 3) := by decide +kernel
theorem dX10_far_51 : decode cX10_far 51 = .ok (.aload_n 0, 1) := by decide +kernel
theorem dX10_far_52 : decode cX10_far 52 = .ok (.iload_n 3, 1) := by decide +kernel
theorem dX10_far_53 : decode cX10_far 53 = .ok (.iload 4, 2) := by decide +kernel
theorem dX10_far_55 : decode cX10_far 55 = .ok (.invokestatic 129, 3) := by decide +kernel
theorem dX10_far_58 : decode cX10_far 58 = .ok (.iconst (-1), 1) := by decide +kernel
theorem dX10_far_59 : decode cX10_far 59 = .ok (.aload_n 0, 1) := by decide +kernel
theorem dX10_far_60 : decode cX10_far 60 = .ok (.getfield 28, 3) := by decide +kernel
theorem dX10_far_63 : decode cX10_far 63 = .ok (.invokevirtual 149, 3) := by decide +kernel
theorem dX10_far_66 : decode cX10_far 66 = .ok (.aload_n 0, 1) := by decide +kernel
theorem dX10_far_67 : decode cX10_far 67 = .ok (.getfield 25, 3) := by decide +kernel
theorem dX10_far_70 : decode cX10_far 70 = .ok (.iconst 0, 1) := by decide +kernel
theorem dX10_far_71 : decode cX10_far 71 = .ok (.iaload, 1) := by decide +kernel
theorem dX10_far_72 : decode cX10_far 72 = .ok (.ifCond .eq 12, 3) := by decide +kernel
theorem dX10_far_75 : decode cX10_far 75 = .ok (.aload_n 0, 1) := by decide +kernel
theorem dX10_far_76 : decode cX10_far 76 = .ok (.getfield 28, 3) := by decide +kernel
theorem dX10_far_79 : decode cX10_far 79 = .ok (.iconst 0, 1) := by decide +kernel
theorem dX10_far_80 : decode cX10_far 80 = .ok (.iaload, 1) := by decide +kernel
theorem dX10_far_81 : decode cX10_far 81 = .ok (.ifCond .ne 8, 3) := by decide +kernel
theorem dX10_far_84 : decode cX10_far 84 = .ok (.bipush (-2), 2) := by decide +kernel
theorem dX10_far_86 : decode cX10_far 86 = .ok (.goto 7, 3) := by decide +kernel
theorem dX10_far_89 : decode cX10_far 89 = .ok (.aload_n 0, 1) := by decide +kernel
theorem dX10_far_90 : decode cX10_far 90 = .ok (.invokevirtual 146, 3) := by decide +kernel
theorem dX10_far_93 : decode cX10_far 93 = .ok (.ireturn, 1) := by decide +kernel
set_option maxRecDepth 20000 in
theorem ggX10_like_X10_isMeaning : GoodIn wsX10_like wsX10_isMeaning := goodIn_r _ [4, 5, 6, 7, 3, 8] (by decide +kernel) (by decide +kernel)
set_option maxRecDepth 20000 in
theorem gX10_like_X10_isMeaning : GoodIn wsX10_like (va_wsS RX10 159 yX10_isMeaning wsX10_isMeaning) := goodIn_app (goodIn_of _ (by decide +kernel)) ggX10_like_X10_isMeaning
set_option maxRecDepth 20000 in
theorem ggX10_like_X10_isTold : GoodIn wsX10_like wsX10_isTold := goodIn_r _ [12, 13, 14, 15, 3, 16, 46, 47, 48, 49, 50, 51, 52, 53, 54, 55, 56, 57, 58] (by decide +kernel) (by decide +kernel)
set_option maxRecDepth 20000 in
theorem gX10_like_X10_isTold : GoodIn wsX10_like (wsV RX10 132 RX10 yX10_isTold wsX10_isTold) := goodIn_app (goodIn_of _ (by decide +kernel)) ggX10_like_X10_isTold
set_option maxRecDepth 20000 in
theorem ggX10_like_X10_likeFor : GoodIn wsX10_like wsX10_likeFor := goodIn_r _ [20, 21, 22, 14, 15, 3, 16, 23, 24, 25, 26, 13, 27, 28, 29, 30, 31, 32, 33, 34, 35, 36, 37, 38, 39, 40, 41, 42, 43, 44, 45, 46, 47, 48, 49, 50, 51, 52, 53, 54, 55, 56, 57, 58] (by decide +kernel) (by decide +kernel)
set_option maxRecDepth 20000 in
theorem gX10_like_X10_likeFor : GoodIn wsX10_like (wsV RX10 156 RX10 yX10_likeFor wsX10_likeFor) := goodIn_app (goodIn_of _ (by decide +kernel)) ggX10_like_X10_likeFor
theorem dX10_like_0 : decode cX10_like 0 = .ok (.iload_n 1, 1) := by decide +kernel
theorem dX10_like_1 : decode cX10_like 1 = .ok (.invokestatic 159, 3) := by decide +kernel
theorem dX10_like_4 : decode cX10_like 4 = .ok (.ifCond .ne 7, 3) := by decide +kernel
theorem dX10_like_7 : decode cX10_like 7 = .ok (.iconst (-1), 1) := by decide +kernel
theorem dX10_like_8 : decode cX10_like 8 = .ok (.goto 21, 3) := by decide +kernel
theorem dX10_like_11 : decode cX10_like 11 = .ok (.aload_n 0, 1) := by decide +kernel
theorem dX10_like_12 : decode cX10_like 12 = .ok (.iload_n 1, 1) := by decide +kernel
theorem dX10_like_13 : decode cX10_like 13 = .ok (.invokevirtual 132, 3) := by decide +kernel
theorem dX10_like_16 : decode cX10_like 16 = .ok (.ifCond .eq 11, 3) := by decide +kernel
theorem dX10_like_19 : decode cX10_like 19 = .ok (.aload_n 0, 1) := by decide +kernel
theorem dX10_like_20 : decode cX10_like 20 = .ok (.iload_n 1, 1) := by decide +kernel
theorem dX10_like_21 : decode cX10_like 21 = .ok (.invokevirtual 156, 3) := by decide +kernel
theorem dX10_like_24 : decode cX10_like 24 = .ok (.goto 5, 3) := by decide +kernel
theorem dX10_like_27 : decode cX10_like 27 = .ok (.bipush (-2), 2) := by decide +kernel
theorem dX10_like_29 : decode cX10_like 29 = .ok (.ireturn, 1) := by decide +kernel
theorem dX10_beginAt_0 : decode cX10_beginAt 0 = .ok (.iconst 0, 1) := by decide +kernel
theorem dX10_beginAt_1 : decode cX10_beginAt 1 = .ok (.istore_n 3, 1) := by decide +kernel
theorem dX10_beginAt_2 : decode cX10_beginAt 2 = .ok (.iload_n 3, 1) := by decide +kernel
theorem dX10_beginAt_3 : decode cX10_beginAt 3 = .ok (.bipush 81, 2) := by decide +kernel
theorem dX10_beginAt_5 : decode cX10_beginAt 5 = .ok (.if_icmp .ge 32, 3) := by decide +kernel
theorem dX10_beginAt_8 : decode cX10_beginAt 8 = .ok (.aload_n 0, 1) := by decide +kernel
theorem dX10_beginAt_9 : decode cX10_beginAt 9 = .ok (.getfield 34, 3) := by decide +kernel
theorem dX10_beginAt_12 : decode cX10_beginAt 12 = .ok (.iload_n 3, 1) := by decide +kernel
theorem dX10_beginAt_13 : decode cX10_beginAt 13 = .ok (.iload_n 3, 1) := by decide +kernel
theorem dX10_beginAt_14 : decode cX10_beginAt 14 = .ok (.bipush 9, 2) := by decide +kernel
theorem dX10_beginAt_16 : decode cX10_beginAt 16 = .ok (.iload_n 1, 1) := by decide +kernel
theorem dX10_beginAt_17 : decode cX10_beginAt 17 = .ok (.imul, 1) := by decide +kernel
theorem dX10_beginAt_18 : decode cX10_beginAt 18 = .ok (.iload_n 2, 1) := by decide +kernel
theorem dX10_beginAt_19 : decode cX10_beginAt 19 = .ok (.iadd, 1) := by decide +kernel
theorem dX10_beginAt_20 : decode cX10_beginAt 20 = .ok (.if_icmp .ne 9, 3) := by decide +kernel
theorem dX10_beginAt_23 : decode cX10_beginAt 23 = .ok (.ldc2_w 166, 3) := by decide +kernel
theorem dX10_beginAt_26 : decode cX10_beginAt 26 = .ok (.goto 4, 3) := by decide +kernel
theorem dX10_beginAt_29 : decode cX10_beginAt 29 = .ok (.lconst 0, 1) := by decide +kernel
theorem dX10_beginAt_30 : decode cX10_beginAt 30 = .ok (.lastore, 1) := by decide +kernel
theorem dX10_beginAt_31 : decode cX10_beginAt 31 = .ok (.iinc 3 1, 3) := by decide +kernel
theorem dX10_beginAt_34 : decode cX10_beginAt 34 = .ok (.goto (-32), 3) := by decide +kernel
theorem dX10_beginAt_37 : decode cX10_beginAt 37 = .ok (.return_, 1) := by decide +kernel
theorem dX10_meet_0 : decode cX10_meet 0 = .ok (.iconst 0, 1) := by decide +kernel
theorem dX10_meet_1 : decode cX10_meet 1 = .ok (.istore 5, 2) := by decide +kernel
theorem dX10_meet_3 : decode cX10_meet 3 = .ok (.iload 5, 2) := by decide +kernel
theorem dX10_meet_5 : decode cX10_meet 5 = .ok (.bipush 81, 2) := by decide +kernel
theorem dX10_meet_7 : decode cX10_meet 7 = .ok (.if_icmp .ge 17, 3) := by decide +kernel
theorem dX10_meet_10 : decode cX10_meet 10 = .ok (.aload_n 0, 1) := by decide +kernel
theorem dX10_meet_11 : decode cX10_meet 11 = .ok (.getfield 38, 3) := by decide +kernel
theorem dX10_meet_14 : decode cX10_meet 14 = .ok (.iload 5, 2) := by decide +kernel
theorem dX10_meet_16 : decode cX10_meet 16 = .ok (.lconst 0, 1) := by decide +kernel
theorem dX10_meet_17 : decode cX10_meet 17 = .ok (.lastore, 1) := by decide +kernel
theorem dX10_meet_18 : decode cX10_meet 18 = .ok (.iinc 5 1, 3) := by decide +kernel
theorem dX10_meet_21 : decode cX10_meet 21 = .ok (.goto (-18), 3) := by decide +kernel
theorem dX10_meet_24 : decode cX10_meet 24 = .ok (.aload_n 0, 1) := by decide +kernel
theorem dX10_meet_25 : decode cX10_meet 25 = .ok (.getfield 16, 3) := by decide +kernel
theorem dX10_meet_28 : decode cX10_meet 28 = .ok (.sipush 302, 3) := by decide +kernel
theorem dX10_meet_31 : decode cX10_meet 31 = .ok (.iaload, 1) := by decide +kernel
theorem dX10_meet_32 : decode cX10_meet 32 = .ok (.istore 5, 2) := by decide +kernel
theorem dX10_meet_34 : decode cX10_meet 34 = .ok (.iconst 0, 1) := by decide +kernel
theorem dX10_meet_35 : decode cX10_meet 35 = .ok (.istore 6, 2) := by decide +kernel
theorem dX10_meet_37 : decode cX10_meet 37 = .ok (.iload 6, 2) := by decide +kernel
theorem dX10_meet_39 : decode cX10_meet 39 = .ok (.iload_n 1, 1) := by decide +kernel
theorem dX10_meet_40 : decode cX10_meet 40 = .ok (.if_icmp .gt 285, 3) := by decide +kernel
theorem dX10_meet_43 : decode cX10_meet 43 = .ok (.iconst 0, 1) := by decide +kernel
theorem dX10_meet_44 : decode cX10_meet 44 = .ok (.istore 7, 2) := by decide +kernel
theorem dX10_meet_46 : decode cX10_meet 46 = .ok (.iload 7, 2) := by decide +kernel
theorem dX10_meet_48 : decode cX10_meet 48 = .ok (.iload_n 2, 1) := by decide +kernel
theorem dX10_meet_49 : decode cX10_meet 49 = .ok (.if_icmp .gt 270, 3) := by decide +kernel
theorem dX10_meet_52 : decode cX10_meet 52 = .ok (.aload_n 0, 1) := by decide +kernel
theorem dX10_meet_53 : decode cX10_meet 53 = .ok (.getfield 34, 3) := by decide +kernel
theorem dX10_meet_56 : decode cX10_meet 56 = .ok (.bipush 9, 2) := by decide +kernel
theorem dX10_meet_58 : decode cX10_meet 58 = .ok (.iload 6, 2) := by decide +kernel
theorem dX10_meet_60 : decode cX10_meet 60 = .ok (.imul, 1) := by decide +kernel
theorem dX10_meet_61 : decode cX10_meet 61 = .ok (.iload 7, 2) := by decide +kernel
theorem dX10_meet_63 : decode cX10_meet 63 = .ok (.iadd, 1) := by decide +kernel
theorem dX10_meet_64 : decode cX10_meet 64 = .ok (.laload, 1) := by decide +kernel
theorem dX10_meet_65 : decode cX10_meet 65 = .ok (.lstore 8, 2) := by decide +kernel
theorem dX10_meet_67 : decode cX10_meet 67 = .ok (.iload_n 1, 1) := by decide +kernel
theorem dX10_meet_68 : decode cX10_meet 68 = .ok (.iload 6, 2) := by decide +kernel
theorem dX10_meet_70 : decode cX10_meet 70 = .ok (.isub, 1) := by decide +kernel
theorem dX10_meet_71 : decode cX10_meet 71 = .ok (.iload_n 2, 1) := by decide +kernel
theorem dX10_meet_72 : decode cX10_meet 72 = .ok (.iload 7, 2) := by decide +kernel
theorem dX10_meet_74 : decode cX10_meet 74 = .ok (.isub, 1) := by decide +kernel
theorem dX10_meet_75 : decode cX10_meet 75 = .ok (.imul, 1) := by decide +kernel
theorem dX10_meet_76 : decode cX10_meet 76 = .ok (.istore 10, 2) := by decide +kernel
theorem dX10_meet_78 : decode cX10_meet 78 = .ok (.iload 6, 2) := by decide +kernel
theorem dX10_meet_80 : decode cX10_meet 80 = .ok (.iload 7, 2) := by decide +kernel
theorem dX10_meet_82 : decode cX10_meet 82 = .ok (.imul, 1) := by decide +kernel
theorem dX10_meet_83 : decode cX10_meet 83 = .ok (.istore 11, 2) := by decide +kernel
theorem dX10_meet_85 : decode cX10_meet 85 = .ok (.lload 8, 2) := by decide +kernel
theorem dX10_meet_87 : decode cX10_meet 87 = .ok (.bipush 10, 2) := by decide +kernel
theorem dX10_meet_89 : decode cX10_meet 89 = .ok (.iload 5, 2) := by decide +kernel
theorem dX10_meet_91 : decode cX10_meet 91 = .ok (.isub, 1) := by decide +kernel
theorem dX10_meet_92 : decode cX10_meet 92 = .ok (.i2l, 1) := by decide +kernel
theorem dX10_meet_93 : decode cX10_meet 93 = .ok (.lmul, 1) := by decide +kernel
theorem dX10_meet_94 : decode cX10_meet 94 = .ok (.iload 10, 2) := by decide +kernel
theorem dX10_meet_96 : decode cX10_meet 96 = .ok (.i2l, 1) := by decide +kernel
theorem dX10_meet_97 : decode cX10_meet 97 = .ok (.lmul, 1) := by decide +kernel
theorem dX10_meet_98 : decode cX10_meet 98 = .ok (.iload_n 3, 1) := by decide +kernel
theorem dX10_meet_99 : decode cX10_meet 99 = .ok (.i2l, 1) := by decide +kernel
theorem dX10_meet_100 : decode cX10_meet 100 = .ok (.lmul, 1) := by decide +kernel
theorem dX10_meet_101 : decode cX10_meet 101 = .ok (.ldc2_w 168, 3) := by decide +kernel
theorem dX10_meet_104 : decode cX10_meet 104 = .ok (.iload_n 1, 1) := by decide +kernel
theorem dX10_meet_105 : decode cX10_meet 105 = .ok (.i2l, 1) := by decide +kernel
theorem dX10_meet_106 : decode cX10_meet 106 = .ok (.lmul, 1) := by decide +kernel
theorem dX10_meet_107 : decode cX10_meet 107 = .ok (.iload_n 2, 1) := by decide +kernel
theorem dX10_meet_108 : decode cX10_meet 108 = .ok (.i2l, 1) := by decide +kernel
theorem dX10_meet_109 : decode cX10_meet 109 = .ok (.lmul, 1) := by decide +kernel
theorem dX10_meet_110 : decode cX10_meet 110 = .ok (.ldiv, 1) := by decide +kernel
theorem dX10_meet_111 : decode cX10_meet 111 = .ok (.lstore 12, 2) := by decide +kernel
theorem dX10_meet_113 : decode cX10_meet 113 = .ok (.lload 8, 2) := by decide +kernel
theorem dX10_meet_115 : decode cX10_meet 115 = .ok (.bipush 10, 2) := by decide +kernel
theorem dX10_meet_117 : decode cX10_meet 117 = .ok (.iload 5, 2) := by decide +kernel
theorem dX10_meet_119 : decode cX10_meet 119 = .ok (.isub, 1) := by decide +kernel
theorem dX10_meet_120 : decode cX10_meet 120 = .ok (.i2l, 1) := by decide +kernel
theorem dX10_meet_121 : decode cX10_meet 121 = .ok (.lmul, 1) := by decide +kernel
theorem dX10_meet_122 : decode cX10_meet 122 = .ok (.iload 11, 2) := by decide +kernel
theorem dX10_meet_124 : decode cX10_meet 124 = .ok (.i2l, 1) := by decide +kernel
theorem dX10_meet_125 : decode cX10_meet 125 = .ok (.lmul, 1) := by decide +kernel
theorem dX10_meet_126 : decode cX10_meet 126 = .ok (.iload_n 3, 1) := by decide +kernel
theorem dX10_meet_127 : decode cX10_meet 127 = .ok (.i2l, 1) := by decide +kernel
theorem dX10_meet_128 : decode cX10_meet 128 = .ok (.lmul, 1) := by decide +kernel
theorem dX10_meet_129 : decode cX10_meet 129 = .ok (.ldc2_w 168, 3) := by decide +kernel
theorem dX10_meet_132 : decode cX10_meet 132 = .ok (.iload_n 1, 1) := by decide +kernel
theorem dX10_meet_133 : decode cX10_meet 133 = .ok (.i2l, 1) := by decide +kernel
theorem dX10_meet_134 : decode cX10_meet 134 = .ok (.lmul, 1) := by decide +kernel
theorem dX10_meet_135 : decode cX10_meet 135 = .ok (.iload_n 2, 1) := by decide +kernel
theorem dX10_meet_136 : decode cX10_meet 136 = .ok (.i2l, 1) := by decide +kernel
theorem dX10_meet_137 : decode cX10_meet 137 = .ok (.lmul, 1) := by decide +kernel
theorem dX10_meet_138 : decode cX10_meet 138 = .ok (.ldiv, 1) := by decide +kernel
theorem dX10_meet_139 : decode cX10_meet 139 = .ok (.lstore 14, 2) := by decide +kernel
theorem dX10_meet_141 : decode cX10_meet 141 = .ok (.lload 8, 2) := by decide +kernel
theorem dX10_meet_143 : decode cX10_meet 143 = .ok (.iload 5, 2) := by decide +kernel
theorem dX10_meet_145 : decode cX10_meet 145 = .ok (.i2l, 1) := by decide +kernel
theorem dX10_meet_146 : decode cX10_meet 146 = .ok (.lmul, 1) := by decide +kernel
theorem dX10_meet_147 : decode cX10_meet 147 = .ok (.iload 10, 2) := by decide +kernel
theorem dX10_meet_149 : decode cX10_meet 149 = .ok (.i2l, 1) := by decide +kernel
theorem dX10_meet_150 : decode cX10_meet 150 = .ok (.lmul, 1) := by decide +kernel
theorem dX10_meet_151 : decode cX10_meet 151 = .ok (.iload 4, 2) := by decide +kernel
theorem dX10_meet_153 : decode cX10_meet 153 = .ok (.i2l, 1) := by decide +kernel
theorem dX10_meet_154 : decode cX10_meet 154 = .ok (.lmul, 1) := by decide +kernel
theorem dX10_meet_155 : decode cX10_meet 155 = .ok (.ldc2_w 168, 3) := by decide +kernel
theorem dX10_meet_158 : decode cX10_meet 158 = .ok (.iload_n 1, 1) := by decide +kernel
theorem dX10_meet_159 : decode cX10_meet 159 = .ok (.i2l, 1) := by decide +kernel
theorem dX10_meet_160 : decode cX10_meet 160 = .ok (.lmul, 1) := by decide +kernel
theorem dX10_meet_161 : decode cX10_meet 161 = .ok (.iload_n 2, 1) := by decide +kernel
theorem dX10_meet_162 : decode cX10_meet 162 = .ok (.i2l, 1) := by decide +kernel
theorem dX10_meet_163 : decode cX10_meet 163 = .ok (.lmul, 1) := by decide +kernel
theorem dX10_meet_164 : decode cX10_meet 164 = .ok (.ldiv, 1) := by decide +kernel
theorem dX10_meet_165 : decode cX10_meet 165 = .ok (.lstore 16, 2) := by decide +kernel
theorem dX10_meet_167 : decode cX10_meet 167 = .ok (.lload 8, 2) := by decide +kernel
theorem dX10_meet_169 : decode cX10_meet 169 = .ok (.iload 5, 2) := by decide +kernel
theorem dX10_meet_171 : decode cX10_meet 171 = .ok (.i2l, 1) := by decide +kernel
theorem dX10_meet_172 : decode cX10_meet 172 = .ok (.lmul, 1) := by decide +kernel
theorem dX10_meet_173 : decode cX10_meet 173 = .ok (.iload 11, 2) := by decide +kernel
theorem dX10_meet_175 : decode cX10_meet 175 = .ok (.i2l, 1) := by decide +kernel
theorem dX10_meet_176 : decode cX10_meet 176 = .ok (.lmul, 1) := by decide +kernel
theorem dX10_meet_177 : decode cX10_meet 177 = .ok (.iload 4, 2) := by decide +kernel
theorem dX10_meet_179 : decode cX10_meet 179 = .ok (.i2l, 1) := by decide +kernel
theorem dX10_meet_180 : decode cX10_meet 180 = .ok (.lmul, 1) := by decide +kernel
theorem dX10_meet_181 : decode cX10_meet 181 = .ok (.ldc2_w 168, 3) := by decide +kernel
theorem dX10_meet_184 : decode cX10_meet 184 = .ok (.iload_n 1, 1) := by decide +kernel
theorem dX10_meet_185 : decode cX10_meet 185 = .ok (.i2l, 1) := by decide +kernel
theorem dX10_meet_186 : decode cX10_meet 186 = .ok (.lmul, 1) := by decide +kernel
theorem dX10_meet_187 : decode cX10_meet 187 = .ok (.iload_n 2, 1) := by decide +kernel
theorem dX10_meet_188 : decode cX10_meet 188 = .ok (.i2l, 1) := by decide +kernel
theorem dX10_meet_189 : decode cX10_meet 189 = .ok (.lmul, 1) := by decide +kernel
theorem dX10_meet_190 : decode cX10_meet 190 = .ok (.ldiv, 1) := by decide +kernel
theorem dX10_meet_191 : decode cX10_meet 191 = .ok (.lstore 18, 2) := by decide +kernel
theorem dX10_meet_193 : decode cX10_meet 193 = .ok (.aload_n 0, 1) := by decide +kernel
theorem dX10_meet_194 : decode cX10_meet 194 = .ok (.getfield 38, 3) := by decide +kernel
theorem dX10_meet_197 : decode cX10_meet 197 = .ok (.bipush 9, 2) := by decide +kernel
theorem dX10_meet_199 : decode cX10_meet 199 = .ok (.iload 6, 2) := by decide +kernel
theorem dX10_meet_201 : decode cX10_meet 201 = .ok (.imul, 1) := by decide +kernel
theorem dX10_meet_202 : decode cX10_meet 202 = .ok (.iload 7, 2) := by decide +kernel
theorem dX10_meet_204 : decode cX10_meet 204 = .ok (.iadd, 1) := by decide +kernel
theorem dX10_meet_205 : decode cX10_meet 205 = .ok (.dup2, 1) := by decide +kernel
theorem dX10_meet_206 : decode cX10_meet 206 = .ok (.laload, 1) := by decide +kernel
theorem dX10_meet_207 : decode cX10_meet 207 = .ok (.lload 8, 2) := by decide +kernel
theorem dX10_meet_209 : decode cX10_meet 209 = .ok (.lload 12, 2) := by decide +kernel
theorem dX10_meet_211 : decode cX10_meet 211 = .ok (.lsub, 1) := by decide +kernel
theorem dX10_meet_212 : decode cX10_meet 212 = .ok (.lload 14, 2) := by decide +kernel
theorem dX10_meet_214 : decode cX10_meet 214 = .ok (.lsub, 1) := by decide +kernel
theorem dX10_meet_215 : decode cX10_meet 215 = .ok (.lload 16, 2) := by decide +kernel
theorem dX10_meet_217 : decode cX10_meet 217 = .ok (.lsub, 1) := by decide +kernel
theorem dX10_meet_218 : decode cX10_meet 218 = .ok (.lload 18, 2) := by decide +kernel
theorem dX10_meet_220 : decode cX10_meet 220 = .ok (.lsub, 1) := by decide +kernel
theorem dX10_meet_221 : decode cX10_meet 221 = .ok (.ladd, 1) := by decide +kernel
theorem dX10_meet_222 : decode cX10_meet 222 = .ok (.lastore, 1) := by decide +kernel
theorem dX10_meet_223 : decode cX10_meet 223 = .ok (.iload 10, 2) := by decide +kernel
theorem dX10_meet_225 : decode cX10_meet 225 = .ok (.ifCond .le 43, 3) := by decide +kernel
theorem dX10_meet_228 : decode cX10_meet 228 = .ok (.aload_n 0, 1) := by decide +kernel
theorem dX10_meet_229 : decode cX10_meet 229 = .ok (.getfield 38, 3) := by decide +kernel
theorem dX10_meet_232 : decode cX10_meet 232 = .ok (.bipush 9, 2) := by decide +kernel
theorem dX10_meet_234 : decode cX10_meet 234 = .ok (.iload 6, 2) := by decide +kernel
theorem dX10_meet_236 : decode cX10_meet 236 = .ok (.iconst 1, 1) := by decide +kernel
theorem dX10_meet_237 : decode cX10_meet 237 = .ok (.iadd, 1) := by decide +kernel
theorem dX10_meet_238 : decode cX10_meet 238 = .ok (.imul, 1) := by decide +kernel
theorem dX10_meet_239 : decode cX10_meet 239 = .ok (.iload 7, 2) := by decide +kernel
theorem dX10_meet_241 : decode cX10_meet 241 = .ok (.iadd, 1) := by decide +kernel
theorem dX10_meet_242 : decode cX10_meet 242 = .ok (.dup2, 1) := by decide +kernel
theorem dX10_meet_243 : decode cX10_meet 243 = .ok (.laload, 1) := by decide +kernel
theorem dX10_meet_244 : decode cX10_meet 244 = .ok (.lload 12, 2) := by decide +kernel
theorem dX10_meet_246 : decode cX10_meet 246 = .ok (.ladd, 1) := by decide +kernel
theorem dX10_meet_247 : decode cX10_meet 247 = .ok (.lastore, 1) := by decide +kernel
theorem dX10_meet_248 : decode cX10_meet 248 = .ok (.aload_n 0, 1) := by decide +kernel
theorem dX10_meet_249 : decode cX10_meet 249 = .ok (.getfield 38, 3) := by decide +kernel
theorem dX10_meet_252 : decode cX10_meet 252 = .ok (.bipush 9, 2) := by decide +kernel
theorem dX10_meet_254 : decode cX10_meet 254 = .ok (.iload 6, 2) := by decide +kernel
theorem dX10_meet_256 : decode cX10_meet 256 = .ok (.imul, 1) := by decide +kernel
theorem dX10_meet_257 : decode cX10_meet 257 = .ok (.iload 7, 2) := by decide +kernel
theorem dX10_meet_259 : decode cX10_meet 259 = .ok (.iadd, 1) := by decide +kernel
theorem dX10_meet_260 : decode cX10_meet 260 = .ok (.iconst 1, 1) := by decide +kernel
theorem dX10_meet_261 : decode cX10_meet 261 = .ok (.iadd, 1) := by decide +kernel
theorem dX10_meet_262 : decode cX10_meet 262 = .ok (.dup2, 1) := by decide +kernel
theorem dX10_meet_263 : decode cX10_meet 263 = .ok (.laload, 1) := by decide +kernel
theorem dX10_meet_264 : decode cX10_meet 264 = .ok (.lload 16, 2) := by decide +kernel
theorem dX10_meet_266 : decode cX10_meet 266 = .ok (.ladd, 1) := by decide +kernel
theorem dX10_meet_267 : decode cX10_meet 267 = .ok (.lastore, 1) := by decide +kernel
theorem dX10_meet_268 : decode cX10_meet 268 = .ok (.iload 11, 2) := by decide +kernel
theorem dX10_meet_270 : decode cX10_meet 270 = .ok (.ifCond .le 43, 3) := by decide +kernel
theorem dX10_meet_273 : decode cX10_meet 273 = .ok (.aload_n 0, 1) := by decide +kernel
theorem dX10_meet_274 : decode cX10_meet 274 = .ok (.getfield 38, 3) := by decide +kernel
theorem dX10_meet_277 : decode cX10_meet 277 = .ok (.bipush 9, 2) := by decide +kernel
theorem dX10_meet_279 : decode cX10_meet 279 = .ok (.iload 6, 2) := by decide +kernel
theorem dX10_meet_281 : decode cX10_meet 281 = .ok (.iconst 1, 1) := by decide +kernel
theorem dX10_meet_282 : decode cX10_meet 282 = .ok (.isub, 1) := by decide +kernel
theorem dX10_meet_283 : decode cX10_meet 283 = .ok (.imul, 1) := by decide +kernel
theorem dX10_meet_284 : decode cX10_meet 284 = .ok (.iload 7, 2) := by decide +kernel
theorem dX10_meet_286 : decode cX10_meet 286 = .ok (.iadd, 1) := by decide +kernel
theorem dX10_meet_287 : decode cX10_meet 287 = .ok (.dup2, 1) := by decide +kernel
theorem dX10_meet_288 : decode cX10_meet 288 = .ok (.laload, 1) := by decide +kernel
theorem dX10_meet_289 : decode cX10_meet 289 = .ok (.lload 14, 2) := by decide +kernel
theorem dX10_meet_291 : decode cX10_meet 291 = .ok (.ladd, 1) := by decide +kernel
theorem dX10_meet_292 : decode cX10_meet 292 = .ok (.lastore, 1) := by decide +kernel
theorem dX10_meet_293 : decode cX10_meet 293 = .ok (.aload_n 0, 1) := by decide +kernel
theorem dX10_meet_294 : decode cX10_meet 294 = .ok (.getfield 38, 3) := by decide +kernel
theorem dX10_meet_297 : decode cX10_meet 297 = .ok (.bipush 9, 2) := by decide +kernel
theorem dX10_meet_299 : decode cX10_meet 299 = .ok (.iload 6, 2) := by decide +kernel
theorem dX10_meet_301 : decode cX10_meet 301 = .ok (.imul, 1) := by decide +kernel
theorem dX10_meet_302 : decode cX10_meet 302 = .ok (.iload 7, 2) := by decide +kernel
theorem dX10_meet_304 : decode cX10_meet 304 = .ok (.iadd, 1) := by decide +kernel
theorem dX10_meet_305 : decode cX10_meet 305 = .ok (.iconst 1, 1) := by decide +kernel
theorem dX10_meet_306 : decode cX10_meet 306 = .ok (.isub, 1) := by decide +kernel
theorem dX10_meet_307 : decode cX10_meet 307 = .ok (.dup2, 1) := by decide +kernel
theorem dX10_meet_308 : decode cX10_meet 308 = .ok (.laload, 1) := by decide +kernel
theorem dX10_meet_309 : decode cX10_meet 309 = .ok (.lload 18, 2) := by decide +kernel
theorem dX10_meet_311 : decode cX10_meet 311 = .ok (.ladd, 1) := by decide +kernel
theorem dX10_meet_312 : decode cX10_meet 312 = .ok (.lastore, 1) := by decide +kernel
theorem dX10_meet_313 : decode cX10_meet 313 = .ok (.iinc 7 1, 3) := by decide +kernel
theorem dX10_meet_316 : decode cX10_meet 316 = .ok (.goto (-270), 3) := by decide +kernel
theorem dX10_meet_319 : decode cX10_meet 319 = .ok (.iinc 6 1, 3) := by decide +kernel
theorem dX10_meet_322 : decode cX10_meet 322 = .ok (.goto (-285), 3) := by decide +kernel
theorem dX10_meet_325 : decode cX10_meet 325 = .ok (.iconst 0, 1) := by decide +kernel
theorem dX10_meet_326 : decode cX10_meet 326 = .ok (.istore 6, 2) := by decide +kernel
theorem dX10_meet_328 : decode cX10_meet 328 = .ok (.iload 6, 2) := by decide +kernel
theorem dX10_meet_330 : decode cX10_meet 330 = .ok (.bipush 81, 2) := by decide +kernel
theorem dX10_meet_332 : decode cX10_meet 332 = .ok (.if_icmp .ge 23, 3) := by decide +kernel
theorem dX10_meet_335 : decode cX10_meet 335 = .ok (.aload_n 0, 1) := by decide +kernel
theorem dX10_meet_336 : decode cX10_meet 336 = .ok (.getfield 34, 3) := by decide +kernel
theorem dX10_meet_339 : decode cX10_meet 339 = .ok (.iload 6, 2) := by decide +kernel
theorem dX10_meet_341 : decode cX10_meet 341 = .ok (.aload_n 0, 1) := by decide +kernel
theorem dX10_meet_342 : decode cX10_meet 342 = .ok (.getfield 38, 3) := by decide +kernel
theorem dX10_meet_345 : decode cX10_meet 345 = .ok (.iload 6, 2) := by decide +kernel
theorem dX10_meet_347 : decode cX10_meet 347 = .ok (.laload, 1) := by decide +kernel
theorem dX10_meet_348 : decode cX10_meet 348 = .ok (.lastore, 1) := by decide +kernel
theorem dX10_meet_349 : decode cX10_meet 349 = .ok (.iinc 6 1, 3) := by decide +kernel
theorem dX10_meet_352 : decode cX10_meet 352 = .ok (.goto (-24), 3) := by decide +kernel
theorem dX10_meet_355 : decode cX10_meet 355 = .ok (.return_, 1) := by decide +kernel
set_option maxRecDepth 20000 in
theorem ggX10_goOn_X10_isAlike : GoodIn wsX10_goOn wsX10_isAlike := goodIn_r _ [5, 6, 7, 8, 9, 4, 10, 11, 12, 13, 14, 15, 16, 17, 18, 19, 20, 21, 22, 23, 24, 25, 26, 27, 28, 29, 30, 31, 32, 33, 34, 35, 36, 37, 38, 46, 47, 48, 49, 50, 51, 52, 53, 54, 55, 56, 57, 58] (by decide +kernel) (by decide +kernel)
set_option maxRecDepth 20000 in
theorem gX10_goOn_X10_isAlike : GoodIn wsX10_goOn (wsV RX10 170 RX10 yX10_isAlike wsX10_isAlike) := goodIn_app (goodIn_of _ (by decide +kernel)) ggX10_goOn_X10_isAlike
set_option maxRecDepth 20000 in
theorem ggX10_goOn_X10_meet : GoodIn wsX10_goOn wsX10_meet := goodIn_r _ [42, 43, 6, 44, 45, 46, 47, 48, 49, 50, 51, 52, 53, 54, 55, 56, 57, 58] (by decide +kernel) (by decide +kernel)
set_option maxRecDepth 20000 in
theorem gX10_goOn_X10_meet : GoodIn wsX10_goOn (wsV RX10 173 RX10 yX10_meet wsX10_meet) := goodIn_app (goodIn_of _ (by decide +kernel)) ggX10_goOn_X10_meet
theorem dX10_goOn_0 : decode cX10_goOn 0 = .ok (.aload_n 0, 1) := by decide +kernel
theorem dX10_goOn_1 : decode cX10_goOn 1 = .ok (.iload_n 1, 1) := by decide +kernel
theorem dX10_goOn_2 : decode cX10_goOn 2 = .ok (.invokevirtual 170, 3) := by decide +kernel
theorem dX10_goOn_5 : decode cX10_goOn 5 = .ok (.istore 7, 2) := by decide +kernel
theorem dX10_goOn_7 : decode cX10_goOn 7 = .ok (.iconst 0, 1) := by decide +kernel
theorem dX10_goOn_8 : decode cX10_goOn 8 = .ok (.istore 8, 2) := by decide +kernel
theorem dX10_goOn_10 : decode cX10_goOn 10 = .ok (.iload 8, 2) := by decide +kernel
theorem dX10_goOn_12 : decode cX10_goOn 12 = .ok (.iload_n 2, 1) := by decide +kernel
theorem dX10_goOn_13 : decode cX10_goOn 13 = .ok (.if_icmp .ge 25, 3) := by decide +kernel
theorem dX10_goOn_16 : decode cX10_goOn 16 = .ok (.iload 7, 2) := by decide +kernel
theorem dX10_goOn_18 : decode cX10_goOn 18 = .ok (.ifCond .ne 20, 3) := by decide +kernel
theorem dX10_goOn_21 : decode cX10_goOn 21 = .ok (.aload_n 0, 1) := by decide +kernel
theorem dX10_goOn_22 : decode cX10_goOn 22 = .ok (.iload_n 3, 1) := by decide +kernel
theorem dX10_goOn_23 : decode cX10_goOn 23 = .ok (.iload 4, 2) := by decide +kernel
theorem dX10_goOn_25 : decode cX10_goOn 25 = .ok (.iload 5, 2) := by decide +kernel
theorem dX10_goOn_27 : decode cX10_goOn 27 = .ok (.iload 6, 2) := by decide +kernel
theorem dX10_goOn_29 : decode cX10_goOn 29 = .ok (.invokevirtual 173, 3) := by decide +kernel
theorem dX10_goOn_32 : decode cX10_goOn 32 = .ok (.iinc 8 1, 3) := by decide +kernel
theorem dX10_goOn_35 : decode cX10_goOn 35 = .ok (.goto (-25), 3) := by decide +kernel
theorem dX10_goOn_38 : decode cX10_goOn 38 = .ok (.return_, 1) := by decide +kernel
set_option maxRecDepth 20000 in
theorem ggX10_goAsTold_X10_beginAt : GoodIn wsX10_goAsTold wsX10_beginAt := goodIn_r _ [7, 8, 9, 56, 57, 58, 59, 60, 61, 62, 63, 64, 65, 66, 67, 68] (by decide +kernel) (by decide +kernel)
set_option maxRecDepth 20000 in
theorem gX10_goAsTold_X10_beginAt : GoodIn wsX10_goAsTold (wsV RX10 177 RX10 yX10_beginAt wsX10_beginAt) := goodIn_app (goodIn_of _ (by decide +kernel)) ggX10_goAsTold_X10_beginAt
set_option maxRecDepth 20000 in
theorem ggX10_goAsTold_X10_goOn : GoodIn wsX10_goAsTold wsX10_goOn := goodIn_r _ [13, 14, 15, 16, 6, 17, 2, 18, 19, 20, 21, 22, 23, 24, 25, 26, 27, 28, 29, 30, 31, 32, 33, 34, 35, 36, 37, 38, 39, 40, 41, 42, 43, 44, 45, 46, 47, 48, 49, 50, 51, 52, 53, 54, 8, 55, 56, 57, 58, 59, 60, 61, 62, 63, 64, 65, 66, 67, 68] (by decide +kernel) (by decide +kernel)
set_option maxRecDepth 20000 in
theorem gX10_goAsTold_X10_goOn : GoodIn wsX10_goAsTold (wsV RX10 181 RX10 yX10_goOn wsX10_goOn) := goodIn_app (goodIn_of _ (by decide +kernel)) ggX10_goAsTold_X10_goOn
theorem dX10_goAsTold_0 : decode cX10_goAsTold 0 = .ok (.aload_n 0, 1) := by decide +kernel
theorem dX10_goAsTold_1 : decode cX10_goAsTold 1 = .ok (.aload_n 0, 1) := by decide +kernel
theorem dX10_goAsTold_2 : decode cX10_goAsTold 2 = .ok (.getfield 19, 3) := by decide +kernel
theorem dX10_goAsTold_5 : decode cX10_goAsTold 5 = .ok (.iconst 2, 1) := by decide +kernel
theorem dX10_goAsTold_6 : decode cX10_goAsTold 6 = .ok (.iload_n 1, 1) := by decide +kernel
theorem dX10_goAsTold_7 : decode cX10_goAsTold 7 = .ok (.imul, 1) := by decide +kernel
theorem dX10_goAsTold_8 : decode cX10_goAsTold 8 = .ok (.iaload, 1) := by decide +kernel
theorem dX10_goAsTold_9 : decode cX10_goAsTold 9 = .ok (.aload_n 0, 1) := by decide +kernel
theorem dX10_goAsTold_10 : decode cX10_goAsTold 10 = .ok (.getfield 19, 3) := by decide +kernel
theorem dX10_goAsTold_13 : decode cX10_goAsTold 13 = .ok (.iconst 2, 1) := by decide +kernel
theorem dX10_goAsTold_14 : decode cX10_goAsTold 14 = .ok (.iload_n 1, 1) := by decide +kernel
theorem dX10_goAsTold_15 : decode cX10_goAsTold 15 = .ok (.imul, 1) := by decide +kernel
theorem dX10_goAsTold_16 : decode cX10_goAsTold 16 = .ok (.iconst 1, 1) := by decide +kernel
theorem dX10_goAsTold_17 : decode cX10_goAsTold 17 = .ok (.iadd, 1) := by decide +kernel
theorem dX10_goAsTold_18 : decode cX10_goAsTold 18 = .ok (.iaload, 1) := by decide +kernel
theorem dX10_goAsTold_19 : decode cX10_goAsTold 19 = .ok (.invokevirtual 177, 3) := by decide +kernel
theorem dX10_goAsTold_22 : decode cX10_goAsTold 22 = .ok (.aload_n 0, 1) := by decide +kernel
theorem dX10_goAsTold_23 : decode cX10_goAsTold 23 = .ok (.iload_n 1, 1) := by decide +kernel
theorem dX10_goAsTold_24 : decode cX10_goAsTold 24 = .ok (.iload_n 2, 1) := by decide +kernel
theorem dX10_goAsTold_25 : decode cX10_goAsTold 25 = .ok (.aload_n 0, 1) := by decide +kernel
theorem dX10_goAsTold_26 : decode cX10_goAsTold 26 = .ok (.getfield 16, 3) := by decide +kernel
theorem dX10_goAsTold_29 : decode cX10_goAsTold 29 = .ok (.sipush 298, 3) := by decide +kernel
theorem dX10_goAsTold_32 : decode cX10_goAsTold 32 = .ok (.iaload, 1) := by decide +kernel
theorem dX10_goAsTold_33 : decode cX10_goAsTold 33 = .ok (.aload_n 0, 1) := by decide +kernel
theorem dX10_goAsTold_34 : decode cX10_goAsTold 34 = .ok (.getfield 16, 3) := by decide +kernel
theorem dX10_goAsTold_37 : decode cX10_goAsTold 37 = .ok (.sipush 299, 3) := by decide +kernel
theorem dX10_goAsTold_40 : decode cX10_goAsTold 40 = .ok (.iaload, 1) := by decide +kernel
theorem dX10_goAsTold_41 : decode cX10_goAsTold 41 = .ok (.aload_n 0, 1) := by decide +kernel
theorem dX10_goAsTold_42 : decode cX10_goAsTold 42 = .ok (.getfield 16, 3) := by decide +kernel
theorem dX10_goAsTold_45 : decode cX10_goAsTold 45 = .ok (.sipush 300, 3) := by decide +kernel
theorem dX10_goAsTold_48 : decode cX10_goAsTold 48 = .ok (.iaload, 1) := by decide +kernel
theorem dX10_goAsTold_49 : decode cX10_goAsTold 49 = .ok (.aload_n 0, 1) := by decide +kernel
theorem dX10_goAsTold_50 : decode cX10_goAsTold 50 = .ok (.getfield 16, 3) := by decide +kernel
theorem dX10_goAsTold_53 : decode cX10_goAsTold 53 = .ok (.sipush 301, 3) := by decide +kernel
theorem dX10_goAsTold_56 : decode cX10_goAsTold 56 = .ok (.iaload, 1) := by decide +kernel
theorem dX10_goAsTold_57 : decode cX10_goAsTold 57 = .ok (.invokevirtual 181, 3) := by decide +kernel
theorem dX10_goAsTold_60 : decode cX10_goAsTold 60 = .ok (.return_, 1) := by decide +kernel
theorem dX10_wonBy_0 : decode cX10_wonBy 0 = .ok (.iload_n 1, 1) := by decide +kernel
theorem dX10_wonBy_1 : decode cX10_wonBy 1 = .ok (.ifCond .ne 12, 3) := by decide +kernel
theorem dX10_wonBy_4 : decode cX10_wonBy 4 = .ok (.aload_n 0, 1) := by decide +kernel
theorem dX10_wonBy_5 : decode cX10_wonBy 5 = .ok (.getfield 34, 3) := by decide +kernel
theorem dX10_wonBy_8 : decode cX10_wonBy 8 = .ok (.iload_n 3, 1) := by decide +kernel
theorem dX10_wonBy_9 : decode cX10_wonBy 9 = .ok (.laload, 1) := by decide +kernel
theorem dX10_wonBy_10 : decode cX10_wonBy 10 = .ok (.goto 12, 3) := by decide +kernel
theorem dX10_wonBy_13 : decode cX10_wonBy 13 = .ok (.aload_n 0, 1) := by decide +kernel
theorem dX10_wonBy_14 : decode cX10_wonBy 14 = .ok (.getfield 34, 3) := by decide +kernel
theorem dX10_wonBy_17 : decode cX10_wonBy 17 = .ok (.bipush 9, 2) := by decide +kernel
theorem dX10_wonBy_19 : decode cX10_wonBy 19 = .ok (.iload_n 2, 1) := by decide +kernel
theorem dX10_wonBy_20 : decode cX10_wonBy 20 = .ok (.imul, 1) := by decide +kernel
theorem dX10_wonBy_21 : decode cX10_wonBy 21 = .ok (.laload, 1) := by decide +kernel
theorem dX10_wonBy_22 : decode cX10_wonBy 22 = .ok (.lreturn, 1) := by decide +kernel
set_option maxRecDepth 20000 in
theorem ggX10_stand_X10_isMeaning : GoodIn wsX10_stand wsX10_isMeaning := goodIn_r _ [5, 6, 7, 8, 4, 9] (by decide +kernel) (by decide +kernel)
set_option maxRecDepth 20000 in
theorem gX10_stand_X10_isMeaning : GoodIn wsX10_stand (va_wsS RX10 159 yX10_isMeaning wsX10_isMeaning) := goodIn_app (goodIn_of _ (by decide +kernel)) ggX10_stand_X10_isMeaning
set_option maxRecDepth 20000 in
theorem ggX10_stand_X10_in : GoodIn wsX10_stand wsX10_in := goodIn_r _ [9] (by decide +kernel) (by decide +kernel)
set_option maxRecDepth 20000 in
theorem gX10_stand_X10_in : GoodIn wsX10_stand (va_wsS RX10 49 yX10_in wsX10_in) := goodIn_app (goodIn_of _ (by decide +kernel)) ggX10_stand_X10_in
set_option maxRecDepth 20000 in
theorem ggX10_stand_X10_isTold : GoodIn wsX10_stand wsX10_isTold := goodIn_r _ [13, 14, 15, 16, 4, 17, 18, 19, 20, 21, 22, 23, 24, 25, 26, 27, 28, 29, 30] (by decide +kernel) (by decide +kernel)
set_option maxRecDepth 20000 in
theorem gX10_stand_X10_isTold : GoodIn wsX10_stand (wsV RX10 132 RX10 yX10_isTold wsX10_isTold) := goodIn_app (goodIn_of _ (by decide +kernel)) ggX10_stand_X10_isTold
theorem dX10_stand_0 : decode cX10_stand 0 = .ok (.iload_n 1, 1) := by decide +kernel
theorem dX10_stand_1 : decode cX10_stand 1 = .ok (.invokestatic 159, 3) := by decide +kernel
theorem dX10_stand_4 : decode cX10_stand 4 = .ok (.ifCond .eq 13, 3) := by decide +kernel
theorem dX10_stand_7 : decode cX10_stand 7 = .ok (.iload_n 2, 1) := by decide +kernel
theorem dX10_stand_8 : decode cX10_stand 8 = .ok (.i2l, 1) := by decide +kernel
theorem dX10_stand_9 : decode cX10_stand 9 = .ok (.lconst 0, 1) := by decide +kernel
theorem dX10_stand_10 : decode cX10_stand 10 = .ok (.lconst 1, 1) := by decide +kernel
theorem dX10_stand_11 : decode cX10_stand 11 = .ok (.invokestatic 49, 3) := by decide +kernel
theorem dX10_stand_14 : decode cX10_stand 14 = .ok (.ifCond .ne 7, 3) := by decide +kernel
theorem dX10_stand_17 : decode cX10_stand 17 = .ok (.iconst (-1), 1) := by decide +kernel
theorem dX10_stand_18 : decode cX10_stand 18 = .ok (.goto 26, 3) := by decide +kernel
theorem dX10_stand_21 : decode cX10_stand 21 = .ok (.aload_n 0, 1) := by decide +kernel
theorem dX10_stand_22 : decode cX10_stand 22 = .ok (.iload_n 1, 1) := by decide +kernel
theorem dX10_stand_23 : decode cX10_stand 23 = .ok (.invokevirtual 132, 3) := by decide +kernel
theorem dX10_stand_26 : decode cX10_stand 26 = .ok (.ifCond .eq 16, 3) := by decide +kernel
theorem dX10_stand_29 : decode cX10_stand 29 = .ok (.aload_n 0, 1) := by decide +kernel
theorem dX10_stand_30 : decode cX10_stand 30 = .ok (.getfield 19, 3) := by decide +kernel
theorem dX10_stand_33 : decode cX10_stand 33 = .ok (.iconst 2, 1) := by decide +kernel
theorem dX10_stand_34 : decode cX10_stand 34 = .ok (.iload_n 1, 1) := by decide +kernel
theorem dX10_stand_35 : decode cX10_stand 35 = .ok (.imul, 1) := by decide +kernel
theorem dX10_stand_36 : decode cX10_stand 36 = .ok (.iload_n 2, 1) := by decide +kernel
theorem dX10_stand_37 : decode cX10_stand 37 = .ok (.iadd, 1) := by decide +kernel
theorem dX10_stand_38 : decode cX10_stand 38 = .ok (.iaload, 1) := by decide +kernel
theorem dX10_stand_39 : decode cX10_stand 39 = .ok (.goto 5, 3) := by decide +kernel
theorem dX10_stand_42 : decode cX10_stand 42 = .ok (.bipush (-2), 2) := by decide +kernel
theorem dX10_stand_44 : decode cX10_stand 44 = .ok (.ireturn, 1) := by decide +kernel
set_option maxRecDepth 20000 in
theorem ggX10_isStand_X10_in : GoodIn wsX10_isStand wsX10_in := goodIn_r _ [5] (by decide +kernel) (by decide +kernel)
set_option maxRecDepth 20000 in
theorem gX10_isStand_X10_in : GoodIn wsX10_isStand (va_wsS RX10 49 yX10_in wsX10_in) := goodIn_app (goodIn_of _ (by decide +kernel)) ggX10_isStand_X10_in
theorem dX10_isStand_0 : decode cX10_isStand 0 = .ok (.iload_n 1, 1) := by decide +kernel
theorem dX10_isStand_1 : decode cX10_isStand 1 = .ok (.i2l, 1) := by decide +kernel
theorem dX10_isStand_2 : decode cX10_isStand 2 = .ok (.lconst 0, 1) := by decide +kernel
theorem dX10_isStand_3 : decode cX10_isStand 3 = .ok (.aload_n 0, 1) := by decide +kernel
theorem dX10_isStand_4 : decode cX10_isStand 4 = .ok (.getfield 16, 3) := by decide +kernel
theorem dX10_isStand_7 : decode cX10_isStand 7 = .ok (.sipush 298, 3) := by decide +kernel
theorem dX10_isStand_10 : decode cX10_isStand 10 = .ok (.iaload, 1) := by decide +kernel
theorem dX10_isStand_11 : decode cX10_isStand 11 = .ok (.i2l, 1) := by decide +kernel
theorem dX10_isStand_12 : decode cX10_isStand 12 = .ok (.invokestatic 49, 3) := by decide +kernel
theorem dX10_isStand_15 : decode cX10_isStand 15 = .ok (.ifCond .eq 25, 3) := by decide +kernel
theorem dX10_isStand_18 : decode cX10_isStand 18 = .ok (.iload_n 2, 1) := by decide +kernel
theorem dX10_isStand_19 : decode cX10_isStand 19 = .ok (.i2l, 1) := by decide +kernel
theorem dX10_isStand_20 : decode cX10_isStand 20 = .ok (.lconst 0, 1) := by decide +kernel
theorem dX10_isStand_21 : decode cX10_isStand 21 = .ok (.aload_n 0, 1) := by decide +kernel
theorem dX10_isStand_22 : decode cX10_isStand 22 = .ok (.getfield 16, 3) := by decide +kernel
theorem dX10_isStand_25 : decode cX10_isStand 25 = .ok (.sipush 299, 3) := by decide +kernel
theorem dX10_isStand_28 : decode cX10_isStand 28 = .ok (.iaload, 1) := by decide +kernel
theorem dX10_isStand_29 : decode cX10_isStand 29 = .ok (.i2l, 1) := by decide +kernel
theorem dX10_isStand_30 : decode cX10_isStand 30 = .ok (.invokestatic 49, 3) := by decide +kernel
theorem dX10_isStand_33 : decode cX10_isStand 33 = .ok (.ifCond .eq 7, 3) := by decide +kernel
theorem dX10_isStand_36 : decode cX10_isStand 36 = .ok (.iconst 1, 1) := by decide +kernel
theorem dX10_isStand_37 : decode cX10_isStand 37 = .ok (.goto 4, 3) := by decide +kernel
theorem dX10_isStand_40 : decode cX10_isStand 40 = .ok (.iconst 0, 1) := by decide +kernel
theorem dX10_isStand_41 : decode cX10_isStand 41 = .ok (.ireturn, 1) := by decide +kernel
set_option maxRecDepth 20000 in
theorem ggX10_set_X10_isMeaning : GoodIn wsX10_set wsX10_isMeaning := goodIn_r _ [5, 6, 7, 8, 4, 9] (by decide +kernel) (by decide +kernel)
set_option maxRecDepth 20000 in
theorem gX10_set_X10_isMeaning : GoodIn wsX10_set (va_wsS RX10 159 yX10_isMeaning wsX10_isMeaning) := goodIn_app (goodIn_of _ (by decide +kernel)) ggX10_set_X10_isMeaning
set_option maxRecDepth 20000 in
theorem ggX10_set_X10_isStand : GoodIn wsX10_set wsX10_isStand := goodIn_r _ [13, 14, 7, 8, 4, 9, 22, 23, 24, 25, 26, 27, 28, 29, 30, 31, 32, 33, 34] (by decide +kernel) (by decide +kernel)
set_option maxRecDepth 20000 in
theorem gX10_set_X10_isStand : GoodIn wsX10_set (wsV RX10 185 RX10 yX10_isStand wsX10_isStand) := goodIn_app (goodIn_of _ (by decide +kernel)) ggX10_set_X10_isStand
set_option maxRecDepth 20000 in
theorem ggX10_set_X10_isTold : GoodIn wsX10_set wsX10_isTold := goodIn_r _ [18, 14, 19, 20, 4, 21, 22, 23, 24, 25, 26, 27, 28, 29, 30, 31, 32, 33, 34] (by decide +kernel) (by decide +kernel)
set_option maxRecDepth 20000 in
theorem gX10_set_X10_isTold : GoodIn wsX10_set (wsV RX10 132 RX10 yX10_isTold wsX10_isTold) := goodIn_app (goodIn_of _ (by decide +kernel)) ggX10_set_X10_isTold
theorem dX10_set_0 : decode cX10_set 0 = .ok (.iload_n 1, 1) := by decide +kernel
theorem dX10_set_1 : decode cX10_set 1 = .ok (.invokestatic 159, 3) := by decide +kernel
theorem dX10_set_4 : decode cX10_set 4 = .ok (.ifCond .eq 12, 3) := by decide +kernel
theorem dX10_set_7 : decode cX10_set 7 = .ok (.aload_n 0, 1) := by decide +kernel
theorem dX10_set_8 : decode cX10_set 8 = .ok (.iload_n 2, 1) := by decide +kernel
theorem dX10_set_9 : decode cX10_set 9 = .ok (.iload_n 3, 1) := by decide +kernel
theorem dX10_set_10 : decode cX10_set 10 = .ok (.invokevirtual 185, 3) := by decide +kernel
theorem dX10_set_13 : decode cX10_set 13 = .ok (.ifCond .ne 5, 3) := by decide +kernel
theorem dX10_set_16 : decode cX10_set 16 = .ok (.iconst (-1), 1) := by decide +kernel
theorem dX10_set_17 : decode cX10_set 17 = .ok (.ireturn, 1) := by decide +kernel
theorem dX10_set_18 : decode cX10_set 18 = .ok (.aload_n 0, 1) := by decide +kernel
theorem dX10_set_19 : decode cX10_set 19 = .ok (.iload_n 1, 1) := by decide +kernel
theorem dX10_set_20 : decode cX10_set 20 = .ok (.invokevirtual 132, 3) := by decide +kernel
theorem dX10_set_23 : decode cX10_set 23 = .ok (.ifCond .ne 6, 3) := by decide +kernel
theorem dX10_set_26 : decode cX10_set 26 = .ok (.bipush (-2), 2) := by decide +kernel
theorem dX10_set_28 : decode cX10_set 28 = .ok (.ireturn, 1) := by decide +kernel
theorem dX10_set_29 : decode cX10_set 29 = .ok (.aload_n 0, 1) := by decide +kernel
theorem dX10_set_30 : decode cX10_set 30 = .ok (.getfield 19, 3) := by decide +kernel
theorem dX10_set_33 : decode cX10_set 33 = .ok (.iconst 2, 1) := by decide +kernel
theorem dX10_set_34 : decode cX10_set 34 = .ok (.iload_n 1, 1) := by decide +kernel
theorem dX10_set_35 : decode cX10_set 35 = .ok (.imul, 1) := by decide +kernel
theorem dX10_set_36 : decode cX10_set 36 = .ok (.iload_n 2, 1) := by decide +kernel
theorem dX10_set_37 : decode cX10_set 37 = .ok (.iastore, 1) := by decide +kernel
theorem dX10_set_38 : decode cX10_set 38 = .ok (.aload_n 0, 1) := by decide +kernel
theorem dX10_set_39 : decode cX10_set 39 = .ok (.getfield 19, 3) := by decide +kernel
theorem dX10_set_42 : decode cX10_set 42 = .ok (.iconst 2, 1) := by decide +kernel
theorem dX10_set_43 : decode cX10_set 43 = .ok (.iload_n 1, 1) := by decide +kernel
theorem dX10_set_44 : decode cX10_set 44 = .ok (.imul, 1) := by decide +kernel
theorem dX10_set_45 : decode cX10_set 45 = .ok (.iconst 1, 1) := by decide +kernel
theorem dX10_set_46 : decode cX10_set 46 = .ok (.iadd, 1) := by decide +kernel
theorem dX10_set_47 : decode cX10_set 47 = .ok (.iload_n 3, 1) := by decide +kernel
theorem dX10_set_48 : decode cX10_set 48 = .ok (.iastore, 1) := by decide +kernel
theorem dX10_set_49 : decode cX10_set 49 = .ok (.iconst 1, 1) := by decide +kernel
theorem dX10_set_50 : decode cX10_set 50 = .ok (.ireturn, 1) := by decide +kernel
set_option maxRecDepth 20000 in
theorem ggX10_million_X10_isMeaning : GoodIn wsX10_million wsX10_isMeaning := goodIn_r _ [6, 7, 8, 9, 5, 10] (by decide +kernel) (by decide +kernel)
set_option maxRecDepth 20000 in
theorem gX10_million_X10_isMeaning : GoodIn wsX10_million (va_wsS RX10 159 yX10_isMeaning wsX10_isMeaning) := goodIn_app (goodIn_of _ (by decide +kernel)) ggX10_million_X10_isMeaning
set_option maxRecDepth 20000 in
theorem ggX10_million_X10_in : GoodIn wsX10_million wsX10_in := goodIn_r _ [10] (by decide +kernel) (by decide +kernel)
set_option maxRecDepth 20000 in
theorem gX10_million_X10_in : GoodIn wsX10_million (va_wsS RX10 49 yX10_in wsX10_in) := goodIn_app (goodIn_of _ (by decide +kernel)) ggX10_million_X10_in
set_option maxRecDepth 20000 in
theorem ggX10_million_X10_isStand : GoodIn wsX10_million wsX10_isStand := goodIn_r _ [14, 15, 8, 9, 5, 10, 76, 77, 78, 79, 80, 81, 82, 83, 84, 85, 86, 87, 88] (by decide +kernel) (by decide +kernel)
set_option maxRecDepth 20000 in
theorem gX10_million_X10_isStand : GoodIn wsX10_million (wsV RX10 185 RX10 yX10_isStand wsX10_isStand) := goodIn_app (goodIn_of _ (by decide +kernel)) ggX10_million_X10_isStand
set_option maxRecDepth 20000 in
theorem ggX10_million_X10_isTold : GoodIn wsX10_million wsX10_isTold := goodIn_r _ [19, 15, 20, 21, 5, 22, 76, 77, 78, 79, 80, 81, 82, 83, 84, 85, 86, 87, 88] (by decide +kernel) (by decide +kernel)
set_option maxRecDepth 20000 in
theorem gX10_million_X10_isTold : GoodIn wsX10_million (wsV RX10 132 RX10 yX10_isTold wsX10_isTold) := goodIn_app (goodIn_of _ (by decide +kernel)) ggX10_million_X10_isTold
set_option maxRecDepth 20000 in
theorem ggX10_million_X10_goAsTold : GoodIn wsX10_million wsX10_goAsTold := goodIn_r _ [26, 27, 15, 28, 29, 30, 5, 31, 2, 32, 33, 34, 35, 36, 37, 38, 39, 40, 41, 42, 43, 44, 45, 46, 20, 21, 22, 47, 48, 49, 50, 51, 52, 53, 54, 55, 56, 57, 58, 59, 60, 61, 62, 63, 64, 65, 66, 67, 68, 69, 70, 71, 72, 73, 74, 75, 76, 77, 78, 79, 80, 81, 82, 83, 84, 85, 86, 87, 88] (by decide +kernel) (by decide +kernel)
set_option maxRecDepth 20000 in
theorem gX10_million_X10_goAsTold : GoodIn wsX10_million (wsV RX10 190 RX10 yX10_goAsTold wsX10_goAsTold) := goodIn_app (goodIn_of _ (by decide +kernel)) ggX10_million_X10_goAsTold
theorem dX10_million_0 : decode cX10_million 0 = .ok (.iload_n 1, 1) := by decide +kernel
theorem dX10_million_1 : decode cX10_million 1 = .ok (.invokestatic 159, 3) := by decide +kernel
theorem dX10_million_4 : decode cX10_million 4 = .ok (.ifCond .eq 25, 3) := by decide +kernel
theorem dX10_million_7 : decode cX10_million 7 = .ok (.iload_n 2, 1) := by decide +kernel
theorem dX10_million_8 : decode cX10_million 8 = .ok (.i2l, 1) := by decide +kernel
theorem dX10_million_9 : decode cX10_million 9 = .ok (.lconst 0, 1) := by decide +kernel
theorem dX10_million_10 : decode cX10_million 10 = .ok (.ldc2_w 188, 3) := by decide +kernel
theorem dX10_million_13 : decode cX10_million 13 = .ok (.invokestatic 49, 3) := by decide +kernel
theorem dX10_million_16 : decode cX10_million 16 = .ok (.ifCond .eq 13, 3) := by decide +kernel
theorem dX10_million_19 : decode cX10_million 19 = .ok (.aload_n 0, 1) := by decide +kernel
theorem dX10_million_20 : decode cX10_million 20 = .ok (.iload_n 3, 1) := by decide +kernel
theorem dX10_million_21 : decode cX10_million 21 = .ok (.iload 4, 2) := by decide +kernel
theorem dX10_million_23 : decode cX10_million 23 = .ok (.invokevirtual 185, 3) := by decide +kernel
theorem dX10_million_26 : decode cX10_million 26 = .ok (.ifCond .ne 5, 3) := by decide +kernel
theorem dX10_million_29 : decode cX10_million 29 = .ok (.iconst (-1), 1) := by decide +kernel
theorem dX10_million_30 : decode cX10_million 30 = .ok (.ireturn, 1) := by decide +kernel
theorem dX10_million_31 : decode cX10_million 31 = .ok (.aload_n 0, 1) := by decide +kernel
theorem dX10_million_32 : decode cX10_million 32 = .ok (.iload_n 1, 1) := by decide +kernel
theorem dX10_million_33 : decode cX10_million 33 = .ok (.invokevirtual 132, 3) := by decide +kernel
theorem dX10_million_36 : decode cX10_million 36 = .ok (.ifCond .ne 6, 3) := by decide +kernel
theorem dX10_million_39 : decode cX10_million 39 = .ok (.bipush (-2), 2) := by decide +kernel
theorem dX10_million_41 : decode cX10_million 41 = .ok (.ireturn, 1) := by decide +kernel
theorem dX10_million_42 : decode cX10_million 42 = .ok (.aload_n 0, 1) := by decide +kernel
theorem dX10_million_43 : decode cX10_million 43 = .ok (.iload_n 1, 1) := by decide +kernel
theorem dX10_million_44 : decode cX10_million 44 = .ok (.iload_n 2, 1) := by decide +kernel
theorem dX10_million_45 : decode cX10_million 45 = .ok (.invokevirtual 190, 3) := by decide +kernel
theorem dX10_million_48 : decode cX10_million 48 = .ok (.aload_n 0, 1) := by decide +kernel
theorem dX10_million_49 : decode cX10_million 49 = .ok (.getfield 34, 3) := by decide +kernel
theorem dX10_million_52 : decode cX10_million 52 = .ok (.bipush 9, 2) := by decide +kernel
theorem dX10_million_54 : decode cX10_million 54 = .ok (.iload_n 3, 1) := by decide +kernel
theorem dX10_million_55 : decode cX10_million 55 = .ok (.imul, 1) := by decide +kernel
theorem dX10_million_56 : decode cX10_million 56 = .ok (.iload 4, 2) := by decide +kernel
theorem dX10_million_58 : decode cX10_million 58 = .ok (.iadd, 1) := by decide +kernel
theorem dX10_million_59 : decode cX10_million 59 = .ok (.laload, 1) := by decide +kernel
theorem dX10_million_60 : decode cX10_million 60 = .ok (.l2i, 1) := by decide +kernel
theorem dX10_million_61 : decode cX10_million 61 = .ok (.ireturn, 1) := by decide +kernel
set_option maxRecDepth 20000 in
theorem ggX10_won_X10_isMeaning : GoodIn wsX10_won wsX10_isMeaning := goodIn_r _ [6, 7, 8, 9, 5, 10] (by decide +kernel) (by decide +kernel)
set_option maxRecDepth 20000 in
theorem gX10_won_X10_isMeaning : GoodIn wsX10_won (va_wsS RX10 159 yX10_isMeaning wsX10_isMeaning) := goodIn_app (goodIn_of _ (by decide +kernel)) ggX10_won_X10_isMeaning
set_option maxRecDepth 20000 in
theorem ggX10_won_X10_in : GoodIn wsX10_won wsX10_in := goodIn_r _ [10] (by decide +kernel) (by decide +kernel)
set_option maxRecDepth 20000 in
theorem gX10_won_X10_in : GoodIn wsX10_won (va_wsS RX10 49 yX10_in wsX10_in) := goodIn_app (goodIn_of _ (by decide +kernel)) ggX10_won_X10_in
set_option maxRecDepth 20000 in
theorem ggX10_won_X10_isTold : GoodIn wsX10_won wsX10_isTold := goodIn_r _ [14, 2, 15, 16, 5, 17, 76, 77, 78, 79, 80, 81, 82, 83, 84, 85, 86, 87, 88] (by decide +kernel) (by decide +kernel)
set_option maxRecDepth 20000 in
theorem gX10_won_X10_isTold : GoodIn wsX10_won (wsV RX10 132 RX10 yX10_isTold wsX10_isTold) := goodIn_app (goodIn_of _ (by decide +kernel)) ggX10_won_X10_isTold
set_option maxRecDepth 20000 in
theorem ggX10_won_X10_goAsTold : GoodIn wsX10_won wsX10_goAsTold := goodIn_r _ [21, 22, 2, 23, 24, 25, 5, 26, 27, 28, 29, 30, 31, 32, 33, 34, 35, 36, 37, 38, 39, 40, 41, 42, 15, 16, 17, 43, 44, 45, 46, 47, 48, 49, 50, 51, 52, 53, 54, 55, 56, 57, 58, 59, 60, 61, 62, 63, 64, 65, 66, 67, 68, 69, 70, 71, 76, 77, 78, 79, 80, 81, 82, 83, 84, 85, 86, 87, 88] (by decide +kernel) (by decide +kernel)
set_option maxRecDepth 20000 in
theorem gX10_won_X10_goAsTold : GoodIn wsX10_won (wsV RX10 190 RX10 yX10_goAsTold wsX10_goAsTold) := goodIn_app (goodIn_of _ (by decide +kernel)) ggX10_won_X10_goAsTold
set_option maxRecDepth 20000 in
theorem ggX10_won_X10_wonBy : GoodIn wsX10_won wsX10_wonBy := goodIn_r _ [75, 27, 76, 77, 78, 79, 80, 81, 82, 83, 84, 85, 86, 87, 88] (by decide +kernel) (by decide +kernel)
set_option maxRecDepth 20000 in
theorem gX10_won_X10_wonBy : GoodIn wsX10_won (wsV RX10 193 RX10 yX10_wonBy wsX10_wonBy) := goodIn_app (goodIn_of _ (by decide +kernel)) ggX10_won_X10_wonBy
theorem dX10_won_0 : decode cX10_won 0 = .ok (.iload_n 1, 1) := by decide +kernel
theorem dX10_won_1 : decode cX10_won 1 = .ok (.invokestatic 159, 3) := by decide +kernel
theorem dX10_won_4 : decode cX10_won 4 = .ok (.ifCond .eq 25, 3) := by decide +kernel
theorem dX10_won_7 : decode cX10_won 7 = .ok (.iload_n 2, 1) := by decide +kernel
theorem dX10_won_8 : decode cX10_won 8 = .ok (.i2l, 1) := by decide +kernel
theorem dX10_won_9 : decode cX10_won 9 = .ok (.lconst 0, 1) := by decide +kernel
theorem dX10_won_10 : decode cX10_won 10 = .ok (.ldc2_w 188, 3) := by decide +kernel
theorem dX10_won_13 : decode cX10_won 13 = .ok (.invokestatic 49, 3) := by decide +kernel
theorem dX10_won_16 : decode cX10_won 16 = .ok (.ifCond .eq 13, 3) := by decide +kernel
theorem dX10_won_19 : decode cX10_won 19 = .ok (.iload_n 3, 1) := by decide +kernel
theorem dX10_won_20 : decode cX10_won 20 = .ok (.i2l, 1) := by decide +kernel
theorem dX10_won_21 : decode cX10_won 21 = .ok (.lconst 0, 1) := by decide +kernel
theorem dX10_won_22 : decode cX10_won 22 = .ok (.lconst 1, 1) := by decide +kernel
theorem dX10_won_23 : decode cX10_won 23 = .ok (.invokestatic 49, 3) := by decide +kernel
theorem dX10_won_26 : decode cX10_won 26 = .ok (.ifCond .ne 5, 3) := by decide +kernel
theorem dX10_won_29 : decode cX10_won 29 = .ok (.iconst (-1), 1) := by decide +kernel
theorem dX10_won_30 : decode cX10_won 30 = .ok (.ireturn, 1) := by decide +kernel
theorem dX10_won_31 : decode cX10_won 31 = .ok (.aload_n 0, 1) := by decide +kernel
theorem dX10_won_32 : decode cX10_won 32 = .ok (.iload_n 1, 1) := by decide +kernel
theorem dX10_won_33 : decode cX10_won 33 = .ok (.invokevirtual 132, 3) := by decide +kernel
theorem dX10_won_36 : decode cX10_won 36 = .ok (.ifCond .ne 6, 3) := by decide +kernel
theorem dX10_won_39 : decode cX10_won 39 = .ok (.bipush (-2), 2) := by decide +kernel
theorem dX10_won_41 : decode cX10_won 41 = .ok (.ireturn, 1) := by decide +kernel
theorem dX10_won_42 : decode cX10_won 42 = .ok (.aload_n 0, 1) := by decide +kernel
theorem dX10_won_43 : decode cX10_won 43 = .ok (.iload_n 1, 1) := by decide +kernel
theorem dX10_won_44 : decode cX10_won 44 = .ok (.iload_n 2, 1) := by decide +kernel
theorem dX10_won_45 : decode cX10_won 45 = .ok (.invokevirtual 190, 3) := by decide +kernel
theorem dX10_won_48 : decode cX10_won 48 = .ok (.aload_n 0, 1) := by decide +kernel
theorem dX10_won_49 : decode cX10_won 49 = .ok (.iload_n 3, 1) := by decide +kernel
theorem dX10_won_50 : decode cX10_won 50 = .ok (.aload_n 0, 1) := by decide +kernel
theorem dX10_won_51 : decode cX10_won 51 = .ok (.getfield 16, 3) := by decide +kernel
theorem dX10_won_54 : decode cX10_won 54 = .ok (.sipush 298, 3) := by decide +kernel
theorem dX10_won_57 : decode cX10_won 57 = .ok (.iaload, 1) := by decide +kernel
theorem dX10_won_58 : decode cX10_won 58 = .ok (.aload_n 0, 1) := by decide +kernel
theorem dX10_won_59 : decode cX10_won 59 = .ok (.getfield 16, 3) := by decide +kernel
theorem dX10_won_62 : decode cX10_won 62 = .ok (.sipush 299, 3) := by decide +kernel
theorem dX10_won_65 : decode cX10_won 65 = .ok (.iaload, 1) := by decide +kernel
theorem dX10_won_66 : decode cX10_won 66 = .ok (.invokevirtual 193, 3) := by decide +kernel
theorem dX10_won_69 : decode cX10_won 69 = .ok (.l2i, 1) := by decide +kernel
theorem dX10_won_70 : decode cX10_won 70 = .ok (.ireturn, 1) := by decide +kernel
theorem dX10_isEnough_0 : decode cX10_isEnough 0 = .ok (.lload_n 0, 1) := by decide +kernel
theorem dX10_isEnough_1 : decode cX10_isEnough 1 = .ok (.ldc2_w 168, 3) := by decide +kernel
theorem dX10_isEnough_4 : decode cX10_isEnough 4 = .ok (.lmul, 1) := by decide +kernel
theorem dX10_isEnough_5 : decode cX10_isEnough 5 = .ok (.iload_n 2, 1) := by decide +kernel
theorem dX10_isEnough_6 : decode cX10_isEnough 6 = .ok (.i2l, 1) := by decide +kernel
theorem dX10_isEnough_7 : decode cX10_isEnough 7 = .ok (.ldc2_w 166, 3) := by decide +kernel
theorem dX10_isEnough_10 : decode cX10_isEnough 10 = .ok (.lmul, 1) := by decide +kernel
theorem dX10_isEnough_11 : decode cX10_isEnough 11 = .ok (.lcmp, 1) := by decide +kernel
theorem dX10_isEnough_12 : decode cX10_isEnough 12 = .ok (.ifCond .lt 7, 3) := by decide +kernel
theorem dX10_isEnough_15 : decode cX10_isEnough 15 = .ok (.iconst 1, 1) := by decide +kernel
theorem dX10_isEnough_16 : decode cX10_isEnough 16 = .ok (.goto 4, 3) := by decide +kernel
theorem dX10_isEnough_19 : decode cX10_isEnough 19 = .ok (.iconst 0, 1) := by decide +kernel
theorem dX10_isEnough_20 : decode cX10_isEnough 20 = .ok (.ireturn, 1) := by decide +kernel
set_option maxRecDepth 20000 in
theorem ggX10_soon_X10_isMeaning : GoodIn wsX10_soon wsX10_isMeaning := goodIn_r _ [6, 7, 8, 9, 5, 10] (by decide +kernel) (by decide +kernel)
set_option maxRecDepth 20000 in
theorem gX10_soon_X10_isMeaning : GoodIn wsX10_soon (va_wsS RX10 159 yX10_isMeaning wsX10_isMeaning) := goodIn_app (goodIn_of _ (by decide +kernel)) ggX10_soon_X10_isMeaning
set_option maxRecDepth 20000 in
theorem ggX10_soon_X10_in : GoodIn wsX10_soon wsX10_in := goodIn_r _ [10] (by decide +kernel) (by decide +kernel)
set_option maxRecDepth 20000 in
theorem gX10_soon_X10_in : GoodIn wsX10_soon (va_wsS RX10 49 yX10_in wsX10_in) := goodIn_app (goodIn_of _ (by decide +kernel)) ggX10_soon_X10_in
set_option maxRecDepth 20000 in
theorem ggX10_soon_X10_isTold : GoodIn wsX10_soon wsX10_isTold := goodIn_r _ [14, 2, 15, 16, 5, 17, 78, 79, 80, 81, 82, 83, 84, 85, 86, 87, 88, 89, 90] (by decide +kernel) (by decide +kernel)
set_option maxRecDepth 20000 in
theorem gX10_soon_X10_isTold : GoodIn wsX10_soon (wsV RX10 132 RX10 yX10_isTold wsX10_isTold) := goodIn_app (goodIn_of _ (by decide +kernel)) ggX10_soon_X10_isTold
set_option maxRecDepth 20000 in
theorem ggX10_soon_X10_goAsTold : GoodIn wsX10_soon wsX10_goAsTold := goodIn_r _ [21, 22, 2, 23, 24, 25, 5, 26, 27, 28, 29, 30, 31, 32, 33, 34, 35, 36, 37, 38, 39, 40, 41, 42, 15, 16, 17, 43, 44, 45, 46, 47, 48, 49, 50, 51, 52, 53, 54, 55, 56, 57, 58, 59, 60, 61, 62, 63, 64, 65, 66, 67, 68, 69, 70, 1, 78, 79, 80, 81, 82, 83, 84, 85, 86, 87, 88, 89, 90] (by decide +kernel) (by decide +kernel)
set_option maxRecDepth 20000 in
theorem gX10_soon_X10_goAsTold : GoodIn wsX10_soon (wsV RX10 190 RX10 yX10_goAsTold wsX10_goAsTold) := goodIn_app (goodIn_of _ (by decide +kernel)) ggX10_soon_X10_goAsTold
set_option maxRecDepth 20000 in
theorem ggX10_soon_X10_wonBy : GoodIn wsX10_soon wsX10_wonBy := goodIn_r _ [74, 27, 78, 79, 80, 81, 82, 83, 84, 85, 86, 87, 88, 89, 90] (by decide +kernel) (by decide +kernel)
set_option maxRecDepth 20000 in
theorem gX10_soon_X10_wonBy : GoodIn wsX10_soon (wsV RX10 193 RX10 yX10_wonBy wsX10_wonBy) := goodIn_app (goodIn_of _ (by decide +kernel)) ggX10_soon_X10_wonBy
set_option maxRecDepth 20000 in
theorem ggX10_soon_X10_isEnough : GoodIn wsX10_soon wsX10_isEnough := goodIn_r _ [77, 1, 28] (by decide +kernel) (by decide +kernel)
set_option maxRecDepth 20000 in
theorem gX10_soon_X10_isEnough : GoodIn wsX10_soon (va_wsS RX10 197 yX10_isEnough wsX10_isEnough) := goodIn_app (goodIn_of _ (by decide +kernel)) ggX10_soon_X10_isEnough
set_option maxRecDepth 20000 in
theorem ggX10_soon_X10_goOn : GoodIn wsX10_soon wsX10_goOn := goodIn_r _ [32, 33, 34, 35, 5, 36, 2, 37, 38, 39, 40, 41, 42, 15, 16, 17, 43, 44, 45, 46, 47, 48, 49, 50, 51, 52, 53, 54, 55, 56, 57, 58, 59, 60, 61, 62, 63, 64, 65, 66, 67, 68, 69, 70, 27, 1, 78, 79, 80, 81, 82, 83, 84, 85, 86, 87, 88, 89, 90] (by decide +kernel) (by decide +kernel)
set_option maxRecDepth 20000 in
theorem gX10_soon_X10_goOn : GoodIn wsX10_soon (wsV RX10 181 RX10 yX10_goOn wsX10_goOn) := goodIn_app (goodIn_of _ (by decide +kernel)) ggX10_soon_X10_goOn
theorem dX10_soon_0 : decode cX10_soon 0 = .ok (.iload_n 1, 1) := by decide +kernel
theorem dX10_soon_1 : decode cX10_soon 1 = .ok (.invokestatic 159, 3) := by decide +kernel
theorem dX10_soon_4 : decode cX10_soon 4 = .ok (.ifCond .eq 15, 3) := by decide +kernel
theorem dX10_soon_7 : decode cX10_soon 7 = .ok (.iload_n 2, 1) := by decide +kernel
theorem dX10_soon_8 : decode cX10_soon 8 = .ok (.i2l, 1) := by decide +kernel
theorem dX10_soon_9 : decode cX10_soon 9 = .ok (.lconst 1, 1) := by decide +kernel
theorem dX10_soon_10 : decode cX10_soon 10 = .ok (.ldc2_w 168, 3) := by decide +kernel
theorem dX10_soon_13 : decode cX10_soon 13 = .ok (.invokestatic 49, 3) := by decide +kernel
theorem dX10_soon_16 : decode cX10_soon 16 = .ok (.ifCond .ne 5, 3) := by decide +kernel
theorem dX10_soon_19 : decode cX10_soon 19 = .ok (.iconst (-1), 1) := by decide +kernel
theorem dX10_soon_20 : decode cX10_soon 20 = .ok (.ireturn, 1) := by decide +kernel
theorem dX10_soon_21 : decode cX10_soon 21 = .ok (.aload_n 0, 1) := by decide +kernel
theorem dX10_soon_22 : decode cX10_soon 22 = .ok (.iload_n 1, 1) := by decide +kernel
theorem dX10_soon_23 : decode cX10_soon 23 = .ok (.invokevirtual 132, 3) := by decide +kernel
theorem dX10_soon_26 : decode cX10_soon 26 = .ok (.ifCond .ne 6, 3) := by decide +kernel
theorem dX10_soon_29 : decode cX10_soon 29 = .ok (.bipush (-2), 2) := by decide +kernel
theorem dX10_soon_31 : decode cX10_soon 31 = .ok (.ireturn, 1) := by decide +kernel
theorem dX10_soon_32 : decode cX10_soon 32 = .ok (.aload_n 0, 1) := by decide +kernel
theorem dX10_soon_33 : decode cX10_soon 33 = .ok (.iload_n 1, 1) := by decide +kernel
theorem dX10_soon_34 : decode cX10_soon 34 = .ok (.iconst 0, 1) := by decide +kernel
theorem dX10_soon_35 : decode cX10_soon 35 = .ok (.invokevirtual 190, 3) := by decide +kernel
theorem dX10_soon_38 : decode cX10_soon 38 = .ok (.iconst 0, 1) := by decide +kernel
theorem dX10_soon_39 : decode cX10_soon 39 = .ok (.istore_n 3, 1) := by decide +kernel
theorem dX10_soon_40 : decode cX10_soon 40 = .ok (.iload_n 3, 1) := by decide +kernel
theorem dX10_soon_41 : decode cX10_soon 41 = .ok (.sipush 200, 3) := by decide +kernel
theorem dX10_soon_44 : decode cX10_soon 44 = .ok (.if_icmp .gt 99, 3) := by decide +kernel
theorem dX10_soon_47 : decode cX10_soon 47 = .ok (.aload_n 0, 1) := by decide +kernel
theorem dX10_soon_48 : decode cX10_soon 48 = .ok (.iconst 0, 1) := by decide +kernel
theorem dX10_soon_49 : decode cX10_soon 49 = .ok (.aload_n 0, 1) := by decide +kernel
theorem dX10_soon_50 : decode cX10_soon 50 = .ok (.getfield 16, 3) := by decide +kernel
theorem dX10_soon_53 : decode cX10_soon 53 = .ok (.sipush 298, 3) := by decide +kernel
theorem dX10_soon_56 : decode cX10_soon 56 = .ok (.iaload, 1) := by decide +kernel
theorem dX10_soon_57 : decode cX10_soon 57 = .ok (.aload_n 0, 1) := by decide +kernel
theorem dX10_soon_58 : decode cX10_soon 58 = .ok (.getfield 16, 3) := by decide +kernel
theorem dX10_soon_61 : decode cX10_soon 61 = .ok (.sipush 299, 3) := by decide +kernel
theorem dX10_soon_64 : decode cX10_soon 64 = .ok (.iaload, 1) := by decide +kernel
theorem dX10_soon_65 : decode cX10_soon 65 = .ok (.invokevirtual 193, 3) := by decide +kernel
theorem dX10_soon_68 : decode cX10_soon 68 = .ok (.aload_n 0, 1) := by decide +kernel
theorem dX10_soon_69 : decode cX10_soon 69 = .ok (.iconst 1, 1) := by decide +kernel
theorem dX10_soon_70 : decode cX10_soon 70 = .ok (.aload_n 0, 1) := by decide +kernel
theorem dX10_soon_71 : decode cX10_soon 71 = .ok (.getfield 16, 3) := by decide +kernel
theorem dX10_soon_74 : decode cX10_soon 74 = .ok (.sipush 298, 3) := by decide +kernel
theorem dX10_soon_77 : decode cX10_soon 77 = .ok (.iaload, 1) := by decide +kernel
theorem dX10_soon_78 : decode cX10_soon 78 = .ok (.aload_n 0, 1) := by decide +kernel
theorem dX10_soon_79 : decode cX10_soon 79 = .ok (.getfield 16, 3) := by decide +kernel
theorem dX10_soon_82 : decode cX10_soon 82 = .ok (.sipush 299, 3) := by decide +kernel
theorem dX10_soon_85 : decode cX10_soon 85 = .ok (.iaload, 1) := by decide +kernel
theorem dX10_soon_86 : decode cX10_soon 86 = .ok (.invokevirtual 193, 3) := by decide +kernel
theorem dX10_soon_89 : decode cX10_soon 89 = .ok (.ladd, 1) := by decide +kernel
theorem dX10_soon_90 : decode cX10_soon 90 = .ok (.iload_n 2, 1) := by decide +kernel
theorem dX10_soon_91 : decode cX10_soon 91 = .ok (.invokestatic 197, 3) := by decide +kernel
theorem dX10_soon_94 : decode cX10_soon 94 = .ok (.ifCond .eq 5, 3) := by decide +kernel
theorem dX10_soon_97 : decode cX10_soon 97 = .ok (.iload_n 3, 1) := by decide +kernel
theorem dX10_soon_98 : decode cX10_soon 98 = .ok (.ireturn, 1) := by decide +kernel
theorem dX10_soon_99 : decode cX10_soon 99 = .ok (.aload_n 0, 1) := by decide +kernel
theorem dX10_soon_100 : decode cX10_soon 100 = .ok (.iload_n 1, 1) := by decide +kernel
theorem dX10_soon_101 : decode cX10_soon 101 = .ok (.iconst 1, 1) := by decide +kernel
theorem dX10_soon_102 : decode cX10_soon 102 = .ok (.aload_n 0, 1) := by decide +kernel
theorem dX10_soon_103 : decode cX10_soon 103 = .ok (.getfield 16, 3) := by decide +kernel
theorem dX10_soon_106 : decode cX10_soon 106 = .ok (.sipush 298, 3) := by decide +kernel
theorem dX10_soon_109 : decode cX10_soon 109 = .ok (.iaload, 1) := by decide +kernel
theorem dX10_soon_110 : decode cX10_soon 110 = .ok (.aload_n 0, 1) := by decide +kernel
theorem dX10_soon_111 : decode cX10_soon 111 = .ok (.getfield 16, 3) := by decide +kernel
theorem dX10_soon_114 : decode cX10_soon 114 = .ok (.sipush 299, 3) := by decide +kernel
theorem dX10_soon_117 : decode cX10_soon 117 = .ok (.iaload, 1) := by decide +kernel
theorem dX10_soon_118 : decode cX10_soon 118 = .ok (.aload_n 0, 1) := by decide +kernel
theorem dX10_soon_119 : decode cX10_soon 119 = .ok (.getfield 16, 3) := by decide +kernel
theorem dX10_soon_122 : decode cX10_soon 122 = .ok (.sipush 300, 3) := by decide +kernel
theorem dX10_soon_125 : decode cX10_soon 125 = .ok (.iaload, 1) := by decide +kernel
theorem dX10_soon_126 : decode cX10_soon 126 = .ok (.aload_n 0, 1) := by decide +kernel
theorem dX10_soon_127 : decode cX10_soon 127 = .ok (.getfield 16, 3) := by decide +kernel
theorem dX10_soon_130 : decode cX10_soon 130 = .ok (.sipush 301, 3) := by decide +kernel
theorem dX10_soon_133 : decode cX10_soon 133 = .ok (.iaload, 1) := by decide +kernel
theorem dX10_soon_134 : decode cX10_soon 134 = .ok (.invokevirtual 181, 3) := by decide +kernel
theorem dX10_soon_137 : decode cX10_soon 137 = .ok (.iinc 3 1, 3) := by decide +kernel
theorem dX10_soon_140 : decode cX10_soon 140 = .ok (.goto (-100), 3) := by decide +kernel
theorem dX10_soon_143 : decode cX10_soon 143 = .ok (.bipush (-4), 2) := by decide +kernel
theorem dX10_soon_145 : decode cX10_soon 145 = .ok (.ireturn, 1) := by decide +kernel
set_option maxRecDepth 20000 in
theorem ggX10_use_X10_isMeaning : GoodIn wsX10_use wsX10_isMeaning := goodIn_r _ [8, 9, 10, 11, 7, 12] (by decide +kernel) (by decide +kernel)
set_option maxRecDepth 20000 in
theorem gX10_use_X10_isMeaning : GoodIn wsX10_use (va_wsS RX10 159 yX10_isMeaning wsX10_isMeaning) := goodIn_app (goodIn_of _ (by decide +kernel)) ggX10_use_X10_isMeaning
set_option maxRecDepth 20000 in
theorem ggX10_use_X10_in : GoodIn wsX10_use wsX10_in := goodIn_r _ [12] (by decide +kernel) (by decide +kernel)
set_option maxRecDepth 20000 in
theorem gX10_use_X10_in : GoodIn wsX10_use (va_wsS RX10 49 yX10_in wsX10_in) := goodIn_app (goodIn_of _ (by decide +kernel)) ggX10_use_X10_in
set_option maxRecDepth 20000 in
theorem ggX10_use_X10_isTold : GoodIn wsX10_use wsX10_isTold := goodIn_r _ [16, 2, 17, 18, 7, 19, 73, 74, 75, 76, 77, 78, 79, 80, 81, 82, 83, 84, 85] (by decide +kernel) (by decide +kernel)
set_option maxRecDepth 20000 in
theorem gX10_use_X10_isTold : GoodIn wsX10_use (wsV RX10 132 RX10 yX10_isTold wsX10_isTold) := goodIn_app (goodIn_of _ (by decide +kernel)) ggX10_use_X10_isTold
set_option maxRecDepth 20000 in
theorem ggX10_use_X10_goAsTold : GoodIn wsX10_use wsX10_goAsTold := goodIn_r _ [23, 24, 2, 25, 26, 27, 7, 28, 3, 29, 30, 31, 32, 33, 34, 35, 36, 37, 38, 39, 40, 41, 42, 43, 17, 18, 19, 44, 45, 46, 47, 48, 49, 50, 51, 52, 53, 54, 55, 56, 57, 58, 59, 60, 61, 62, 63, 64, 65, 66, 67, 68, 69, 70, 71, 72, 73, 74, 75, 76, 77, 78, 79, 80, 81, 82, 83, 84, 85] (by decide +kernel) (by decide +kernel)
set_option maxRecDepth 20000 in
theorem gX10_use_X10_goAsTold : GoodIn wsX10_use (wsV RX10 190 RX10 yX10_goAsTold wsX10_goAsTold) := goodIn_app (goodIn_of _ (by decide +kernel)) ggX10_use_X10_goAsTold
theorem dX10_use_0 : decode cX10_use 0 = .ok (.iload_n 1, 1) := by decide +kernel
theorem dX10_use_1 : decode cX10_use 1 = .ok (.invokestatic 159, 3) := by decide +kernel
theorem dX10_use_4 : decode cX10_use 4 = .ok (.ifCond .eq 15, 3) := by decide +kernel
theorem dX10_use_7 : decode cX10_use 7 = .ok (.iload_n 2, 1) := by decide +kernel
theorem dX10_use_8 : decode cX10_use 8 = .ok (.i2l, 1) := by decide +kernel
theorem dX10_use_9 : decode cX10_use 9 = .ok (.lconst 0, 1) := by decide +kernel
theorem dX10_use_10 : decode cX10_use 10 = .ok (.ldc2_w 188, 3) := by decide +kernel
theorem dX10_use_13 : decode cX10_use 13 = .ok (.invokestatic 49, 3) := by decide +kernel
theorem dX10_use_16 : decode cX10_use 16 = .ok (.ifCond .ne 5, 3) := by decide +kernel
theorem dX10_use_19 : decode cX10_use 19 = .ok (.iconst (-1), 1) := by decide +kernel
theorem dX10_use_20 : decode cX10_use 20 = .ok (.ireturn, 1) := by decide +kernel
theorem dX10_use_21 : decode cX10_use 21 = .ok (.aload_n 0, 1) := by decide +kernel
theorem dX10_use_22 : decode cX10_use 22 = .ok (.iload_n 1, 1) := by decide +kernel
theorem dX10_use_23 : decode cX10_use 23 = .ok (.invokevirtual 132, 3) := by decide +kernel
theorem dX10_use_26 : decode cX10_use 26 = .ok (.ifCond .ne 6, 3) := by decide +kernel
theorem dX10_use_29 : decode cX10_use 29 = .ok (.bipush (-2), 2) := by decide +kernel
theorem dX10_use_31 : decode cX10_use 31 = .ok (.ireturn, 1) := by decide +kernel
theorem dX10_use_32 : decode cX10_use 32 = .ok (.aload_n 0, 1) := by decide +kernel
theorem dX10_use_33 : decode cX10_use 33 = .ok (.iload_n 1, 1) := by decide +kernel
theorem dX10_use_34 : decode cX10_use 34 = .ok (.iload_n 2, 1) := by decide +kernel
theorem dX10_use_35 : decode cX10_use 35 = .ok (.invokevirtual 190, 3) := by decide +kernel
theorem dX10_use_38 : decode cX10_use 38 = .ok (.lconst 0, 1) := by decide +kernel
theorem dX10_use_39 : decode cX10_use 39 = .ok (.lstore_n 3, 1) := by decide +kernel
theorem dX10_use_40 : decode cX10_use 40 = .ok (.iconst 0, 1) := by decide +kernel
theorem dX10_use_41 : decode cX10_use 41 = .ok (.istore 5, 2) := by decide +kernel
theorem dX10_use_43 : decode cX10_use 43 = .ok (.iload 5, 2) := by decide +kernel
theorem dX10_use_45 : decode cX10_use 45 = .ok (.aload_n 0, 1) := by decide +kernel
theorem dX10_use_46 : decode cX10_use 46 = .ok (.getfield 16, 3) := by decide +kernel
theorem dX10_use_49 : decode cX10_use 49 = .ok (.sipush 298, 3) := by decide +kernel
theorem dX10_use_52 : decode cX10_use 52 = .ok (.iaload, 1) := by decide +kernel
theorem dX10_use_53 : decode cX10_use 53 = .ok (.if_icmp .gt 63, 3) := by decide +kernel
theorem dX10_use_56 : decode cX10_use 56 = .ok (.iconst 0, 1) := by decide +kernel
theorem dX10_use_57 : decode cX10_use 57 = .ok (.istore 6, 2) := by decide +kernel
theorem dX10_use_59 : decode cX10_use 59 = .ok (.iload 6, 2) := by decide +kernel
theorem dX10_use_61 : decode cX10_use 61 = .ok (.aload_n 0, 1) := by decide +kernel
theorem dX10_use_62 : decode cX10_use 62 = .ok (.getfield 16, 3) := by decide +kernel
theorem dX10_use_65 : decode cX10_use 65 = .ok (.sipush 299, 3) := by decide +kernel
theorem dX10_use_68 : decode cX10_use 68 = .ok (.iaload, 1) := by decide +kernel
theorem dX10_use_69 : decode cX10_use 69 = .ok (.if_icmp .gt 41, 3) := by decide +kernel
theorem dX10_use_72 : decode cX10_use 72 = .ok (.lload_n 3, 1) := by decide +kernel
theorem dX10_use_73 : decode cX10_use 73 = .ok (.aload_n 0, 1) := by decide +kernel
theorem dX10_use_74 : decode cX10_use 74 = .ok (.getfield 16, 3) := by decide +kernel
theorem dX10_use_77 : decode cX10_use 77 = .ok (.sipush 298, 3) := by decide +kernel
theorem dX10_use_80 : decode cX10_use 80 = .ok (.iaload, 1) := by decide +kernel
theorem dX10_use_81 : decode cX10_use 81 = .ok (.iload 5, 2) := by decide +kernel
theorem dX10_use_83 : decode cX10_use 83 = .ok (.isub, 1) := by decide +kernel
theorem dX10_use_84 : decode cX10_use 84 = .ok (.iload 6, 2) := by decide +kernel
theorem dX10_use_86 : decode cX10_use 86 = .ok (.iadd, 1) := by decide +kernel
theorem dX10_use_87 : decode cX10_use 87 = .ok (.i2l, 1) := by decide +kernel
theorem dX10_use_88 : decode cX10_use 88 = .ok (.aload_n 0, 1) := by decide +kernel
theorem dX10_use_89 : decode cX10_use 89 = .ok (.getfield 34, 3) := by decide +kernel
theorem dX10_use_92 : decode cX10_use 92 = .ok (.bipush 9, 2) := by decide +kernel
theorem dX10_use_94 : decode cX10_use 94 = .ok (.iload 5, 2) := by decide +kernel
theorem dX10_use_96 : decode cX10_use 96 = .ok (.imul, 1) := by decide +kernel
theorem dX10_use_97 : decode cX10_use 97 = .ok (.iload 6, 2) := by decide +kernel
theorem dX10_use_99 : decode cX10_use 99 = .ok (.iadd, 1) := by decide +kernel
theorem dX10_use_100 : decode cX10_use 100 = .ok (.laload, 1) := by decide +kernel
theorem dX10_use_101 : decode cX10_use 101 = .ok (.lmul, 1) := by decide +kernel
theorem dX10_use_102 : decode cX10_use 102 = .ok (.ladd, 1) := by decide +kernel
theorem dX10_use_103 : decode cX10_use 103 = .ok (.lstore_n 3, 1) := by decide +kernel
theorem dX10_use_104 : decode cX10_use 104 = .ok (.iinc 6 1, 3) := by decide +kernel
theorem dX10_use_107 : decode cX10_use 107 = .ok (.goto (-48), 3) := by decide +kernel
theorem dX10_use_110 : decode cX10_use 110 = .ok (.iinc 5 1, 3) := by decide +kernel
theorem dX10_use_113 : decode cX10_use 113 = .ok (.goto (-70), 3) := by decide +kernel
theorem dX10_use_116 : decode cX10_use 116 = .ok (.lload_n 3, 1) := by decide +kernel
theorem dX10_use_117 : decode cX10_use 117 = .ok (.ldc2_w 201, 3) := by decide +kernel
theorem dX10_use_120 : decode cX10_use 120 = .ok (.ldiv, 1) := by decide +kernel
theorem dX10_use_121 : decode cX10_use 121 = .ok (.l2i, 1) := by decide +kernel
theorem dX10_use_122 : decode cX10_use 122 = .ok (.ireturn, 1) := by decide +kernel
set_option maxRecDepth 20000 in
theorem ggX10_traders_X10_isMeaning : GoodIn wsX10_traders wsX10_isMeaning := goodIn_r _ [7, 8, 9, 10, 6, 11] (by decide +kernel) (by decide +kernel)
set_option maxRecDepth 20000 in
theorem gX10_traders_X10_isMeaning : GoodIn wsX10_traders (va_wsS RX10 159 yX10_isMeaning wsX10_isMeaning) := goodIn_app (goodIn_of _ (by decide +kernel)) ggX10_traders_X10_isMeaning
set_option maxRecDepth 20000 in
theorem ggX10_traders_X10_in : GoodIn wsX10_traders wsX10_in := goodIn_r _ [11] (by decide +kernel) (by decide +kernel)
set_option maxRecDepth 20000 in
theorem gX10_traders_X10_in : GoodIn wsX10_traders (va_wsS RX10 49 yX10_in wsX10_in) := goodIn_app (goodIn_of _ (by decide +kernel)) ggX10_traders_X10_in
set_option maxRecDepth 20000 in
theorem ggX10_traders_X10_isTold : GoodIn wsX10_traders wsX10_isTold := goodIn_r _ [15, 3, 16, 17, 6, 18, 74, 75, 76, 77, 78, 79, 80, 81, 82, 83, 84, 85, 86] (by decide +kernel) (by decide +kernel)
set_option maxRecDepth 20000 in
theorem gX10_traders_X10_isTold : GoodIn wsX10_traders (wsV RX10 132 RX10 yX10_isTold wsX10_isTold) := goodIn_app (goodIn_of _ (by decide +kernel)) ggX10_traders_X10_isTold
set_option maxRecDepth 20000 in
theorem ggX10_traders_X10_beginAt : GoodIn wsX10_traders wsX10_beginAt := goodIn_r _ [22, 23, 24, 74, 75, 76, 77, 78, 79, 80, 81, 82, 83, 84, 85, 86] (by decide +kernel) (by decide +kernel)
set_option maxRecDepth 20000 in
theorem gX10_traders_X10_beginAt : GoodIn wsX10_traders (wsV RX10 177 RX10 yX10_beginAt wsX10_beginAt) := goodIn_app (goodIn_of _ (by decide +kernel)) ggX10_traders_X10_beginAt
set_option maxRecDepth 20000 in
theorem ggX10_traders_X10_goOn : GoodIn wsX10_traders wsX10_goOn := goodIn_r _ [28, 29, 30, 31, 6, 32, 3, 33, 34, 35, 36, 37, 38, 16, 17, 18, 39, 40, 41, 42, 43, 44, 45, 46, 47, 48, 49, 50, 51, 52, 53, 54, 55, 56, 57, 58, 59, 60, 61, 62, 63, 64, 65, 66, 23, 2, 74, 75, 76, 77, 78, 79, 80, 81, 82, 83, 84, 85, 86] (by decide +kernel) (by decide +kernel)
set_option maxRecDepth 20000 in
theorem gX10_traders_X10_goOn : GoodIn wsX10_traders (wsV RX10 181 RX10 yX10_goOn wsX10_goOn) := goodIn_app (goodIn_of _ (by decide +kernel)) ggX10_traders_X10_goOn
set_option maxRecDepth 20000 in
theorem ggX10_traders_X10_wonBy : GoodIn wsX10_traders wsX10_wonBy := goodIn_r _ [70, 23, 74, 75, 76, 77, 78, 79, 80, 81, 82, 83, 84, 85, 86] (by decide +kernel) (by decide +kernel)
set_option maxRecDepth 20000 in
theorem gX10_traders_X10_wonBy : GoodIn wsX10_traders (wsV RX10 193 RX10 yX10_wonBy wsX10_wonBy) := goodIn_app (goodIn_of _ (by decide +kernel)) ggX10_traders_X10_wonBy
set_option maxRecDepth 20000 in
theorem ggX10_traders_X10_isEnough : GoodIn wsX10_traders wsX10_isEnough := goodIn_r _ [73, 2, 24] (by decide +kernel) (by decide +kernel)
set_option maxRecDepth 20000 in
theorem gX10_traders_X10_isEnough : GoodIn wsX10_traders (va_wsS RX10 197 yX10_isEnough wsX10_isEnough) := goodIn_app (goodIn_of _ (by decide +kernel)) ggX10_traders_X10_isEnough
theorem dX10_traders_0 : decode cX10_traders 0 = .ok (.iload_n 1, 1) := by decide +kernel
theorem dX10_traders_1 : decode cX10_traders 1 = .ok (.invokestatic 159, 3) := by decide +kernel
theorem dX10_traders_4 : decode cX10_traders 4 = .ok (.ifCond .eq 38, 3) := by decide +kernel
theorem dX10_traders_7 : decode cX10_traders 7 = .ok (.iload_n 2, 1) := by decide +kernel
theorem dX10_traders_8 : decode cX10_traders 8 = .ok (.i2l, 1) := by decide +kernel
theorem dX10_traders_9 : decode cX10_traders 9 = .ok (.lconst 0, 1) := by decide +kernel
theorem dX10_traders_10 : decode cX10_traders 10 = .ok (.ldc2_w 188, 3) := by decide +kernel
theorem dX10_traders_13 : decode cX10_traders 13 = .ok (.invokestatic 49, 3) := by decide +kernel
theorem dX10_traders_16 : decode cX10_traders 16 = .ok (.ifCond .eq 26, 3) := by decide +kernel
theorem dX10_traders_19 : decode cX10_traders 19 = .ok (.iload_n 3, 1) := by decide +kernel
theorem dX10_traders_20 : decode cX10_traders 20 = .ok (.i2l, 1) := by decide +kernel
theorem dX10_traders_21 : decode cX10_traders 21 = .ok (.lconst 0, 1) := by decide +kernel
theorem dX10_traders_22 : decode cX10_traders 22 = .ok (.lconst 1, 1) := by decide +kernel
theorem dX10_traders_23 : decode cX10_traders 23 = .ok (.invokestatic 49, 3) := by decide +kernel
theorem dX10_traders_26 : decode cX10_traders 26 = .ok (.ifCond .eq 16, 3) := by decide +kernel
theorem dX10_traders_29 : decode cX10_traders 29 = .ok (.iload 4, 2) := by decide +kernel
theorem dX10_traders_31 : decode cX10_traders 31 = .ok (.i2l, 1) := by decide +kernel
theorem dX10_traders_32 : decode cX10_traders 32 = .ok (.lconst 1, 1) := by decide +kernel
theorem dX10_traders_33 : decode cX10_traders 33 = .ok (.ldc2_w 168, 3) := by decide +kernel
theorem dX10_traders_36 : decode cX10_traders 36 = .ok (.invokestatic 49, 3) := by decide +kernel
theorem dX10_traders_39 : decode cX10_traders 39 = .ok (.ifCond .ne 5, 3) := by decide +kernel
theorem dX10_traders_42 : decode cX10_traders 42 = .ok (.iconst (-1), 1) := by decide +kernel
theorem dX10_traders_43 : decode cX10_traders 43 = .ok (.ireturn, 1) := by decide +kernel
theorem dX10_traders_44 : decode cX10_traders 44 = .ok (.aload_n 0, 1) := by decide +kernel
theorem dX10_traders_45 : decode cX10_traders 45 = .ok (.iload_n 1, 1) := by decide +kernel
theorem dX10_traders_46 : decode cX10_traders 46 = .ok (.invokevirtual 132, 3) := by decide +kernel
theorem dX10_traders_49 : decode cX10_traders 49 = .ok (.ifCond .ne 6, 3) := by decide +kernel
theorem dX10_traders_52 : decode cX10_traders 52 = .ok (.bipush (-2), 2) := by decide +kernel
theorem dX10_traders_54 : decode cX10_traders 54 = .ok (.ireturn, 1) := by decide +kernel
theorem dX10_traders_55 : decode cX10_traders 55 = .ok (.iconst 1, 1) := by decide +kernel
theorem dX10_traders_56 : decode cX10_traders 56 = .ok (.istore 5, 2) := by decide +kernel
theorem dX10_traders_58 : decode cX10_traders 58 = .ok (.iload 5, 2) := by decide +kernel
theorem dX10_traders_60 : decode cX10_traders 60 = .ok (.bipush 8, 2) := by decide +kernel
theorem dX10_traders_62 : decode cX10_traders 62 = .ok (.if_icmp .gt 61, 3) := by decide +kernel
theorem dX10_traders_65 : decode cX10_traders 65 = .ok (.aload_n 0, 1) := by decide +kernel
theorem dX10_traders_66 : decode cX10_traders 66 = .ok (.iconst 0, 1) := by decide +kernel
theorem dX10_traders_67 : decode cX10_traders 67 = .ok (.iconst 0, 1) := by decide +kernel
theorem dX10_traders_68 : decode cX10_traders 68 = .ok (.invokevirtual 177, 3) := by decide +kernel
theorem dX10_traders_71 : decode cX10_traders 71 = .ok (.aload_n 0, 1) := by decide +kernel
theorem dX10_traders_72 : decode cX10_traders 72 = .ok (.iload_n 1, 1) := by decide +kernel
theorem dX10_traders_73 : decode cX10_traders 73 = .ok (.iload_n 2, 1) := by decide +kernel
theorem dX10_traders_74 : decode cX10_traders 74 = .ok (.iload 5, 2) := by decide +kernel
theorem dX10_traders_76 : decode cX10_traders 76 = .ok (.iload 5, 2) := by decide +kernel
theorem dX10_traders_78 : decode cX10_traders 78 = .ok (.aload_n 0, 1) := by decide +kernel
theorem dX10_traders_79 : decode cX10_traders 79 = .ok (.getfield 16, 3) := by decide +kernel
theorem dX10_traders_82 : decode cX10_traders 82 = .ok (.sipush 300, 3) := by decide +kernel
theorem dX10_traders_85 : decode cX10_traders 85 = .ok (.iaload, 1) := by decide +kernel
theorem dX10_traders_86 : decode cX10_traders 86 = .ok (.aload_n 0, 1) := by decide +kernel
theorem dX10_traders_87 : decode cX10_traders 87 = .ok (.getfield 16, 3) := by decide +kernel
theorem dX10_traders_90 : decode cX10_traders 90 = .ok (.sipush 301, 3) := by decide +kernel
theorem dX10_traders_93 : decode cX10_traders 93 = .ok (.iaload, 1) := by decide +kernel
theorem dX10_traders_94 : decode cX10_traders 94 = .ok (.invokevirtual 181, 3) := by decide +kernel
theorem dX10_traders_97 : decode cX10_traders 97 = .ok (.aload_n 0, 1) := by decide +kernel
theorem dX10_traders_98 : decode cX10_traders 98 = .ok (.iload_n 3, 1) := by decide +kernel
theorem dX10_traders_99 : decode cX10_traders 99 = .ok (.iload 5, 2) := by decide +kernel
theorem dX10_traders_101 : decode cX10_traders 101 = .ok (.iload 5, 2) := by decide +kernel
theorem dX10_traders_103 : decode cX10_traders 103 = .ok (.invokevirtual 193, 3) := by decide +kernel
theorem dX10_traders_106 : decode cX10_traders 106 = .ok (.iload 4, 2) := by decide +kernel
theorem dX10_traders_108 : decode cX10_traders 108 = .ok (.invokestatic 197, 3) := by decide +kernel
theorem dX10_traders_111 : decode cX10_traders 111 = .ok (.ifCond .eq 6, 3) := by decide +kernel
theorem dX10_traders_114 : decode cX10_traders 114 = .ok (.iload 5, 2) := by decide +kernel
theorem dX10_traders_116 : decode cX10_traders 116 = .ok (.ireturn, 1) := by decide +kernel
theorem dX10_traders_117 : decode cX10_traders 117 = .ok (.iinc 5 1, 3) := by decide +kernel
theorem dX10_traders_120 : decode cX10_traders 120 = .ok (.goto (-62), 3) := by decide +kernel
theorem dX10_traders_123 : decode cX10_traders 123 = .ok (.bipush (-4), 2) := by decide +kernel
theorem dX10_traders_125 : decode cX10_traders 125 = .ok (.ireturn, 1) := by decide +kernel
set_option maxRecDepth 20000 in
theorem ggX10_ready_X10_isMeaning : GoodIn wsX10_ready wsX10_isMeaning := goodIn_r _ [8, 9, 10, 11, 7, 12] (by decide +kernel) (by decide +kernel)
set_option maxRecDepth 20000 in
theorem gX10_ready_X10_isMeaning : GoodIn wsX10_ready (va_wsS RX10 159 yX10_isMeaning wsX10_isMeaning) := goodIn_app (goodIn_of _ (by decide +kernel)) ggX10_ready_X10_isMeaning
set_option maxRecDepth 20000 in
theorem ggX10_ready_X10_in : GoodIn wsX10_ready wsX10_in := goodIn_r _ [12] (by decide +kernel) (by decide +kernel)
set_option maxRecDepth 20000 in
theorem gX10_ready_X10_in : GoodIn wsX10_ready (va_wsS RX10 49 yX10_in wsX10_in) := goodIn_app (goodIn_of _ (by decide +kernel)) ggX10_ready_X10_in
set_option maxRecDepth 20000 in
theorem ggX10_ready_X10_isTold : GoodIn wsX10_ready wsX10_isTold := goodIn_r _ [16, 4, 17, 18, 7, 19, 75, 76, 77, 78, 79, 80, 81, 82, 83, 84, 85, 86, 87] (by decide +kernel) (by decide +kernel)
set_option maxRecDepth 20000 in
theorem gX10_ready_X10_isTold : GoodIn wsX10_ready (wsV RX10 132 RX10 yX10_isTold wsX10_isTold) := goodIn_app (goodIn_of _ (by decide +kernel)) ggX10_ready_X10_isTold
set_option maxRecDepth 20000 in
theorem ggX10_ready_X10_beginAt : GoodIn wsX10_ready wsX10_beginAt := goodIn_r _ [23, 24, 25, 75, 76, 77, 78, 79, 80, 81, 82, 83, 84, 85, 86, 87] (by decide +kernel) (by decide +kernel)
set_option maxRecDepth 20000 in
theorem gX10_ready_X10_beginAt : GoodIn wsX10_ready (wsV RX10 177 RX10 yX10_beginAt wsX10_beginAt) := goodIn_app (goodIn_of _ (by decide +kernel)) ggX10_ready_X10_beginAt
set_option maxRecDepth 20000 in
theorem ggX10_ready_X10_goOn : GoodIn wsX10_ready wsX10_goOn := goodIn_r _ [29, 30, 31, 32, 7, 33, 4, 34, 35, 36, 37, 38, 39, 17, 18, 19, 40, 41, 42, 43, 44, 45, 46, 47, 48, 49, 50, 51, 52, 53, 54, 55, 56, 57, 58, 59, 60, 61, 62, 63, 64, 65, 66, 67, 24, 2, 75, 76, 77, 78, 79, 80, 81, 82, 83, 84, 85, 86, 87] (by decide +kernel) (by decide +kernel)
set_option maxRecDepth 20000 in
theorem gX10_ready_X10_goOn : GoodIn wsX10_ready (wsV RX10 181 RX10 yX10_goOn wsX10_goOn) := goodIn_app (goodIn_of _ (by decide +kernel)) ggX10_ready_X10_goOn
set_option maxRecDepth 20000 in
theorem ggX10_ready_X10_wonBy : GoodIn wsX10_ready wsX10_wonBy := goodIn_r _ [71, 24, 75, 76, 77, 78, 79, 80, 81, 82, 83, 84, 85, 86, 87] (by decide +kernel) (by decide +kernel)
set_option maxRecDepth 20000 in
theorem gX10_ready_X10_wonBy : GoodIn wsX10_ready (wsV RX10 193 RX10 yX10_wonBy wsX10_wonBy) := goodIn_app (goodIn_of _ (by decide +kernel)) ggX10_ready_X10_wonBy
set_option maxRecDepth 20000 in
theorem ggX10_ready_X10_isEnough : GoodIn wsX10_ready wsX10_isEnough := goodIn_r _ [74, 2, 25] (by decide +kernel) (by decide +kernel)
set_option maxRecDepth 20000 in
theorem gX10_ready_X10_isEnough : GoodIn wsX10_ready (va_wsS RX10 197 yX10_isEnough wsX10_isEnough) := goodIn_app (goodIn_of _ (by decide +kernel)) ggX10_ready_X10_isEnough
theorem dX10_ready_0 : decode cX10_ready 0 = .ok (.iload_n 1, 1) := by decide +kernel
theorem dX10_ready_1 : decode cX10_ready 1 = .ok (.invokestatic 159, 3) := by decide +kernel
theorem dX10_ready_4 : decode cX10_ready 4 = .ok (.ifCond .eq 38, 3) := by decide +kernel
theorem dX10_ready_7 : decode cX10_ready 7 = .ok (.iload_n 2, 1) := by decide +kernel
theorem dX10_ready_8 : decode cX10_ready 8 = .ok (.i2l, 1) := by decide +kernel
theorem dX10_ready_9 : decode cX10_ready 9 = .ok (.lconst 0, 1) := by decide +kernel
theorem dX10_ready_10 : decode cX10_ready 10 = .ok (.ldc2_w 188, 3) := by decide +kernel
theorem dX10_ready_13 : decode cX10_ready 13 = .ok (.invokestatic 49, 3) := by decide +kernel
theorem dX10_ready_16 : decode cX10_ready 16 = .ok (.ifCond .eq 26, 3) := by decide +kernel
theorem dX10_ready_19 : decode cX10_ready 19 = .ok (.iload_n 3, 1) := by decide +kernel
theorem dX10_ready_20 : decode cX10_ready 20 = .ok (.i2l, 1) := by decide +kernel
theorem dX10_ready_21 : decode cX10_ready 21 = .ok (.lconst 0, 1) := by decide +kernel
theorem dX10_ready_22 : decode cX10_ready 22 = .ok (.lconst 1, 1) := by decide +kernel
theorem dX10_ready_23 : decode cX10_ready 23 = .ok (.invokestatic 49, 3) := by decide +kernel
theorem dX10_ready_26 : decode cX10_ready 26 = .ok (.ifCond .eq 16, 3) := by decide +kernel
theorem dX10_ready_29 : decode cX10_ready 29 = .ok (.iload 4, 2) := by decide +kernel
theorem dX10_ready_31 : decode cX10_ready 31 = .ok (.i2l, 1) := by decide +kernel
theorem dX10_ready_32 : decode cX10_ready 32 = .ok (.lconst 1, 1) := by decide +kernel
theorem dX10_ready_33 : decode cX10_ready 33 = .ok (.ldc2_w 168, 3) := by decide +kernel
theorem dX10_ready_36 : decode cX10_ready 36 = .ok (.invokestatic 49, 3) := by decide +kernel
theorem dX10_ready_39 : decode cX10_ready 39 = .ok (.ifCond .ne 5, 3) := by decide +kernel
theorem dX10_ready_42 : decode cX10_ready 42 = .ok (.iconst (-1), 1) := by decide +kernel
theorem dX10_ready_43 : decode cX10_ready 43 = .ok (.ireturn, 1) := by decide +kernel
theorem dX10_ready_44 : decode cX10_ready 44 = .ok (.aload_n 0, 1) := by decide +kernel
theorem dX10_ready_45 : decode cX10_ready 45 = .ok (.iload_n 1, 1) := by decide +kernel
theorem dX10_ready_46 : decode cX10_ready 46 = .ok (.invokevirtual 132, 3) := by decide +kernel
theorem dX10_ready_49 : decode cX10_ready 49 = .ok (.ifCond .ne 6, 3) := by decide +kernel
theorem dX10_ready_52 : decode cX10_ready 52 = .ok (.bipush (-2), 2) := by decide +kernel
theorem dX10_ready_54 : decode cX10_ready 54 = .ok (.ireturn, 1) := by decide +kernel
theorem dX10_ready_55 : decode cX10_ready 55 = .ok (.iconst 0, 1) := by decide +kernel
theorem dX10_ready_56 : decode cX10_ready 56 = .ok (.istore 5, 2) := by decide +kernel
theorem dX10_ready_58 : decode cX10_ready 58 = .ok (.iload 5, 2) := by decide +kernel
theorem dX10_ready_60 : decode cX10_ready 60 = .ok (.bipush 10, 2) := by decide +kernel
theorem dX10_ready_62 : decode cX10_ready 62 = .ok (.if_icmp .gt 89, 3) := by decide +kernel
theorem dX10_ready_65 : decode cX10_ready 65 = .ok (.aload_n 0, 1) := by decide +kernel
theorem dX10_ready_66 : decode cX10_ready 66 = .ok (.aload_n 0, 1) := by decide +kernel
theorem dX10_ready_67 : decode cX10_ready 67 = .ok (.getfield 19, 3) := by decide +kernel
theorem dX10_ready_70 : decode cX10_ready 70 = .ok (.iconst 2, 1) := by decide +kernel
theorem dX10_ready_71 : decode cX10_ready 71 = .ok (.iload_n 1, 1) := by decide +kernel
theorem dX10_ready_72 : decode cX10_ready 72 = .ok (.imul, 1) := by decide +kernel
theorem dX10_ready_73 : decode cX10_ready 73 = .ok (.iaload, 1) := by decide +kernel
theorem dX10_ready_74 : decode cX10_ready 74 = .ok (.aload_n 0, 1) := by decide +kernel
theorem dX10_ready_75 : decode cX10_ready 75 = .ok (.getfield 19, 3) := by decide +kernel
theorem dX10_ready_78 : decode cX10_ready 78 = .ok (.iconst 2, 1) := by decide +kernel
theorem dX10_ready_79 : decode cX10_ready 79 = .ok (.iload_n 1, 1) := by decide +kernel
theorem dX10_ready_80 : decode cX10_ready 80 = .ok (.imul, 1) := by decide +kernel
theorem dX10_ready_81 : decode cX10_ready 81 = .ok (.iconst 1, 1) := by decide +kernel
theorem dX10_ready_82 : decode cX10_ready 82 = .ok (.iadd, 1) := by decide +kernel
theorem dX10_ready_83 : decode cX10_ready 83 = .ok (.iaload, 1) := by decide +kernel
theorem dX10_ready_84 : decode cX10_ready 84 = .ok (.invokevirtual 177, 3) := by decide +kernel
theorem dX10_ready_87 : decode cX10_ready 87 = .ok (.aload_n 0, 1) := by decide +kernel
theorem dX10_ready_88 : decode cX10_ready 88 = .ok (.iload_n 1, 1) := by decide +kernel
theorem dX10_ready_89 : decode cX10_ready 89 = .ok (.iload_n 2, 1) := by decide +kernel
theorem dX10_ready_90 : decode cX10_ready 90 = .ok (.aload_n 0, 1) := by decide +kernel
theorem dX10_ready_91 : decode cX10_ready 91 = .ok (.getfield 16, 3) := by decide +kernel
theorem dX10_ready_94 : decode cX10_ready 94 = .ok (.sipush 298, 3) := by decide +kernel
theorem dX10_ready_97 : decode cX10_ready 97 = .ok (.iaload, 1) := by decide +kernel
theorem dX10_ready_98 : decode cX10_ready 98 = .ok (.aload_n 0, 1) := by decide +kernel
theorem dX10_ready_99 : decode cX10_ready 99 = .ok (.getfield 16, 3) := by decide +kernel
theorem dX10_ready_102 : decode cX10_ready 102 = .ok (.sipush 299, 3) := by decide +kernel
theorem dX10_ready_105 : decode cX10_ready 105 = .ok (.iaload, 1) := by decide +kernel
theorem dX10_ready_106 : decode cX10_ready 106 = .ok (.iload 5, 2) := by decide +kernel
theorem dX10_ready_108 : decode cX10_ready 108 = .ok (.iload 5, 2) := by decide +kernel
theorem dX10_ready_110 : decode cX10_ready 110 = .ok (.invokevirtual 181, 3) := by decide +kernel
theorem dX10_ready_113 : decode cX10_ready 113 = .ok (.aload_n 0, 1) := by decide +kernel
theorem dX10_ready_114 : decode cX10_ready 114 = .ok (.iload_n 3, 1) := by decide +kernel
theorem dX10_ready_115 : decode cX10_ready 115 = .ok (.aload_n 0, 1) := by decide +kernel
theorem dX10_ready_116 : decode cX10_ready 116 = .ok (.getfield 16, 3) := by decide +kernel
theorem dX10_ready_119 : decode cX10_ready 119 = .ok (.sipush 298, 3) := by decide +kernel
theorem dX10_ready_122 : decode cX10_ready 122 = .ok (.iaload, 1) := by decide +kernel
theorem dX10_ready_123 : decode cX10_ready 123 = .ok (.aload_n 0, 1) := by decide +kernel
theorem dX10_ready_124 : decode cX10_ready 124 = .ok (.getfield 16, 3) := by decide +kernel
theorem dX10_ready_127 : decode cX10_ready 127 = .ok (.sipush 299, 3) := by decide +kernel
theorem dX10_ready_130 : decode cX10_ready 130 = .ok (.iaload, 1) := by decide +kernel
theorem dX10_ready_131 : decode cX10_ready 131 = .ok (.invokevirtual 193, 3) := by decide +kernel
theorem dX10_ready_134 : decode cX10_ready 134 = .ok (.iload 4, 2) := by decide +kernel
theorem dX10_ready_136 : decode cX10_ready 136 = .ok (.invokestatic 197, 3) := by decide +kernel
theorem dX10_ready_139 : decode cX10_ready 139 = .ok (.ifCond .eq 6, 3) := by decide +kernel
theorem dX10_ready_142 : decode cX10_ready 142 = .ok (.iload 5, 2) := by decide +kernel
theorem dX10_ready_144 : decode cX10_ready 144 = .ok (.ireturn, 1) := by decide +kernel
theorem dX10_ready_145 : decode cX10_ready 145 = .ok (.iinc 5 1, 3) := by decide +kernel
theorem dX10_ready_148 : decode cX10_ready 148 = .ok (.goto (-90), 3) := by decide +kernel
theorem dX10_ready_151 : decode cX10_ready 151 = .ok (.bipush (-4), 2) := by decide +kernel
theorem dX10_ready_153 : decode cX10_ready 153 = .ok (.ireturn, 1) := by decide +kernel
theorem dX10_draw_0 : decode cX10_draw 0 = .ok (.ldc2_w 203, 3) := by decide +kernel
theorem dX10_draw_3 : decode cX10_draw 3 = .ok (.iload_n 0, 1) := by decide +kernel
theorem dX10_draw_4 : decode cX10_draw 4 = .ok (.i2l, 1) := by decide +kernel
theorem dX10_draw_5 : decode cX10_draw 5 = .ok (.lmul, 1) := by decide +kernel
theorem dX10_draw_6 : decode cX10_draw 6 = .ok (.ldc2_w 205, 3) := by decide +kernel
theorem dX10_draw_9 : decode cX10_draw 9 = .ok (.iload_n 2, 1) := by decide +kernel
theorem dX10_draw_10 : decode cX10_draw 10 = .ok (.i2l, 1) := by decide +kernel
theorem dX10_draw_11 : decode cX10_draw 11 = .ok (.lmul, 1) := by decide +kernel
theorem dX10_draw_12 : decode cX10_draw 12 = .ok (.ladd, 1) := by decide +kernel
theorem dX10_draw_13 : decode cX10_draw 13 = .ok (.ldc2_w 207, 3) := by decide +kernel
theorem dX10_draw_16 : decode cX10_draw 16 = .ok (.iload_n 3, 1) := by decide +kernel
theorem dX10_draw_17 : decode cX10_draw 17 = .ok (.i2l, 1) := by decide +kernel
theorem dX10_draw_18 : decode cX10_draw 18 = .ok (.lmul, 1) := by decide +kernel
theorem dX10_draw_19 : decode cX10_draw 19 = .ok (.ladd, 1) := by decide +kernel
theorem dX10_draw_20 : decode cX10_draw 20 = .ok (.ldc2_w 209, 3) := by decide +kernel
theorem dX10_draw_23 : decode cX10_draw 23 = .ok (.iload_n 1, 1) := by decide +kernel
theorem dX10_draw_24 : decode cX10_draw 24 = .ok (.i2l, 1) := by decide +kernel
theorem dX10_draw_25 : decode cX10_draw 25 = .ok (.lmul, 1) := by decide +kernel
theorem dX10_draw_26 : decode cX10_draw 26 = .ok (.ladd, 1) := by decide +kernel
theorem dX10_draw_27 : decode cX10_draw 27 = .ok (.lconst 1, 1) := by decide +kernel
theorem dX10_draw_28 : decode cX10_draw 28 = .ok (.ladd, 1) := by decide +kernel
theorem dX10_draw_29 : decode cX10_draw 29 = .ok (.lstore 4, 2) := by decide +kernel
theorem dX10_draw_31 : decode cX10_draw 31 = .ok (.lload 4, 2) := by decide +kernel
theorem dX10_draw_33 : decode cX10_draw 33 = .ok (.lload 4, 2) := by decide +kernel
theorem dX10_draw_35 : decode cX10_draw 35 = .ok (.lmul, 1) := by decide +kernel
theorem dX10_draw_36 : decode cX10_draw 36 = .ok (.ldc2_w 211, 3) := by decide +kernel
theorem dX10_draw_39 : decode cX10_draw 39 = .ok (.lrem, 1) := by decide +kernel
theorem dX10_draw_40 : decode cX10_draw 40 = .ok (.l2i, 1) := by decide +kernel
theorem dX10_draw_41 : decode cX10_draw 41 = .ok (.ireturn, 1) := by decide +kernel
