set_option maxRecDepth 20000 in
theorem ggX4_leastSet_J6_bitCount_0f7a4 : GoodIn wsX4_leastSet wsJ6_bitCount_0f7a4 := goodIn_r _ [5, 6, 7, 8] (by decide +kernel) (by decide +kernel)
set_option maxRecDepth 20000 in
theorem gX4_leastSet_J6_bitCount_0f7a4 : GoodIn wsX4_leastSet (va_wsS RX4 38 yJ6_bitCount_0f7a4 wsJ6_bitCount_0f7a4) := goodIn_app (goodIn_of _ (by decide +kernel)) ggX4_leastSet_J6_bitCount_0f7a4
set_option maxRecDepth 20000 in
theorem ggX4_leastSet_X4_sayableBy : GoodIn wsX4_leastSet wsX4_sayableBy := goodIn_r _ [13, 14, 15, 16, 17, 18, 19, 20, 21, 22, 23, 24, 25] (by decide +kernel) (by decide +kernel)
set_option maxRecDepth 20000 in
theorem gX4_leastSet_X4_sayableBy : GoodIn wsX4_leastSet (wsV RX4 44 RX4 yX4_sayableBy wsX4_sayableBy) := goodIn_app (goodIn_of _ (by decide +kernel)) ggX4_leastSet_X4_sayableBy
theorem dX4_leastSet_0 : decode cX4_leastSet 0 = .ok (.sipush 255, 3) := by decide +kernel
theorem dX4_leastSet_3 : decode cX4_leastSet 3 = .ok (.istore_n 1, 1) := by decide +kernel
theorem dX4_leastSet_4 : decode cX4_leastSet 4 = .ok (.iload_n 1, 1) := by decide +kernel
theorem dX4_leastSet_5 : decode cX4_leastSet 5 = .ok (.istore_n 2, 1) := by decide +kernel
theorem dX4_leastSet_6 : decode cX4_leastSet 6 = .ok (.iconst 0, 1) := by decide +kernel
theorem dX4_leastSet_7 : decode cX4_leastSet 7 = .ok (.istore_n 3, 1) := by decide +kernel
theorem dX4_leastSet_8 : decode cX4_leastSet 8 = .ok (.iload_n 3, 1) := by decide +kernel
theorem dX4_leastSet_9 : decode cX4_leastSet 9 = .ok (.iload_n 1, 1) := by decide +kernel
theorem dX4_leastSet_10 : decode cX4_leastSet 10 = .ok (.if_icmp .ge 37, 3) := by decide +kernel
theorem dX4_leastSet_13 : decode cX4_leastSet 13 = .ok (.iload_n 3, 1) := by decide +kernel
theorem dX4_leastSet_14 : decode cX4_leastSet 14 = .ok (.invokestatic 38, 3) := by decide +kernel
theorem dX4_leastSet_17 : decode cX4_leastSet 17 = .ok (.iload_n 2, 1) := by decide +kernel
theorem dX4_leastSet_18 : decode cX4_leastSet 18 = .ok (.invokestatic 38, 3) := by decide +kernel
theorem dX4_leastSet_21 : decode cX4_leastSet 21 = .ok (.if_icmp .ge 20, 3) := by decide +kernel
theorem dX4_leastSet_24 : decode cX4_leastSet 24 = .ok (.aload_n 0, 1) := by decide +kernel
theorem dX4_leastSet_25 : decode cX4_leastSet 25 = .ok (.getfield 25, 3) := by decide +kernel
theorem dX4_leastSet_28 : decode cX4_leastSet 28 = .ok (.aload_n 0, 1) := by decide +kernel
theorem dX4_leastSet_29 : decode cX4_leastSet 29 = .ok (.iload_n 3, 1) := by decide +kernel
theorem dX4_leastSet_30 : decode cX4_leastSet 30 = .ok (.invokevirtual 44, 3) := by decide +kernel
theorem dX4_leastSet_33 : decode cX4_leastSet 33 = .ok (.iconst (-1), 1) := by decide +kernel
theorem dX4_leastSet_34 : decode cX4_leastSet 34 = .ok (.ixor, 1) := by decide +kernel
theorem dX4_leastSet_35 : decode cX4_leastSet 35 = .ok (.iand, 1) := by decide +kernel
theorem dX4_leastSet_36 : decode cX4_leastSet 36 = .ok (.ifCond .ne 5, 3) := by decide +kernel
theorem dX4_leastSet_39 : decode cX4_leastSet 39 = .ok (.iload_n 3, 1) := by decide +kernel
theorem dX4_leastSet_40 : decode cX4_leastSet 40 = .ok (.istore_n 2, 1) := by decide +kernel
theorem dX4_leastSet_41 : decode cX4_leastSet 41 = .ok (.iinc 3 1, 3) := by decide +kernel
theorem dX4_leastSet_44 : decode cX4_leastSet 44 = .ok (.goto (-36), 3) := by decide +kernel
theorem dX4_leastSet_47 : decode cX4_leastSet 47 = .ok (.iload_n 2, 1) := by decide +kernel
theorem dX4_leastSet_48 : decode cX4_leastSet 48 = .ok (.ireturn, 1) := by decide +kernel
theorem dX5_at_0 : decode cX5_at 0 = .ok (.iload_n 1, 1) := by decide +kernel
theorem dX5_at_1 : decode cX5_at 1 = .ok (.ifCond .lt 15, 3) := by decide +kernel
theorem dX5_at_4 : decode cX5_at 4 = .ok (.iload_n 1, 1) := by decide +kernel
theorem dX5_at_5 : decode cX5_at 5 = .ok (.aload_n 0, 1) := by decide +kernel
theorem dX5_at_6 : decode cX5_at 6 = .ok (.arraylength, 1) := by decide +kernel
theorem dX5_at_7 : decode cX5_at 7 = .ok (.if_icmp .ge 9, 3) := by decide +kernel
theorem dX5_at_10 : decode cX5_at 10 = .ok (.aload_n 0, 1) := by decide +kernel
theorem dX5_at_11 : decode cX5_at 11 = .ok (.iload_n 1, 1) := by decide +kernel
theorem dX5_at_12 : decode cX5_at 12 = .ok (.iaload, 1) := by decide +kernel
theorem dX5_at_13 : decode cX5_at 13 = .ok (.goto 4, 3) := by decide +kernel
theorem dX5_at_16 : decode cX5_at 16 = .ok (.iconst 0, 1) := by decide +kernel
theorem dX5_at_17 : decode cX5_at 17 = .ok (.ireturn, 1) := by decide +kernel
theorem dX5_put_0 : decode cX5_put 0 = .ok (.iload_n 1, 1) := by decide +kernel
theorem dX5_put_1 : decode cX5_put 1 = .ok (.ifCond .lt 13, 3) := by decide +kernel
theorem dX5_put_4 : decode cX5_put 4 = .ok (.iload_n 1, 1) := by decide +kernel
theorem dX5_put_5 : decode cX5_put 5 = .ok (.aload_n 0, 1) := by decide +kernel
theorem dX5_put_6 : decode cX5_put 6 = .ok (.arraylength, 1) := by decide +kernel
theorem dX5_put_7 : decode cX5_put 7 = .ok (.if_icmp .ge 7, 3) := by decide +kernel
theorem dX5_put_10 : decode cX5_put 10 = .ok (.aload_n 0, 1) := by decide +kernel
theorem dX5_put_11 : decode cX5_put 11 = .ok (.iload_n 1, 1) := by decide +kernel
theorem dX5_put_12 : decode cX5_put 12 = .ok (.iload_n 2, 1) := by decide +kernel
theorem dX5_put_13 : decode cX5_put 13 = .ok (.iastore, 1) := by decide +kernel
theorem dX5_put_14 : decode cX5_put 14 = .ok (.return_, 1) := by decide +kernel
theorem dX5_at__0 : decode cX5_at_ 0 = .ok (.iload_n 1, 1) := by decide +kernel
theorem dX5_at__1 : decode cX5_at_ 1 = .ok (.ifCond .lt 15, 3) := by decide +kernel
theorem dX5_at__4 : decode cX5_at_ 4 = .ok (.iload_n 1, 1) := by decide +kernel
theorem dX5_at__5 : decode cX5_at_ 5 = .ok (.aload_n 0, 1) := by decide +kernel
theorem dX5_at__6 : decode cX5_at_ 6 = .ok (.arraylength, 1) := by decide +kernel
theorem dX5_at__7 : decode cX5_at_ 7 = .ok (.if_icmp .ge 9, 3) := by decide +kernel
theorem dX5_at__10 : decode cX5_at_ 10 = .ok (.aload_n 0, 1) := by decide +kernel
theorem dX5_at__11 : decode cX5_at_ 11 = .ok (.iload_n 1, 1) := by decide +kernel
theorem dX5_at__12 : decode cX5_at_ 12 = .ok (.laload, 1) := by decide +kernel
theorem dX5_at__13 : decode cX5_at_ 13 = .ok (.goto 4, 3) := by decide +kernel
theorem dX5_at__16 : decode cX5_at_ 16 = .ok (.lconst 0, 1) := by decide +kernel
theorem dX5_at__17 : decode cX5_at_ 17 = .ok (.lreturn, 1) := by decide +kernel
theorem dX5_add_0 : decode cX5_add 0 = .ok (.iload_n 1, 1) := by decide +kernel
theorem dX5_add_1 : decode cX5_add 1 = .ok (.ifCond .lt 16, 3) := by decide +kernel
theorem dX5_add_4 : decode cX5_add 4 = .ok (.iload_n 1, 1) := by decide +kernel
theorem dX5_add_5 : decode cX5_add 5 = .ok (.aload_n 0, 1) := by decide +kernel
theorem dX5_add_6 : decode cX5_add 6 = .ok (.arraylength, 1) := by decide +kernel
theorem dX5_add_7 : decode cX5_add 7 = .ok (.if_icmp .ge 10, 3) := by decide +kernel
theorem dX5_add_10 : decode cX5_add 10 = .ok (.aload_n 0, 1) := by decide +kernel
theorem dX5_add_11 : decode cX5_add 11 = .ok (.iload_n 1, 1) := by decide +kernel
theorem dX5_add_12 : decode cX5_add 12 = .ok (.dup2, 1) := by decide +kernel
theorem dX5_add_13 : decode cX5_add 13 = .ok (.laload, 1) := by decide +kernel
theorem dX5_add_14 : decode cX5_add 14 = .ok (.lload_n 2, 1) := by decide +kernel
theorem dX5_add_15 : decode cX5_add 15 = .ok (.ladd, 1) := by decide +kernel
theorem dX5_add_16 : decode cX5_add 16 = .ok (.lastore, 1) := by decide +kernel
theorem dX5_add_17 : decode cX5_add 17 = .ok (.return_, 1) := by decide +kernel
theorem dX6_init_0 : decode cX6_init 0 = .ok (.aload_n 0, 1) := by decide +kernel
theorem dX6_init_1 : decode cX6_init 1 = .ok (.invokespecial 3, 3) := by decide +kernel
theorem dX6_init_4 : decode cX6_init 4 = .ok (.aload_n 0, 1) := by decide +kernel
theorem dX6_init_5 : decode cX6_init 5 = .ok (.bipush 16, 2) := by decide +kernel
theorem dX6_init_7 : decode cX6_init 7 = .ok (.newarray .int, 2) := by decide +kernel
theorem dX6_init_9 : decode cX6_init 9 = .ok (.putfield 11, 3) := by decide +kernel
theorem dX6_init_12 : decode cX6_init 12 = .ok (.aload_n 0, 1) := by decide +kernel
theorem dX6_init_13 : decode cX6_init 13 = .ok (.bipush 32, 2) := by decide +kernel
theorem dX6_init_15 : decode cX6_init 15 = .ok (.newarray .int, 2) := by decide +kernel
theorem dX6_init_17 : decode cX6_init 17 = .ok (.putfield 15, 3) := by decide +kernel
theorem dX6_init_20 : decode cX6_init 20 = .ok (.return_, 1) := by decide +kernel
set_option maxRecDepth 20000 in
theorem ggX6_clear_J7_fill_53178 : GoodIn wsX6_clear wsJ7_fill_53178 := goodIn_r _ [6] (by decide +kernel) (by decide +kernel)
set_option maxRecDepth 20000 in
theorem gX6_clear_J7_fill_53178 : GoodIn wsX6_clear (va_wsS RX6 18 yJ7_fill_53178 wsJ7_fill_53178) := goodIn_app (goodIn_of _ (by decide +kernel)) ggX6_clear_J7_fill_53178
theorem dX6_clear_0 : decode cX6_clear 0 = .ok (.aload_n 0, 1) := by decide +kernel
theorem dX6_clear_1 : decode cX6_clear 1 = .ok (.getfield 11, 3) := by decide +kernel
theorem dX6_clear_4 : decode cX6_clear 4 = .ok (.iconst 0, 1) := by decide +kernel
theorem dX6_clear_5 : decode cX6_clear 5 = .ok (.invokestatic 18, 3) := by decide +kernel
theorem dX6_clear_8 : decode cX6_clear 8 = .ok (.aload_n 0, 1) := by decide +kernel
theorem dX6_clear_9 : decode cX6_clear 9 = .ok (.iconst 0, 1) := by decide +kernel
theorem dX6_clear_10 : decode cX6_clear 10 = .ok (.putfield 24, 3) := by decide +kernel
theorem dX6_clear_13 : decode cX6_clear 13 = .ok (.return_, 1) := by decide +kernel
set_option maxRecDepth 20000 in
theorem ggX6_of_X5_at : GoodIn wsX6_of wsX5_at := goodIn_r _ [5] (by decide +kernel) (by decide +kernel)
set_option maxRecDepth 20000 in
theorem gX6_of_X5_at : GoodIn wsX6_of (va_wsS RX6 28 yX5_at wsX5_at) := goodIn_app (goodIn_of _ (by decide +kernel)) ggX6_of_X5_at
theorem dX6_of_0 : decode cX6_of 0 = .ok (.aload_n 0, 1) := by decide +kernel
theorem dX6_of_1 : decode cX6_of 1 = .ok (.getfield 11, 3) := by decide +kernel
theorem dX6_of_4 : decode cX6_of 4 = .ok (.iconst 2, 1) := by decide +kernel
theorem dX6_of_5 : decode cX6_of 5 = .ok (.iload_n 1, 1) := by decide +kernel
theorem dX6_of_6 : decode cX6_of 6 = .ok (.imul, 1) := by decide +kernel
theorem dX6_of_7 : decode cX6_of 7 = .ok (.iload_n 2, 1) := by decide +kernel
theorem dX6_of_8 : decode cX6_of 8 = .ok (.iadd, 1) := by decide +kernel
theorem dX6_of_9 : decode cX6_of 9 = .ok (.invokestatic 28, 3) := by decide +kernel
theorem dX6_of_12 : decode cX6_of 12 = .ok (.ireturn, 1) := by decide +kernel
set_option maxRecDepth 20000 in
theorem ggX6_put_X5_put : GoodIn wsX6_put wsX5_put := goodIn_r _ [5] (by decide +kernel) (by decide +kernel)
set_option maxRecDepth 20000 in
theorem gX6_put_X5_put : GoodIn wsX6_put (va_wsS RX6 34 yX5_put wsX5_put) := goodIn_app (goodIn_of _ (by decide +kernel)) ggX6_put_X5_put
theorem dX6_put_0 : decode cX6_put 0 = .ok (.aload_n 0, 1) := by decide +kernel
theorem dX6_put_1 : decode cX6_put 1 = .ok (.getfield 11, 3) := by decide +kernel
theorem dX6_put_4 : decode cX6_put 4 = .ok (.iconst 2, 1) := by decide +kernel
theorem dX6_put_5 : decode cX6_put 5 = .ok (.iload_n 1, 1) := by decide +kernel
theorem dX6_put_6 : decode cX6_put 6 = .ok (.imul, 1) := by decide +kernel
theorem dX6_put_7 : decode cX6_put 7 = .ok (.iload_n 2, 1) := by decide +kernel
theorem dX6_put_8 : decode cX6_put 8 = .ok (.invokestatic 34, 3) := by decide +kernel
theorem dX6_put_11 : decode cX6_put 11 = .ok (.aload_n 0, 1) := by decide +kernel
theorem dX6_put_12 : decode cX6_put 12 = .ok (.getfield 11, 3) := by decide +kernel
theorem dX6_put_15 : decode cX6_put 15 = .ok (.iconst 2, 1) := by decide +kernel
theorem dX6_put_16 : decode cX6_put 16 = .ok (.iload_n 1, 1) := by decide +kernel
theorem dX6_put_17 : decode cX6_put 17 = .ok (.imul, 1) := by decide +kernel
theorem dX6_put_18 : decode cX6_put 18 = .ok (.iconst 1, 1) := by decide +kernel
theorem dX6_put_19 : decode cX6_put 19 = .ok (.iadd, 1) := by decide +kernel
theorem dX6_put_20 : decode cX6_put 20 = .ok (.iload_n 3, 1) := by decide +kernel
theorem dX6_put_21 : decode cX6_put 21 = .ok (.invokestatic 34, 3) := by decide +kernel
theorem dX6_put_24 : decode cX6_put 24 = .ok (.return_, 1) := by decide +kernel
set_option maxRecDepth 20000 in
theorem ggX6_change_X6_of : GoodIn wsX6_change wsX6_of := goodIn_r _ [6, 1, 7, 8, 9, 10, 14, 15, 16] (by decide +kernel) (by decide +kernel)
set_option maxRecDepth 20000 in
theorem gX6_change_X6_of : GoodIn wsX6_change (wsV RX6 38 RX6 yX6_of wsX6_of) := goodIn_app (goodIn_of _ (by decide +kernel)) ggX6_change_X6_of
set_option maxRecDepth 20000 in
theorem ggX6_change_X5_put : GoodIn wsX6_change wsX5_put := goodIn_r _ [13] (by decide +kernel) (by decide +kernel)
set_option maxRecDepth 20000 in
theorem gX6_change_X5_put : GoodIn wsX6_change (va_wsS RX6 34 yX5_put wsX5_put) := goodIn_app (goodIn_of _ (by decide +kernel)) ggX6_change_X5_put
theorem dX6_change_0 : decode cX6_change 0 = .ok (.aload_n 0, 1) := by decide +kernel
theorem dX6_change_1 : decode cX6_change 1 = .ok (.getfield 11, 3) := by decide +kernel
theorem dX6_change_4 : decode cX6_change 4 = .ok (.iconst 2, 1) := by decide +kernel
theorem dX6_change_5 : decode cX6_change 5 = .ok (.iload_n 1, 1) := by decide +kernel
theorem dX6_change_6 : decode cX6_change 6 = .ok (.imul, 1) := by decide +kernel
theorem dX6_change_7 : decode cX6_change 7 = .ok (.iload_n 2, 1) := by decide +kernel
theorem dX6_change_8 : decode cX6_change 8 = .ok (.iadd, 1) := by decide +kernel
theorem dX6_change_9 : decode cX6_change 9 = .ok (.aload_n 0, 1) := by decide +kernel
theorem dX6_change_10 : decode cX6_change 10 = .ok (.iload_n 1, 1) := by decide +kernel
theorem dX6_change_11 : decode cX6_change 11 = .ok (.iload_n 2, 1) := by decide +kernel
theorem dX6_change_12 : decode cX6_change 12 = .ok (.invokevirtual 38, 3) := by decide +kernel
theorem dX6_change_15 : decode cX6_change 15 = .ok (.iload_n 3, 1) := by decide +kernel
theorem dX6_change_16 : decode cX6_change 16 = .ok (.iadd, 1) := by decide +kernel
theorem dX6_change_17 : decode cX6_change 17 = .ok (.invokestatic 34, 3) := by decide +kernel
theorem dX6_change_20 : decode cX6_change 20 = .ok (.return_, 1) := by decide +kernel
theorem dX6_kept_0 : decode cX6_kept 0 = .ok (.aload_n 0, 1) := by decide +kernel
theorem dX6_kept_1 : decode cX6_kept 1 = .ok (.getfield 24, 3) := by decide +kernel
theorem dX6_kept_4 : decode cX6_kept 4 = .ok (.ireturn, 1) := by decide +kernel
theorem dX6_push_0 : decode cX6_push 0 = .ok (.aload_n 0, 1) := by decide +kernel
theorem dX6_push_1 : decode cX6_push 1 = .ok (.getfield 24, 3) := by decide +kernel
theorem dX6_push_4 : decode cX6_push 4 = .ok (.iconst 2, 1) := by decide +kernel
theorem dX6_push_5 : decode cX6_push 5 = .ok (.if_icmp .lt 5, 3) := by decide +kernel
theorem dX6_push_8 : decode cX6_push 8 = .ok (.iconst 0, 1) := by decide +kernel
theorem dX6_push_9 : decode cX6_push 9 = .ok (.ireturn, 1) := by decide +kernel
theorem dX6_push_10 : decode cX6_push 10 = .ok (.aload_n 0, 1) := by decide +kernel
theorem dX6_push_11 : decode cX6_push 11 = .ok (.getfield 11, 3) := by decide +kernel
theorem dX6_push_14 : decode cX6_push 14 = .ok (.iconst 0, 1) := by decide +kernel
theorem dX6_push_15 : decode cX6_push 15 = .ok (.aload_n 0, 1) := by decide +kernel
theorem dX6_push_16 : decode cX6_push 16 = .ok (.getfield 15, 3) := by decide +kernel
theorem dX6_push_19 : decode cX6_push 19 = .ok (.aload_n 0, 1) := by decide +kernel
theorem dX6_push_20 : decode cX6_push 20 = .ok (.getfield 24, 3) := by decide +kernel
theorem dX6_push_23 : decode cX6_push 23 = .ok (.bipush 16, 2) := by decide +kernel
theorem dX6_push_25 : decode cX6_push 25 = .ok (.imul, 1) := by decide +kernel
theorem dX6_push_26 : decode cX6_push 26 = .ok (.bipush 16, 2) := by decide +kernel
theorem dX6_push_28 : decode cX6_push 28 = .ok (.invokestatic 42, 3) := by decide +kernel
theorem dX6_push_31 : decode cX6_push 31 = .ok (.aload_n 0, 1) := by decide +kernel
theorem dX6_push_32 : decode cX6_push 32 = .ok (.dup, 1) := by decide +kernel
theorem dX6_push_33 : decode cX6_push 33 = .ok (.getfield 24, 3) := by decide +kernel
theorem dX6_push_36 : decode cX6_push 36 = .ok (.iconst 1, 1) := by decide +kernel
theorem dX6_push_37 : decode cX6_push 37 = .ok (.iadd, 1) := by decide +kernel
theorem dX6_push_38 : decode cX6_push 38 = .ok (.putfield 24, 3) := by decide +kernel
theorem dX6_push_41 : decode cX6_push 41 = .ok (.iconst 1, 1) := by decide +kernel
theorem dX6_push_42 : decode cX6_push 42 = .ok (.ireturn, 1) := by decide +kernel
theorem dX6_pop_0 : decode cX6_pop 0 = .ok (.aload_n 0, 1) := by decide +kernel
theorem dX6_pop_1 : decode cX6_pop 1 = .ok (.getfield 24, 3) := by decide +kernel
theorem dX6_pop_4 : decode cX6_pop 4 = .ok (.ifCond .gt 5, 3) := by decide +kernel
theorem dX6_pop_7 : decode cX6_pop 7 = .ok (.iconst 0, 1) := by decide +kernel
theorem dX6_pop_8 : decode cX6_pop 8 = .ok (.ireturn, 1) := by decide +kernel
theorem dX6_pop_9 : decode cX6_pop 9 = .ok (.aload_n 0, 1) := by decide +kernel
theorem dX6_pop_10 : decode cX6_pop 10 = .ok (.dup, 1) := by decide +kernel
theorem dX6_pop_11 : decode cX6_pop 11 = .ok (.getfield 24, 3) := by decide +kernel
theorem dX6_pop_14 : decode cX6_pop 14 = .ok (.iconst 1, 1) := by decide +kernel
theorem dX6_pop_15 : decode cX6_pop 15 = .ok (.isub, 1) := by decide +kernel
theorem dX6_pop_16 : decode cX6_pop 16 = .ok (.putfield 24, 3) := by decide +kernel
theorem dX6_pop_19 : decode cX6_pop 19 = .ok (.aload_n 0, 1) := by decide +kernel
theorem dX6_pop_20 : decode cX6_pop 20 = .ok (.getfield 15, 3) := by decide +kernel
theorem dX6_pop_23 : decode cX6_pop 23 = .ok (.aload_n 0, 1) := by decide +kernel
theorem dX6_pop_24 : decode cX6_pop 24 = .ok (.getfield 24, 3) := by decide +kernel
theorem dX6_pop_27 : decode cX6_pop 27 = .ok (.bipush 16, 2) := by decide +kernel
theorem dX6_pop_29 : decode cX6_pop 29 = .ok (.imul, 1) := by decide +kernel
theorem dX6_pop_30 : decode cX6_pop 30 = .ok (.aload_n 0, 1) := by decide +kernel
theorem dX6_pop_31 : decode cX6_pop 31 = .ok (.getfield 11, 3) := by decide +kernel
theorem dX6_pop_34 : decode cX6_pop 34 = .ok (.iconst 0, 1) := by decide +kernel
theorem dX6_pop_35 : decode cX6_pop 35 = .ok (.bipush 16, 2) := by decide +kernel
theorem dX6_pop_37 : decode cX6_pop 37 = .ok (.invokestatic 42, 3) := by decide +kernel
theorem dX6_pop_40 : decode cX6_pop 40 = .ok (.iconst 1, 1) := by decide +kernel
theorem dX6_pop_41 : decode cX6_pop 41 = .ok (.ireturn, 1) := by decide +kernel
theorem dX7_init_0 : decode cX7_init 0 = .ok (.aload_n 0, 1) := by decide +kernel
theorem dX7_init_1 : decode cX7_init 1 = .ok (.invokespecial 3, 3) := by decide +kernel
theorem dX7_init_4 : decode cX7_init 4 = .ok (.aload_n 0, 1) := by decide +kernel
theorem dX7_init_5 : decode cX7_init 5 = .ok (.sipush 500, 3) := by decide +kernel
theorem dX7_init_8 : decode cX7_init 8 = .ok (.newarray .byte, 2) := by decide +kernel
theorem dX7_init_10 : decode cX7_init 10 = .ok (.putfield 9, 3) := by decide +kernel
theorem dX7_init_13 : decode cX7_init 13 = .ok (.return_, 1) := by decide +kernel
theorem dX7_length_0 : decode cX7_length 0 = .ok (.aload_n 0, 1) := by decide +kernel
theorem dX7_length_1 : decode cX7_length 1 = .ok (.getfield 15, 3) := by decide +kernel
theorem dX7_length_4 : decode cX7_length 4 = .ok (.ireturn, 1) := by decide +kernel
theorem dX7_clear_0 : decode cX7_clear 0 = .ok (.aload_n 0, 1) := by decide +kernel
theorem dX7_clear_1 : decode cX7_clear 1 = .ok (.iconst 0, 1) := by decide +kernel
theorem dX7_clear_2 : decode cX7_clear 2 = .ok (.putfield 15, 3) := by decide +kernel
theorem dX7_clear_5 : decode cX7_clear 5 = .ok (.return_, 1) := by decide +kernel
theorem dX7_append_0 : decode cX7_append 0 = .ok (.aload_n 0, 1) := by decide +kernel
theorem dX7_append_1 : decode cX7_append 1 = .ok (.getfield 15, 3) := by decide +kernel
theorem dX7_append_4 : decode cX7_append 4 = .ok (.sipush 500, 3) := by decide +kernel
theorem dX7_append_7 : decode cX7_append 7 = .ok (.if_icmp .ge 24, 3) := by decide +kernel
theorem dX7_append_10 : decode cX7_append 10 = .ok (.aload_n 0, 1) := by decide +kernel
theorem dX7_append_11 : decode cX7_append 11 = .ok (.getfield 9, 3) := by decide +kernel
theorem dX7_append_14 : decode cX7_append 14 = .ok (.aload_n 0, 1) := by decide +kernel
theorem dX7_append_15 : decode cX7_append 15 = .ok (.getfield 15, 3) := by decide +kernel
theorem dX7_append_18 : decode cX7_append 18 = .ok (.iload_n 1, 1) := by decide +kernel
theorem dX7_append_19 : decode cX7_append 19 = .ok (.i2b, 1) := by decide +kernel
theorem dX7_append_20 : decode cX7_append 20 = .ok (.bastore, 1) := by decide +kernel
theorem dX7_append_21 : decode cX7_append 21 = .ok (.aload_n 0, 1) := by decide +kernel
theorem dX7_append_22 : decode cX7_append 22 = .ok (.dup, 1) := by decide +kernel
theorem dX7_append_23 : decode cX7_append 23 = .ok (.getfield 15, 3) := by decide +kernel
theorem dX7_append_26 : decode cX7_append 26 = .ok (.iconst 1, 1) := by decide +kernel
theorem dX7_append_27 : decode cX7_append 27 = .ok (.iadd, 1) := by decide +kernel
theorem dX7_append_28 : decode cX7_append 28 = .ok (.putfield 15, 3) := by decide +kernel
theorem dX7_append_31 : decode cX7_append 31 = .ok (.return_, 1) := by decide +kernel
theorem dX7_at_0 : decode cX7_at 0 = .ok (.iload_n 1, 1) := by decide +kernel
theorem dX7_at_1 : decode cX7_at 1 = .ok (.ifCond .lt 24, 3) := by decide +kernel
theorem dX7_at_4 : decode cX7_at 4 = .ok (.iload_n 1, 1) := by decide +kernel
theorem dX7_at_5 : decode cX7_at 5 = .ok (.aload_n 0, 1) := by decide +kernel
theorem dX7_at_6 : decode cX7_at 6 = .ok (.getfield 15, 3) := by decide +kernel
theorem dX7_at_9 : decode cX7_at 9 = .ok (.if_icmp .ge 16, 3) := by decide +kernel
theorem dX7_at_12 : decode cX7_at 12 = .ok (.aload_n 0, 1) := by decide +kernel
theorem dX7_at_13 : decode cX7_at 13 = .ok (.getfield 9, 3) := by decide +kernel
theorem dX7_at_16 : decode cX7_at 16 = .ok (.iload_n 1, 1) := by decide +kernel
theorem dX7_at_17 : decode cX7_at 17 = .ok (.baload, 1) := by decide +kernel
theorem dX7_at_18 : decode cX7_at 18 = .ok (.sipush 255, 3) := by decide +kernel
theorem dX7_at_21 : decode cX7_at 21 = .ok (.iand, 1) := by decide +kernel
theorem dX7_at_22 : decode cX7_at 22 = .ok (.goto 4, 3) := by decide +kernel
theorem dX7_at_25 : decode cX7_at 25 = .ok (.iconst 0, 1) := by decide +kernel
theorem dX7_at_26 : decode cX7_at 26 = .ok (.ireturn, 1) := by decide +kernel
theorem dX8_length_0 : decode cX8_length 0 = .ok (.iload_n 0, 1) := by decide +kernel
theorem dX8_length_1 : decode cX8_length 1 = .ok (.bipush 7, 2) := by decide +kernel
theorem dX8_length_3 : decode cX8_length 3 = .ok (.iand, 1) := by decide +kernel
theorem dX8_length_4 : decode cX8_length 4 = .ok (.ireturn, 1) := by decide +kernel
theorem dX8_soundAt_0 : decode cX8_soundAt 0 = .ok (.iload_n 0, 1) := by decide +kernel
theorem dX8_soundAt_1 : decode cX8_soundAt 1 = .ok (.iconst 3, 1) := by decide +kernel
theorem dX8_soundAt_2 : decode cX8_soundAt 2 = .ok (.iconst 4, 1) := by decide +kernel
theorem dX8_soundAt_3 : decode cX8_soundAt 3 = .ok (.iload_n 1, 1) := by decide +kernel
theorem dX8_soundAt_4 : decode cX8_soundAt 4 = .ok (.imul, 1) := by decide +kernel
theorem dX8_soundAt_5 : decode cX8_soundAt 5 = .ok (.iadd, 1) := by decide +kernel
theorem dX8_soundAt_6 : decode cX8_soundAt 6 = .ok (.ishr, 1) := by decide +kernel
theorem dX8_soundAt_7 : decode cX8_soundAt 7 = .ok (.bipush 15, 2) := by decide +kernel
theorem dX8_soundAt_9 : decode cX8_soundAt 9 = .ok (.iand, 1) := by decide +kernel
theorem dX8_soundAt_10 : decode cX8_soundAt 10 = .ok (.ireturn, 1) := by decide +kernel
set_option maxRecDepth 20000 in
theorem ggX8_with_X8_length : GoodIn wsX8_with wsX8_length := goodIn_r _ [4] (by decide +kernel) (by decide +kernel)
set_option maxRecDepth 20000 in
theorem gX8_with_X8_length : GoodIn wsX8_with (va_wsS RX8 9 yX8_length wsX8_length) := goodIn_app (goodIn_of _ (by decide +kernel)) ggX8_with_X8_length
theorem dX8_with_0 : decode cX8_with 0 = .ok (.iload_n 0, 1) := by decide +kernel
theorem dX8_with_1 : decode cX8_with 1 = .ok (.invokestatic 9, 3) := by decide +kernel
theorem dX8_with_4 : decode cX8_with 4 = .ok (.istore_n 2, 1) := by decide +kernel
theorem dX8_with_5 : decode cX8_with 5 = .ok (.iload_n 2, 1) := by decide +kernel
theorem dX8_with_6 : decode cX8_with 6 = .ok (.bipush 6, 2) := by decide +kernel
theorem dX8_with_8 : decode cX8_with 8 = .ok (.if_icmp .ge 17, 3) := by decide +kernel
theorem dX8_with_11 : decode cX8_with 11 = .ok (.iload_n 0, 1) := by decide +kernel
theorem dX8_with_12 : decode cX8_with 12 = .ok (.iconst 1, 1) := by decide +kernel
theorem dX8_with_13 : decode cX8_with 13 = .ok (.iadd, 1) := by decide +kernel
theorem dX8_with_14 : decode cX8_with 14 = .ok (.iload_n 1, 1) := by decide +kernel
theorem dX8_with_15 : decode cX8_with 15 = .ok (.iconst 3, 1) := by decide +kernel
theorem dX8_with_16 : decode cX8_with 16 = .ok (.iconst 4, 1) := by decide +kernel
theorem dX8_with_17 : decode cX8_with 17 = .ok (.iload_n 2, 1) := by decide +kernel
theorem dX8_with_18 : decode cX8_with 18 = .ok (.imul, 1) := by decide +kernel
theorem dX8_with_19 : decode cX8_with 19 = .ok (.iadd, 1) := by decide +kernel
theorem dX8_with_20 : decode cX8_with 20 = .ok (.ishl, 1) := by decide +kernel
theorem dX8_with_21 : decode cX8_with 21 = .ok (.ior, 1) := by decide +kernel
theorem dX8_with_22 : decode cX8_with 22 = .ok (.goto 4, 3) := by decide +kernel
theorem dX8_with_25 : decode cX8_with 25 = .ok (.iload_n 0, 1) := by decide +kernel
theorem dX8_with_26 : decode cX8_with 26 = .ok (.ireturn, 1) := by decide +kernel
set_option maxRecDepth 20000 in
theorem ggX9_init_X7_init : GoodIn wsX9_init wsX7_init := goodIn_r _ [30, 31, 2, 3, 32, 33, 95, 96] (by decide +kernel) (by decide +kernel)
set_option maxRecDepth 20000 in
theorem gX9_init_X7_init_n9 : GoodIn wsX9_init (wsX7_init) := ggX9_init_X7_init
set_option maxRecDepth 20000 in
theorem ggX9_init_X2_init : GoodIn wsX9_init wsX2_init := goodIn_r _ [36, 37, 2, 3, 38, 39, 40, 104, 105, 106, 107, 108, 109] (by decide +kernel) (by decide +kernel)
set_option maxRecDepth 20000 in
theorem gX9_init_X2_init : GoodIn wsX9_init (wsX2_init) := ggX9_init_X2_init
set_option maxRecDepth 20000 in
theorem ggX9_init_X6_init : GoodIn wsX9_init wsX6_init := goodIn_r _ [42, 43, 2, 3, 38, 44, 45, 110, 111, 112] (by decide +kernel) (by decide +kernel)
set_option maxRecDepth 20000 in
theorem gX9_init_X6_init_n27 : GoodIn wsX9_init (wsX6_init) := ggX9_init_X6_init
set_option maxRecDepth 20000 in
theorem ggX9_init_X1_init : GoodIn wsX9_init wsX1_init := goodIn_r _ [47, 48, 2, 3, 49, 50, 51, 52, 53, 113, 114, 115, 116, 117, 118, 119] (by decide +kernel) (by decide +kernel)
set_option maxRecDepth 20000 in
theorem gX9_init_X1_init_n34 : GoodIn wsX9_init (wsX1_init) := ggX9_init_X1_init
set_option maxRecDepth 20000 in
theorem ggX9_init_X3_init : GoodIn wsX9_init wsX3_init := goodIn_r _ [55, 56, 2, 3, 38, 57, 120] (by decide +kernel) (by decide +kernel)
set_option maxRecDepth 20000 in
theorem gX9_init_X3_init_n41 : GoodIn wsX9_init (wsX3_init) := ggX9_init_X3_init
set_option maxRecDepth 20000 in
theorem ggX9_init_X0_init : GoodIn wsX9_init wsX0_init := goodIn_r _ [60, 61, 2, 3, 38, 62, 63, 64, 65, 66, 67, 68, 69, 70, 71, 72, 73, 74, 75, 76, 77, 78, 79, 26, 80, 81, 82, 83, 84, 85, 86, 87, 88, 89, 90, 91, 92, 93, 94, 121, 122, 123, 124, 125, 126, 127, 128, 129, 130, 131, 132, 133, 134] (by decide +kernel) (by decide +kernel)
set_option maxRecDepth 20000 in
theorem gX9_init_X0_init : GoodIn wsX9_init (wsX0_init) := ggX9_init_X0_init
theorem dX9_init_0 : decode cX9_init 0 = .ok (.aload_n 0, 1) := by decide +kernel
theorem dX9_init_1 : decode cX9_init 1 = .ok (.invokespecial 1, 3) := by decide +kernel
theorem dX9_init_4 : decode cX9_init 4 = .ok (.aload_n 0, 1) := by decide +kernel
theorem dX9_init_5 : decode cX9_init 5 = .ok (.new 7, 3) := by decide +kernel
theorem dX9_init_8 : decode cX9_init 8 = .ok (.dup, 1) := by decide +kernel
theorem dX9_init_9 : decode cX9_init 9 = .ok (.invokespecial 9, 3) := by decide +kernel
theorem dX9_init_12 : decode cX9_init 12 = .ok (.putfield 10, 3) := by decide +kernel
theorem dX9_init_15 : decode cX9_init 15 = .ok (.aload_n 0, 1) := by decide +kernel
theorem dX9_init_16 : decode cX9_init 16 = .ok (.new 16, 3) := by decide +kernel
theorem dX9_init_19 : decode cX9_init 19 = .ok (.dup, 1) := by decide +kernel
theorem dX9_init_20 : decode cX9_init 20 = .ok (.aload_n 0, 1) := by decide +kernel
theorem dX9_init_21 : decode cX9_init 21 = .ok (.getfield 10, 3) := by decide +kernel
theorem dX9_init_24 : decode cX9_init 24 = .ok (.invokespecial 18, 3) := by decide +kernel
theorem dX9_init_27 : decode cX9_init 27 = .ok (.putfield 21, 3) := by decide +kernel
theorem dX9_init_30 : decode cX9_init 30 = .ok (.aload_n 0, 1) := by decide +kernel
theorem dX9_init_31 : decode cX9_init 31 = .ok (.new 25, 3) := by decide +kernel
theorem dX9_init_34 : decode cX9_init 34 = .ok (.dup, 1) := by decide +kernel
theorem dX9_init_35 : decode cX9_init 35 = .ok (.invokespecial 27, 3) := by decide +kernel
theorem dX9_init_38 : decode cX9_init 38 = .ok (.putfield 28, 3) := by decide +kernel
theorem dX9_init_41 : decode cX9_init 41 = .ok (.aload_n 0, 1) := by decide +kernel
theorem dX9_init_42 : decode cX9_init 42 = .ok (.new 32, 3) := by decide +kernel
theorem dX9_init_45 : decode cX9_init 45 = .ok (.dup, 1) := by decide +kernel
theorem dX9_init_46 : decode cX9_init 46 = .ok (.invokespecial 34, 3) := by decide +kernel
theorem dX9_init_49 : decode cX9_init 49 = .ok (.putfield 35, 3) := by decide +kernel
theorem dX9_init_52 : decode cX9_init 52 = .ok (.aload_n 0, 1) := by decide +kernel
theorem dX9_init_53 : decode cX9_init 53 = .ok (.new 39, 3) := by decide +kernel
theorem dX9_init_56 : decode cX9_init 56 = .ok (.dup, 1) := by decide +kernel
theorem dX9_init_57 : decode cX9_init 57 = .ok (.invokespecial 41, 3) := by decide +kernel
theorem dX9_init_60 : decode cX9_init 60 = .ok (.putfield 42, 3) := by decide +kernel
theorem dX9_init_63 : decode cX9_init 63 = .ok (.aload_n 0, 1) := by decide +kernel
theorem dX9_init_64 : decode cX9_init 64 = .ok (.new 46, 3) := by decide +kernel
theorem dX9_init_67 : decode cX9_init 67 = .ok (.dup, 1) := by decide +kernel
theorem dX9_init_68 : decode cX9_init 68 = .ok (.invokespecial 48, 3) := by decide +kernel
theorem dX9_init_71 : decode cX9_init 71 = .ok (.putfield 49, 3) := by decide +kernel
theorem dX9_init_74 : decode cX9_init 74 = .ok (.aload_n 0, 1) := by decide +kernel
theorem dX9_init_75 : decode cX9_init 75 = .ok (.new 46, 3) := by decide +kernel
theorem dX9_init_78 : decode cX9_init 78 = .ok (.dup, 1) := by decide +kernel
theorem dX9_init_79 : decode cX9_init 79 = .ok (.invokespecial 48, 3) := by decide +kernel
theorem dX9_init_82 : decode cX9_init 82 = .ok (.putfield 53, 3) := by decide +kernel
theorem dX9_init_85 : decode cX9_init 85 = .ok (.return_, 1) := by decide +kernel
set_option maxRecDepth 20000 in
theorem ggX9_write_X7_length : GoodIn wsX9_write wsX7_length := goodIn_r _ [6, 7, 20, 21] (by decide +kernel) (by decide +kernel)
set_option maxRecDepth 20000 in
theorem gX9_write_X7_length : GoodIn wsX9_write (wsV RX9 56 RX7 yX7_length wsX7_length) := goodIn_app (goodIn_of _ (by decide +kernel)) ggX9_write_X7_length
set_option maxRecDepth 20000 in
theorem ggX9_write_X7_append : GoodIn wsX9_write wsX7_append := goodIn_r _ [11, 7, 12, 20, 21] (by decide +kernel) (by decide +kernel)
set_option maxRecDepth 20000 in
theorem gX9_write_X7_append : GoodIn wsX9_write (wsV RX9 60 RX7 yX7_append wsX7_append) := goodIn_app (goodIn_of _ (by decide +kernel)) ggX9_write_X7_append
theorem dX9_write_0 : decode cX9_write 0 = .ok (.iload_n 1, 1) := by decide +kernel
theorem dX9_write_1 : decode cX9_write 1 = .ok (.iconst 1, 1) := by decide +kernel
theorem dX9_write_2 : decode cX9_write 2 = .ok (.if_icmp .lt 9, 3) := by decide +kernel
theorem dX9_write_5 : decode cX9_write 5 = .ok (.iload_n 1, 1) := by decide +kernel
theorem dX9_write_6 : decode cX9_write 6 = .ok (.bipush 8, 2) := by decide +kernel
theorem dX9_write_8 : decode cX9_write 8 = .ok (.if_icmp .le 5, 3) := by decide +kernel
theorem dX9_write_11 : decode cX9_write 11 = .ok (.iconst (-1), 1) := by decide +kernel
theorem dX9_write_12 : decode cX9_write 12 = .ok (.ireturn, 1) := by decide +kernel
theorem dX9_write_13 : decode cX9_write 13 = .ok (.aload_n 0, 1) := by decide +kernel
theorem dX9_write_14 : decode cX9_write 14 = .ok (.getfield 10, 3) := by decide +kernel
theorem dX9_write_17 : decode cX9_write 17 = .ok (.invokevirtual 56, 3) := by decide +kernel
theorem dX9_write_20 : decode cX9_write 20 = .ok (.iload_n 1, 1) := by decide +kernel
theorem dX9_write_21 : decode cX9_write 21 = .ok (.iadd, 1) := by decide +kernel
theorem dX9_write_22 : decode cX9_write 22 = .ok (.sipush 500, 3) := by decide +kernel
theorem dX9_write_25 : decode cX9_write 25 = .ok (.if_icmp .le 6, 3) := by decide +kernel
theorem dX9_write_28 : decode cX9_write 28 = .ok (.bipush (-3), 2) := by decide +kernel
theorem dX9_write_30 : decode cX9_write 30 = .ok (.ireturn, 1) := by decide +kernel
theorem dX9_write_31 : decode cX9_write 31 = .ok (.iload_n 1, 1) := by decide +kernel
theorem dX9_write_32 : decode cX9_write 32 = .ok (.iconst 1, 1) := by decide +kernel
theorem dX9_write_33 : decode cX9_write 33 = .ok (.isub, 1) := by decide +kernel
theorem dX9_write_34 : decode cX9_write 34 = .ok (.istore 4, 2) := by decide +kernel
theorem dX9_write_36 : decode cX9_write 36 = .ok (.iload 4, 2) := by decide +kernel
theorem dX9_write_38 : decode cX9_write 38 = .ok (.ifCond .lt 28, 3) := by decide +kernel
theorem dX9_write_41 : decode cX9_write 41 = .ok (.aload_n 0, 1) := by decide +kernel
theorem dX9_write_42 : decode cX9_write 42 = .ok (.getfield 10, 3) := by decide +kernel
theorem dX9_write_45 : decode cX9_write 45 = .ok (.lload_n 2, 1) := by decide +kernel
theorem dX9_write_46 : decode cX9_write 46 = .ok (.bipush 8, 2) := by decide +kernel
theorem dX9_write_48 : decode cX9_write 48 = .ok (.iload 4, 2) := by decide +kernel
theorem dX9_write_50 : decode cX9_write 50 = .ok (.imul, 1) := by decide +kernel
theorem dX9_write_51 : decode cX9_write 51 = .ok (.lushr, 1) := by decide +kernel
theorem dX9_write_52 : decode cX9_write 52 = .ok (.l2i, 1) := by decide +kernel
theorem dX9_write_53 : decode cX9_write 53 = .ok (.sipush 255, 3) := by decide +kernel
theorem dX9_write_56 : decode cX9_write 56 = .ok (.iand, 1) := by decide +kernel
theorem dX9_write_57 : decode cX9_write 57 = .ok (.invokevirtual 60, 3) := by decide +kernel
theorem dX9_write_60 : decode cX9_write 60 = .ok (.iinc 4 (-1), 3) := by decide +kernel
theorem dX9_write_63 : decode cX9_write 63 = .ok (.goto (-27), 3) := by decide +kernel
theorem dX9_write_66 : decode cX9_write 66 = .ok (.aload_n 0, 1) := by decide +kernel
theorem dX9_write_67 : decode cX9_write 67 = .ok (.getfield 10, 3) := by decide +kernel
theorem dX9_write_70 : decode cX9_write 70 = .ok (.invokevirtual 56, 3) := by decide +kernel
theorem dX9_write_73 : decode cX9_write 73 = .ok (.ireturn, 1) := by decide +kernel
set_option maxRecDepth 20000 in
theorem ggX9_wipe_X7_length : GoodIn wsX9_wipe wsX7_length := goodIn_r _ [6, 7, 19, 20] (by decide +kernel) (by decide +kernel)
set_option maxRecDepth 20000 in
theorem gX9_wipe_X7_length : GoodIn wsX9_wipe (wsV RX9 56 RX7 yX7_length wsX7_length) := goodIn_app (goodIn_of _ (by decide +kernel)) ggX9_wipe_X7_length
set_option maxRecDepth 20000 in
theorem ggX9_wipe_X7_clear : GoodIn wsX9_wipe wsX7_clear := goodIn_r _ [11, 7, 19, 20] (by decide +kernel) (by decide +kernel)
set_option maxRecDepth 20000 in
theorem gX9_wipe_X7_clear : GoodIn wsX9_wipe (wsV RX9 64 RX7 yX7_clear wsX7_clear) := goodIn_app (goodIn_of _ (by decide +kernel)) ggX9_wipe_X7_clear
theorem dX9_wipe_0 : decode cX9_wipe 0 = .ok (.aload_n 0, 1) := by decide +kernel
theorem dX9_wipe_1 : decode cX9_wipe 1 = .ok (.getfield 10, 3) := by decide +kernel
theorem dX9_wipe_4 : decode cX9_wipe 4 = .ok (.invokevirtual 56, 3) := by decide +kernel
theorem dX9_wipe_7 : decode cX9_wipe 7 = .ok (.istore_n 1, 1) := by decide +kernel
theorem dX9_wipe_8 : decode cX9_wipe 8 = .ok (.aload_n 0, 1) := by decide +kernel
theorem dX9_wipe_9 : decode cX9_wipe 9 = .ok (.getfield 10, 3) := by decide +kernel
theorem dX9_wipe_12 : decode cX9_wipe 12 = .ok (.invokevirtual 64, 3) := by decide +kernel
theorem dX9_wipe_15 : decode cX9_wipe 15 = .ok (.iload_n 1, 1) := by decide +kernel
theorem dX9_wipe_16 : decode cX9_wipe 16 = .ok (.ireturn, 1) := by decide +kernel
set_option maxRecDepth 20000 in
theorem ggX9_fault_X9_tryText : GoodIn wsX9_fault wsX9_tryText := goodIn_r _ [5, 6, 7, 8, 9, 10, 11, 12, 13, 14, 15, 16, 17, 18, 19, 20, 21, 22, 23, 24, 25, 26, 27, 28, 29, 30, 31, 32, 33, 34, 35, 36, 37, 38, 39, 40, 41, 42, 43, 44, 45, 46, 47, 48, 49, 50, 51, 52, 53, 54, 55, 56, 57, 58, 59, 60, 61, 62, 63, 64, 65, 66, 67, 68, 69, 70, 71, 72, 73, 74, 75, 76, 77, 78, 79, 80, 81, 82, 83, 84, 85, 86, 87, 88, 89, 90, 91, 92, 93, 94, 95, 96, 97, 98, 99, 100, 101, 102, 103, 104, 105, 106, 107, 108, 109, 110, 111, 112, 113, 114, 115, 116, 117, 118, 119, 120, 121, 122, 123, 124, 125, 126, 127, 128, 129, 130, 131, 132, 133, 134, 135, 136, 137, 138, 139, 140, 141, 142, 143, 144, 145, 146, 147, 148, 149, 150, 151, 152, 153, 154, 155, 156, 157, 158, 159, 160, 161, 162, 163, 164, 165, 166, 167, 168, 169, 170, 171, 172, 173, 174, 175, 176, 177, 178, 179, 180, 181, 182, 183, 184, 185, 186] (by decide +kernel) (by decide +kernel)
set_option maxRecDepth 20000 in
theorem gX9_fault_X9_tryText : GoodIn wsX9_fault (wsV RX9 67 RX9 yX9_tryText wsX9_tryText) := goodIn_app (goodIn_of _ (by decide +kernel)) ggX9_fault_X9_tryText
theorem dX9_fault_0 : decode cX9_fault 0 = .ok (.aload_n 0, 1) := by decide +kernel
theorem dX9_fault_1 : decode cX9_fault 1 = .ok (.invokevirtual 67, 3) := by decide +kernel
theorem dX9_fault_4 : decode cX9_fault 4 = .ok (.ireturn, 1) := by decide +kernel
set_option maxRecDepth 20000 in
theorem ggX9_lay_X9_tryText : GoodIn wsX9_lay wsX9_tryText := goodIn_r _ [8, 2, 9, 10, 11, 12, 13, 14, 15, 16, 17, 18, 19, 20, 21, 22, 23, 24, 25, 26, 27, 28, 29, 30, 31, 32, 33, 34, 35, 36, 37, 38, 39, 40, 41, 42, 43, 44, 45, 46, 47, 48, 49, 50, 51, 52, 53, 54, 55, 56, 57, 58, 59, 60, 61, 62, 63, 64, 65, 66, 67, 68, 69, 70, 71, 72, 73, 74, 75, 76, 77, 78, 79, 80, 81, 82, 83, 84, 85, 86, 87, 88, 89, 90, 91, 92, 93, 94, 95, 96, 97, 98, 99, 100, 101, 102, 103, 104, 105, 106, 107, 108, 109, 110, 111, 112, 113, 114, 115, 116, 117, 118, 119, 120, 121, 122, 123, 124, 125, 126, 127, 128, 129, 130, 131, 132, 133, 134, 135, 136, 137, 138, 139, 140, 141, 142, 143, 144, 145, 146, 147, 148, 149, 150, 151, 152, 153, 154, 155, 156, 157, 158, 159, 181, 182, 183, 184, 185, 186, 187, 188, 189, 190, 191, 192, 193, 194, 195, 196, 197, 198, 199, 200, 201, 202, 203, 204, 205, 206, 207, 208, 209] (by decide +kernel) (by decide +kernel)
set_option maxRecDepth 20000 in
theorem gX9_lay_X9_tryText : GoodIn wsX9_lay (wsV RX9 67 RX9 yX9_tryText wsX9_tryText) := goodIn_app (goodIn_of _ (by decide +kernel)) ggX9_lay_X9_tryText
set_option maxRecDepth 20000 in
theorem ggX9_lay_X6_clear : GoodIn wsX9_lay wsX6_clear := goodIn_r _ [164, 165, 166, 167, 27, 28, 29, 210, 211, 212] (by decide +kernel) (by decide +kernel)
set_option maxRecDepth 20000 in
theorem gX9_lay_X6_clear : GoodIn wsX9_lay (wsV RX9 70 RX6 yX6_clear wsX6_clear) := goodIn_app (goodIn_of _ (by decide +kernel)) ggX9_lay_X6_clear
set_option maxRecDepth 20000 in
theorem ggX9_lay_X9_toldMeanings : GoodIn wsX9_lay wsX9_toldMeanings := goodIn_r _ [171, 1, 172, 173, 174, 14, 175, 176, 177, 178, 179, 16, 122, 123, 124, 180, 111, 76, 112, 181, 182, 183, 184, 185, 186, 187, 188, 189, 190, 191, 192, 193, 194, 195, 196] (by decide +kernel) (by decide +kernel)
set_option maxRecDepth 20000 in
theorem gX9_lay_X9_toldMeanings : GoodIn wsX9_lay (wsV RX9 71 RX9 yX9_toldMeanings wsX9_toldMeanings) := goodIn_app (goodIn_of _ (by decide +kernel)) ggX9_lay_X9_toldMeanings
theorem dX9_lay_0 : decode cX9_lay 0 = .ok (.aload_n 0, 1) := by decide +kernel
theorem dX9_lay_1 : decode cX9_lay 1 = .ok (.invokevirtual 67, 3) := by decide +kernel
theorem dX9_lay_4 : decode cX9_lay 4 = .ok (.bipush (-4), 2) := by decide +kernel
theorem dX9_lay_6 : decode cX9_lay 6 = .ok (.if_icmp .eq 6, 3) := by decide +kernel
theorem dX9_lay_9 : decode cX9_lay 9 = .ok (.bipush (-2), 2) := by decide +kernel
theorem dX9_lay_11 : decode cX9_lay 11 = .ok (.ireturn, 1) := by decide +kernel
theorem dX9_lay_12 : decode cX9_lay 12 = .ok (.aload_n 0, 1) := by decide +kernel
theorem dX9_lay_13 : decode cX9_lay 13 = .ok (.getfield 49, 3) := by decide +kernel
theorem dX9_lay_16 : decode cX9_lay 16 = .ok (.astore_n 1, 1) := by decide +kernel
theorem dX9_lay_17 : decode cX9_lay 17 = .ok (.aload_n 0, 1) := by decide +kernel
theorem dX9_lay_18 : decode cX9_lay 18 = .ok (.aload_n 0, 1) := by decide +kernel
theorem dX9_lay_19 : decode cX9_lay 19 = .ok (.getfield 53, 3) := by decide +kernel
theorem dX9_lay_22 : decode cX9_lay 22 = .ok (.putfield 49, 3) := by decide +kernel
theorem dX9_lay_25 : decode cX9_lay 25 = .ok (.aload_n 0, 1) := by decide +kernel
theorem dX9_lay_26 : decode cX9_lay 26 = .ok (.aload_n 1, 1) := by decide +kernel
theorem dX9_lay_27 : decode cX9_lay 27 = .ok (.putfield 53, 3) := by decide +kernel
theorem dX9_lay_30 : decode cX9_lay 30 = .ok (.aload_n 0, 1) := by decide +kernel
theorem dX9_lay_31 : decode cX9_lay 31 = .ok (.getfield 28, 3) := by decide +kernel
theorem dX9_lay_34 : decode cX9_lay 34 = .ok (.invokevirtual 70, 3) := by decide +kernel
theorem dX9_lay_37 : decode cX9_lay 37 = .ok (.aload_n 0, 1) := by decide +kernel
theorem dX9_lay_38 : decode cX9_lay 38 = .ok (.invokevirtual 71, 3) := by decide +kernel
theorem dX9_lay_41 : decode cX9_lay 41 = .ok (.ireturn, 1) := by decide +kernel
set_option maxRecDepth 20000 in
theorem ggX9_word_X9_isPeople : GoodIn wsX9_word wsX9_isPeople := goodIn_r _ [5] (by decide +kernel) (by decide +kernel)
set_option maxRecDepth 20000 in
theorem gX9_word_X9_isPeople : GoodIn wsX9_word (va_wsS RX9 74 yX9_isPeople wsX9_isPeople) := goodIn_app (goodIn_of _ (by decide +kernel)) ggX9_word_X9_isPeople
set_option maxRecDepth 20000 in
theorem ggX9_word_X9_isMeaning : GoodIn wsX9_word wsX9_isMeaning := goodIn_r _ [8] (by decide +kernel) (by decide +kernel)
set_option maxRecDepth 20000 in
theorem gX9_word_X9_isMeaning : GoodIn wsX9_word (va_wsS RX9 78 yX9_isMeaning wsX9_isMeaning) := goodIn_app (goodIn_of _ (by decide +kernel)) ggX9_word_X9_isMeaning
set_option maxRecDepth 20000 in
theorem ggX9_word_X0_wordOf : GoodIn wsX9_word wsX0_wordOf := goodIn_r _ [13, 14, 15, 16, 12, 17, 18, 19, 20, 21, 52, 53, 54, 55, 56, 57, 58, 59, 60] (by decide +kernel) (by decide +kernel)
set_option maxRecDepth 20000 in
theorem gX9_word_X0_wordOf : GoodIn wsX9_word (wsV RX9 81 RX0 yX0_wordOf wsX0_wordOf) := goodIn_app (goodIn_of _ (by decide +kernel)) ggX9_word_X0_wordOf
set_option maxRecDepth 20000 in
theorem ggX9_word_X0_saidBy : GoodIn wsX9_word wsX0_saidBy := goodIn_r _ [25, 26, 27, 28, 29, 30, 31, 32, 33, 34, 35, 12, 36, 37, 38, 18, 19, 20, 21, 39, 40, 41, 42, 52, 53, 54, 55, 56, 57, 58, 59, 60] (by decide +kernel) (by decide +kernel)
set_option maxRecDepth 20000 in
theorem gX9_word_X0_saidBy : GoodIn wsX9_word (wsV RX9 85 RX0 yX0_saidBy wsX0_saidBy) := goodIn_app (goodIn_of _ (by decide +kernel)) ggX9_word_X0_saidBy
set_option maxRecDepth 20000 in
theorem ggX9_word_X8_length : GoodIn wsX9_word wsX8_length := goodIn_r _ [29] (by decide +kernel) (by decide +kernel)
set_option maxRecDepth 20000 in
theorem gX9_word_X8_length : GoodIn wsX9_word (va_wsS RX9 88 yX8_length wsX8_length) := goodIn_app (goodIn_of _ (by decide +kernel)) ggX9_word_X8_length
set_option maxRecDepth 20000 in
theorem ggX9_word_X8_soundAt : GoodIn wsX9_word wsX8_soundAt := goodIn_r _ [32] (by decide +kernel) (by decide +kernel)
set_option maxRecDepth 20000 in
theorem gX9_word_X8_soundAt : GoodIn wsX9_word (va_wsS RX9 93 yX8_soundAt wsX8_soundAt) := goodIn_app (goodIn_of _ (by decide +kernel)) ggX9_word_X8_soundAt
theorem dX9_word_0 : decode cX9_word 0 = .ok (.iload_n 1, 1) := by decide +kernel
theorem dX9_word_1 : decode cX9_word 1 = .ok (.invokestatic 74, 3) := by decide +kernel
theorem dX9_word_4 : decode cX9_word 4 = .ok (.ifCond .eq 30, 3) := by decide +kernel
theorem dX9_word_7 : decode cX9_word 7 = .ok (.iload_n 2, 1) := by decide +kernel
theorem dX9_word_8 : decode cX9_word 8 = .ok (.invokestatic 78, 3) := by decide +kernel
theorem dX9_word_11 : decode cX9_word 11 = .ok (.ifCond .eq 23, 3) := by decide +kernel
theorem dX9_word_14 : decode cX9_word 14 = .ok (.iload_n 3, 1) := by decide +kernel
theorem dX9_word_15 : decode cX9_word 15 = .ok (.invokestatic 74, 3) := by decide +kernel
theorem dX9_word_18 : decode cX9_word 18 = .ok (.ifCond .eq 16, 3) := by decide +kernel
theorem dX9_word_21 : decode cX9_word 21 = .ok (.iload 4, 2) := by decide +kernel
theorem dX9_word_23 : decode cX9_word 23 = .ok (.iconst (-1), 1) := by decide +kernel
theorem dX9_word_24 : decode cX9_word 24 = .ok (.if_icmp .lt 10, 3) := by decide +kernel
theorem dX9_word_27 : decode cX9_word 27 = .ok (.iload 4, 2) := by decide +kernel
theorem dX9_word_29 : decode cX9_word 29 = .ok (.bipush 6, 2) := by decide +kernel
theorem dX9_word_31 : decode cX9_word 31 = .ok (.if_icmp .lt 5, 3) := by decide +kernel
theorem dX9_word_34 : decode cX9_word 34 = .ok (.iconst (-1), 1) := by decide +kernel
theorem dX9_word_35 : decode cX9_word 35 = .ok (.ireturn, 1) := by decide +kernel
theorem dX9_word_36 : decode cX9_word 36 = .ok (.aload_n 0, 1) := by decide +kernel
theorem dX9_word_37 : decode cX9_word 37 = .ok (.getfield 49, 3) := by decide +kernel
theorem dX9_word_40 : decode cX9_word 40 = .ok (.iload_n 1, 1) := by decide +kernel
theorem dX9_word_41 : decode cX9_word 41 = .ok (.iload_n 2, 1) := by decide +kernel
theorem dX9_word_42 : decode cX9_word 42 = .ok (.invokevirtual 81, 3) := by decide +kernel
theorem dX9_word_45 : decode cX9_word 45 = .ok (.istore 5, 2) := by decide +kernel
theorem dX9_word_47 : decode cX9_word 47 = .ok (.iload_n 3, 1) := by decide +kernel
theorem dX9_word_48 : decode cX9_word 48 = .ok (.iload_n 1, 1) := by decide +kernel
theorem dX9_word_49 : decode cX9_word 49 = .ok (.if_icmp .eq 15, 3) := by decide +kernel
theorem dX9_word_52 : decode cX9_word 52 = .ok (.aload_n 0, 1) := by decide +kernel
theorem dX9_word_53 : decode cX9_word 53 = .ok (.getfield 49, 3) := by decide +kernel
theorem dX9_word_56 : decode cX9_word 56 = .ok (.iload_n 3, 1) := by decide +kernel
theorem dX9_word_57 : decode cX9_word 57 = .ok (.iload 5, 2) := by decide +kernel
theorem dX9_word_59 : decode cX9_word 59 = .ok (.invokevirtual 85, 3) := by decide +kernel
theorem dX9_word_62 : decode cX9_word 62 = .ok (.istore 5, 2) := by decide +kernel
theorem dX9_word_64 : decode cX9_word 64 = .ok (.iload 4, 2) := by decide +kernel
theorem dX9_word_66 : decode cX9_word 66 = .ok (.ifCond .ge 9, 3) := by decide +kernel
theorem dX9_word_69 : decode cX9_word 69 = .ok (.iload 5, 2) := by decide +kernel
theorem dX9_word_71 : decode cX9_word 71 = .ok (.invokestatic 88, 3) := by decide +kernel
theorem dX9_word_74 : decode cX9_word 74 = .ok (.ireturn, 1) := by decide +kernel
theorem dX9_word_75 : decode cX9_word 75 = .ok (.iload 4, 2) := by decide +kernel
theorem dX9_word_77 : decode cX9_word 77 = .ok (.iload 5, 2) := by decide +kernel
theorem dX9_word_79 : decode cX9_word 79 = .ok (.invokestatic 88, 3) := by decide +kernel
theorem dX9_word_82 : decode cX9_word 82 = .ok (.if_icmp .ge 13, 3) := by decide +kernel
theorem dX9_word_85 : decode cX9_word 85 = .ok (.iload 5, 2) := by decide +kernel
theorem dX9_word_87 : decode cX9_word 87 = .ok (.iload 4, 2) := by decide +kernel
theorem dX9_word_89 : decode cX9_word 89 = .ok (.invokestatic 93, 3) := by decide +kernel
theorem dX9_word_92 : decode cX9_word 92 = .ok (.goto 5, 3) := by decide +kernel
theorem dX9_word_95 : decode cX9_word 95 = .ok (.bipush (-4), 2) := by decide +kernel
theorem dX9_word_97 : decode cX9_word 97 = .ok (.ireturn, 1) := by decide +kernel
set_option maxRecDepth 20000 in
theorem ggX9_far_X9_isPeople : GoodIn wsX9_far wsX9_isPeople := goodIn_r _ [6] (by decide +kernel) (by decide +kernel)
set_option maxRecDepth 20000 in
theorem gX9_far_X9_isPeople : GoodIn wsX9_far (va_wsS RX9 74 yX9_isPeople wsX9_isPeople) := goodIn_app (goodIn_of _ (by decide +kernel)) ggX9_far_X9_isPeople
set_option maxRecDepth 20000 in
theorem ggX9_far_X9_isMeaning : GoodIn wsX9_far wsX9_isMeaning := goodIn_r _ [9] (by decide +kernel) (by decide +kernel)
set_option maxRecDepth 20000 in
theorem gX9_far_X9_isMeaning : GoodIn wsX9_far (va_wsS RX9 78 yX9_isMeaning wsX9_isMeaning) := goodIn_app (goodIn_of _ (by decide +kernel)) ggX9_far_X9_isMeaning
set_option maxRecDepth 20000 in
theorem ggX9_far_X0_wordOf : GoodIn wsX9_far wsX0_wordOf := goodIn_r _ [14, 15, 16, 17, 13, 18, 19, 20, 21, 22, 47, 48, 49, 50, 51, 52, 53, 54, 55] (by decide +kernel) (by decide +kernel)
set_option maxRecDepth 20000 in
theorem gX9_far_X0_wordOf : GoodIn wsX9_far (wsV RX9 81 RX0 yX0_wordOf wsX0_wordOf) := goodIn_app (goodIn_of _ (by decide +kernel)) ggX9_far_X0_wordOf
set_option maxRecDepth 20000 in
theorem ggX9_far_X3_apart : GoodIn wsX9_far wsX3_apart := goodIn_r _ [27, 28, 29, 30, 31, 32, 33, 34, 35, 36, 37, 38, 39, 56] (by decide +kernel) (by decide +kernel)
set_option maxRecDepth 20000 in
theorem gX9_far_X3_apart : GoodIn wsX9_far (wsV RX9 96 RX3 yX3_apart wsX3_apart) := goodIn_app (goodIn_of _ (by decide +kernel)) ggX9_far_X3_apart
theorem dX9_far_0 : decode cX9_far 0 = .ok (.iload_n 1, 1) := by decide +kernel
theorem dX9_far_1 : decode cX9_far 1 = .ok (.invokestatic 74, 3) := by decide +kernel
theorem dX9_far_4 : decode cX9_far 4 = .ok (.ifCond .eq 25, 3) := by decide +kernel
theorem dX9_far_7 : decode cX9_far 7 = .ok (.iload_n 2, 1) := by decide +kernel
theorem dX9_far_8 : decode cX9_far 8 = .ok (.invokestatic 78, 3) := by decide +kernel
theorem dX9_far_11 : decode cX9_far 11 = .ok (.ifCond .eq 18, 3) := by decide +kernel
theorem dX9_far_14 : decode cX9_far 14 = .ok (.iload_n 3, 1) := by decide +kernel
theorem dX9_far_15 : decode cX9_far 15 = .ok (.invokestatic 74, 3) := by decide +kernel
theorem dX9_far_18 : decode cX9_far 18 = .ok (.ifCond .eq 11, 3) := by decide +kernel
theorem dX9_far_21 : decode cX9_far 21 = .ok (.iload 4, 2) := by decide +kernel
theorem dX9_far_23 : decode cX9_far 23 = .ok (.invokestatic 78, 3) := by decide +kernel
theorem dX9_far_26 : decode cX9_far 26 = .ok (.ifCond .ne 5, 3) := by decide +kernel
theorem dX9_far_29 : decode cX9_far 29 = .ok (.iconst (-1), 1) := by decide +kernel
theorem dX9_far_30 : decode cX9_far 30 = .ok (.ireturn, 1) := by decide +kernel
theorem dX9_far_31 : decode cX9_far 31 = .ok (.aload_n 0, 1) := by decide +kernel
theorem dX9_far_32 : decode cX9_far 32 = .ok (.getfield 49, 3) := by decide +kernel
theorem dX9_far_35 : decode cX9_far 35 = .ok (.iload_n 1, 1) := by decide +kernel
theorem dX9_far_36 : decode cX9_far 36 = .ok (.iload_n 2, 1) := by decide +kernel
theorem dX9_far_37 : decode cX9_far 37 = .ok (.invokevirtual 81, 3) := by decide +kernel
theorem dX9_far_40 : decode cX9_far 40 = .ok (.istore 5, 2) := by decide +kernel
theorem dX9_far_42 : decode cX9_far 42 = .ok (.aload_n 0, 1) := by decide +kernel
theorem dX9_far_43 : decode cX9_far 43 = .ok (.getfield 49, 3) := by decide +kernel
theorem dX9_far_46 : decode cX9_far 46 = .ok (.iload_n 3, 1) := by decide +kernel
theorem dX9_far_47 : decode cX9_far 47 = .ok (.iload 4, 2) := by decide +kernel
theorem dX9_far_49 : decode cX9_far 49 = .ok (.invokevirtual 81, 3) := by decide +kernel
theorem dX9_far_52 : decode cX9_far 52 = .ok (.istore 6, 2) := by decide +kernel
theorem dX9_far_54 : decode cX9_far 54 = .ok (.iload 5, 2) := by decide +kernel
theorem dX9_far_56 : decode cX9_far 56 = .ok (.ifCond .eq 8, 3) := by decide +kernel
theorem dX9_far_59 : decode cX9_far 59 = .ok (.iload 6, 2) := by decide +kernel
theorem dX9_far_61 : decode cX9_far 61 = .ok (.ifCond .ne 6, 3) := by decide +kernel
theorem dX9_far_64 : decode cX9_far 64 = .ok (.bipush (-2), 2) := by decide +kernel
theorem dX9_far_66 : decode cX9_far 66 = .ok (.ireturn, 1) := by decide +kernel
theorem dX9_far_67 : decode cX9_far 67 = .ok (.aload_n 0, 1) := by decide +kernel
theorem dX9_far_68 : decode cX9_far 68 = .ok (.getfield 42, 3) := by decide +kernel
theorem dX9_far_71 : decode cX9_far 71 = .ok (.iload 5, 2) := by decide +kernel
theorem dX9_far_73 : decode cX9_far 73 = .ok (.iload 6, 2) := by decide +kernel
theorem dX9_far_75 : decode cX9_far 75 = .ok (.invokevirtual 96, 3) := by decide +kernel
theorem dX9_far_78 : decode cX9_far 78 = .ok (.ireturn, 1) := by decide +kernel
set_option maxRecDepth 20000 in
theorem ggX9_like_X9_isMeaning : GoodIn wsX9_like wsX9_isMeaning := goodIn_r _ [5] (by decide +kernel) (by decide +kernel)
set_option maxRecDepth 20000 in
theorem gX9_like_X9_isMeaning : GoodIn wsX9_like (va_wsS RX9 78 yX9_isMeaning wsX9_isMeaning) := goodIn_app (goodIn_of _ (by decide +kernel)) ggX9_like_X9_isMeaning
set_option maxRecDepth 20000 in
theorem ggX9_like_X0_isTold : GoodIn wsX9_like wsX0_isTold := goodIn_r _ [10, 11, 12, 13, 9, 14, 15, 16, 17, 18, 19, 20, 21, 22, 76, 77, 78, 79, 80, 81, 82, 83, 84] (by decide +kernel) (by decide +kernel)
set_option maxRecDepth 20000 in
theorem gX9_like_X0_isTold : GoodIn wsX9_like (wsV RX9 99 RX0 yX0_isTold wsX0_isTold) := goodIn_app (goodIn_of _ (by decide +kernel)) ggX9_like_X0_isTold
set_option maxRecDepth 20000 in
theorem ggX9_like_X9_likeOfMeaning : GoodIn wsX9_like wsX9_likeOfMeaning := goodIn_r _ [26, 27, 1, 28, 12, 13, 9, 14, 15, 16, 17, 18, 19, 20, 21, 22, 29, 30, 31, 32, 33, 34, 35, 36, 37, 38, 39, 40, 41, 42, 43, 44, 45, 46, 47, 48, 49, 50, 51, 52, 53, 54, 55, 56, 57, 58, 59, 60, 61, 62, 63, 64, 65, 66, 67, 68, 69, 70, 71, 72, 73, 74, 75, 76, 77, 78, 79, 80, 81, 82, 83, 84, 85] (by decide +kernel) (by decide +kernel)
set_option maxRecDepth 20000 in
theorem gX9_like_X9_likeOfMeaning : GoodIn wsX9_like (wsV RX9 102 RX9 yX9_likeOfMeaning wsX9_likeOfMeaning) := goodIn_app (goodIn_of _ (by decide +kernel)) ggX9_like_X9_likeOfMeaning
theorem dX9_like_0 : decode cX9_like 0 = .ok (.iload_n 1, 1) := by decide +kernel
theorem dX9_like_1 : decode cX9_like 1 = .ok (.invokestatic 78, 3) := by decide +kernel
theorem dX9_like_4 : decode cX9_like 4 = .ok (.ifCond .ne 5, 3) := by decide +kernel
theorem dX9_like_7 : decode cX9_like 7 = .ok (.iconst (-1), 1) := by decide +kernel
theorem dX9_like_8 : decode cX9_like 8 = .ok (.ireturn, 1) := by decide +kernel
theorem dX9_like_9 : decode cX9_like 9 = .ok (.aload_n 0, 1) := by decide +kernel
theorem dX9_like_10 : decode cX9_like 10 = .ok (.getfield 49, 3) := by decide +kernel
theorem dX9_like_13 : decode cX9_like 13 = .ok (.iload_n 1, 1) := by decide +kernel
theorem dX9_like_14 : decode cX9_like 14 = .ok (.invokevirtual 99, 3) := by decide +kernel
theorem dX9_like_17 : decode cX9_like 17 = .ok (.ifCond .eq 11, 3) := by decide +kernel
theorem dX9_like_20 : decode cX9_like 20 = .ok (.aload_n 0, 1) := by decide +kernel
theorem dX9_like_21 : decode cX9_like 21 = .ok (.iload_n 1, 1) := by decide +kernel
theorem dX9_like_22 : decode cX9_like 22 = .ok (.invokevirtual 102, 3) := by decide +kernel
theorem dX9_like_25 : decode cX9_like 25 = .ok (.goto 5, 3) := by decide +kernel
theorem dX9_like_28 : decode cX9_like 28 = .ok (.bipush (-2), 2) := by decide +kernel
theorem dX9_like_30 : decode cX9_like 30 = .ok (.ireturn, 1) := by decide +kernel
set_option maxRecDepth 20000 in
theorem ggX9_stand_X9_isMeaning : GoodIn wsX9_stand wsX9_isMeaning := goodIn_r _ [6] (by decide +kernel) (by decide +kernel)
set_option maxRecDepth 20000 in
theorem gX9_stand_X9_isMeaning : GoodIn wsX9_stand (va_wsS RX9 78 yX9_isMeaning wsX9_isMeaning) := goodIn_app (goodIn_of _ (by decide +kernel)) ggX9_stand_X9_isMeaning
set_option maxRecDepth 20000 in
theorem ggX9_stand_X9_isPeople : GoodIn wsX9_stand wsX9_isPeople := goodIn_r _ [9] (by decide +kernel) (by decide +kernel)
set_option maxRecDepth 20000 in
theorem gX9_stand_X9_isPeople : GoodIn wsX9_stand (va_wsS RX9 74 yX9_isPeople wsX9_isPeople) := goodIn_app (goodIn_of _ (by decide +kernel)) ggX9_stand_X9_isPeople
set_option maxRecDepth 20000 in
theorem ggX9_stand_X0_isTold : GoodIn wsX9_stand wsX0_isTold := goodIn_r _ [14, 15, 16, 17, 13, 18, 19, 20, 21, 22, 23, 24, 25, 26, 41, 42, 43, 44, 45, 46, 47, 48, 49] (by decide +kernel) (by decide +kernel)
set_option maxRecDepth 20000 in
theorem gX9_stand_X0_isTold : GoodIn wsX9_stand (wsV RX9 99 RX0 yX0_isTold wsX0_isTold) := goodIn_app (goodIn_of _ (by decide +kernel)) ggX9_stand_X0_isTold
set_option maxRecDepth 20000 in
theorem ggX9_stand_X6_of : GoodIn wsX9_stand wsX6_of := goodIn_r _ [31, 32, 33, 24, 25, 26, 50, 51, 52] (by decide +kernel) (by decide +kernel)
set_option maxRecDepth 20000 in
theorem gX9_stand_X6_of : GoodIn wsX9_stand (wsV RX9 105 RX6 yX6_of wsX6_of) := goodIn_app (goodIn_of _ (by decide +kernel)) ggX9_stand_X6_of
theorem dX9_stand_0 : decode cX9_stand 0 = .ok (.iload_n 1, 1) := by decide +kernel
theorem dX9_stand_1 : decode cX9_stand 1 = .ok (.invokestatic 78, 3) := by decide +kernel
theorem dX9_stand_4 : decode cX9_stand 4 = .ok (.ifCond .eq 10, 3) := by decide +kernel
theorem dX9_stand_7 : decode cX9_stand 7 = .ok (.iload_n 2, 1) := by decide +kernel
theorem dX9_stand_8 : decode cX9_stand 8 = .ok (.invokestatic 74, 3) := by decide +kernel
theorem dX9_stand_11 : decode cX9_stand 11 = .ok (.ifCond .ne 5, 3) := by decide +kernel
theorem dX9_stand_14 : decode cX9_stand 14 = .ok (.iconst (-1), 1) := by decide +kernel
theorem dX9_stand_15 : decode cX9_stand 15 = .ok (.ireturn, 1) := by decide +kernel
theorem dX9_stand_16 : decode cX9_stand 16 = .ok (.aload_n 0, 1) := by decide +kernel
theorem dX9_stand_17 : decode cX9_stand 17 = .ok (.getfield 49, 3) := by decide +kernel
theorem dX9_stand_20 : decode cX9_stand 20 = .ok (.iload_n 1, 1) := by decide +kernel
theorem dX9_stand_21 : decode cX9_stand 21 = .ok (.invokevirtual 99, 3) := by decide +kernel
theorem dX9_stand_24 : decode cX9_stand 24 = .ok (.ifCond .eq 15, 3) := by decide +kernel
theorem dX9_stand_27 : decode cX9_stand 27 = .ok (.aload_n 0, 1) := by decide +kernel
theorem dX9_stand_28 : decode cX9_stand 28 = .ok (.getfield 28, 3) := by decide +kernel
theorem dX9_stand_31 : decode cX9_stand 31 = .ok (.iload_n 1, 1) := by decide +kernel
theorem dX9_stand_32 : decode cX9_stand 32 = .ok (.iload_n 2, 1) := by decide +kernel
theorem dX9_stand_33 : decode cX9_stand 33 = .ok (.invokevirtual 105, 3) := by decide +kernel
theorem dX9_stand_36 : decode cX9_stand 36 = .ok (.goto 5, 3) := by decide +kernel
theorem dX9_stand_39 : decode cX9_stand 39 = .ok (.bipush (-2), 2) := by decide +kernel
theorem dX9_stand_41 : decode cX9_stand 41 = .ok (.ireturn, 1) := by decide +kernel
set_option maxRecDepth 20000 in
theorem ggX9_set_X9_isMeaning : GoodIn wsX9_set wsX9_isMeaning := goodIn_r _ [6] (by decide +kernel) (by decide +kernel)
set_option maxRecDepth 20000 in
theorem gX9_set_X9_isMeaning : GoodIn wsX9_set (va_wsS RX9 78 yX9_isMeaning wsX9_isMeaning) := goodIn_app (goodIn_of _ (by decide +kernel)) ggX9_set_X9_isMeaning
set_option maxRecDepth 20000 in
theorem ggX9_set_X9_isStand : GoodIn wsX9_set wsX9_isStand := goodIn_r _ [10, 1, 11, 12, 13, 14, 15, 16, 17, 18, 19, 20, 42, 43, 44, 45, 46, 47, 48, 49, 50, 51, 52, 53, 54, 55, 56, 57] (by decide +kernel) (by decide +kernel)
set_option maxRecDepth 20000 in
theorem gX9_set_X9_isStand : GoodIn wsX9_set (wsV RX9 108 RX9 yX9_isStand wsX9_isStand) := goodIn_app (goodIn_of _ (by decide +kernel)) ggX9_set_X9_isStand
set_option maxRecDepth 20000 in
theorem ggX9_set_X0_isTold : GoodIn wsX9_set wsX0_isTold := goodIn_r _ [24, 25, 26, 27, 14, 28, 29, 30, 31, 32, 17, 18, 19, 20, 49, 50, 51, 52, 53, 54, 55, 56, 57] (by decide +kernel) (by decide +kernel)
set_option maxRecDepth 20000 in
theorem gX9_set_X0_isTold : GoodIn wsX9_set (wsV RX9 99 RX0 yX0_isTold wsX0_isTold) := goodIn_app (goodIn_of _ (by decide +kernel)) ggX9_set_X0_isTold
set_option maxRecDepth 20000 in
theorem ggX9_set_X6_put : GoodIn wsX9_set wsX6_put := goodIn_r _ [37, 38, 39, 40, 19, 41, 58, 59, 60] (by decide +kernel) (by decide +kernel)
set_option maxRecDepth 20000 in
theorem gX9_set_X6_put : GoodIn wsX9_set (wsV RX9 112 RX6 yX6_put wsX6_put) := goodIn_app (goodIn_of _ (by decide +kernel)) ggX9_set_X6_put
theorem dX9_set_0 : decode cX9_set 0 = .ok (.iload_n 1, 1) := by decide +kernel
theorem dX9_set_1 : decode cX9_set 1 = .ok (.invokestatic 78, 3) := by decide +kernel
theorem dX9_set_4 : decode cX9_set 4 = .ok (.ifCond .eq 12, 3) := by decide +kernel
theorem dX9_set_7 : decode cX9_set 7 = .ok (.aload_n 0, 1) := by decide +kernel
theorem dX9_set_8 : decode cX9_set 8 = .ok (.iload_n 2, 1) := by decide +kernel
theorem dX9_set_9 : decode cX9_set 9 = .ok (.iload_n 3, 1) := by decide +kernel
theorem dX9_set_10 : decode cX9_set 10 = .ok (.invokevirtual 108, 3) := by decide +kernel
theorem dX9_set_13 : decode cX9_set 13 = .ok (.ifCond .ne 5, 3) := by decide +kernel
theorem dX9_set_16 : decode cX9_set 16 = .ok (.iconst (-1), 1) := by decide +kernel
theorem dX9_set_17 : decode cX9_set 17 = .ok (.ireturn, 1) := by decide +kernel
theorem dX9_set_18 : decode cX9_set 18 = .ok (.aload_n 0, 1) := by decide +kernel
theorem dX9_set_19 : decode cX9_set 19 = .ok (.getfield 49, 3) := by decide +kernel
theorem dX9_set_22 : decode cX9_set 22 = .ok (.iload_n 1, 1) := by decide +kernel
theorem dX9_set_23 : decode cX9_set 23 = .ok (.invokevirtual 99, 3) := by decide +kernel
theorem dX9_set_26 : decode cX9_set 26 = .ok (.ifCond .ne 6, 3) := by decide +kernel
theorem dX9_set_29 : decode cX9_set 29 = .ok (.bipush (-2), 2) := by decide +kernel
theorem dX9_set_31 : decode cX9_set 31 = .ok (.ireturn, 1) := by decide +kernel
theorem dX9_set_32 : decode cX9_set 32 = .ok (.aload_n 0, 1) := by decide +kernel
theorem dX9_set_33 : decode cX9_set 33 = .ok (.getfield 28, 3) := by decide +kernel
theorem dX9_set_36 : decode cX9_set 36 = .ok (.iload_n 1, 1) := by decide +kernel
theorem dX9_set_37 : decode cX9_set 37 = .ok (.iload_n 2, 1) := by decide +kernel
theorem dX9_set_38 : decode cX9_set 38 = .ok (.iload_n 3, 1) := by decide +kernel
theorem dX9_set_39 : decode cX9_set 39 = .ok (.invokevirtual 112, 3) := by decide +kernel
theorem dX9_set_42 : decode cX9_set 42 = .ok (.iconst 1, 1) := by decide +kernel
theorem dX9_set_43 : decode cX9_set 43 = .ok (.ireturn, 1) := by decide +kernel
set_option maxRecDepth 20000 in
theorem ggX9_million_X9_isMeaning : GoodIn wsX9_million wsX9_isMeaning := goodIn_r _ [6] (by decide +kernel) (by decide +kernel)
set_option maxRecDepth 20000 in
theorem gX9_million_X9_isMeaning : GoodIn wsX9_million (va_wsS RX9 78 yX9_isMeaning wsX9_isMeaning) := goodIn_app (goodIn_of _ (by decide +kernel)) ggX9_million_X9_isMeaning
set_option maxRecDepth 20000 in
theorem ggX9_million_X9_isMeetings : GoodIn wsX9_million wsX9_isMeetings := goodIn_r _ [9] (by decide +kernel) (by decide +kernel)
set_option maxRecDepth 20000 in
theorem gX9_million_X9_isMeetings : GoodIn wsX9_million (va_wsS RX9 116 yX9_isMeetings wsX9_isMeetings) := goodIn_app (goodIn_of _ (by decide +kernel)) ggX9_million_X9_isMeetings
set_option maxRecDepth 20000 in
theorem ggX9_million_X9_isStand : GoodIn wsX9_million wsX9_isStand := goodIn_r _ [13, 1, 14, 15, 16, 17, 18, 19, 20, 21, 22, 23, 174, 175, 176, 177, 178, 179, 180, 181, 182, 183, 184, 185, 186, 187, 188, 189] (by decide +kernel) (by decide +kernel)
set_option maxRecDepth 20000 in
theorem gX9_million_X9_isStand : GoodIn wsX9_million (wsV RX9 108 RX9 yX9_isStand wsX9_isStand) := goodIn_app (goodIn_of _ (by decide +kernel)) ggX9_million_X9_isStand
set_option maxRecDepth 20000 in
theorem ggX9_million_X0_isTold : GoodIn wsX9_million wsX0_isTold := goodIn_r _ [27, 28, 29, 30, 17, 31, 32, 33, 34, 35, 20, 21, 22, 23, 181, 182, 183, 184, 185, 186, 187, 188, 189] (by decide +kernel) (by decide +kernel)
set_option maxRecDepth 20000 in
theorem gX9_million_X0_isTold : GoodIn wsX9_million (wsV RX9 99 RX0 yX0_isTold wsX0_isTold) := goodIn_app (goodIn_of _ (by decide +kernel)) ggX9_million_X0_isTold
set_option maxRecDepth 20000 in
theorem ggX9_million_X9_startCrowdAsNow : GoodIn wsX9_million wsX9_startCrowdAsNow := goodIn_r _ [39, 2, 1, 40, 41, 42, 43, 5, 44, 45, 46, 47, 48, 49, 50, 29, 30, 17, 31, 32, 33, 34, 35, 20, 21, 22, 23, 51, 52, 53, 54, 55, 56, 57, 58, 59, 60, 61, 62, 63, 64, 65, 66, 67, 68, 69, 70, 71, 72, 73, 74, 75, 76, 77, 78, 79, 80, 81, 82, 83, 84, 85, 86, 87, 88, 89, 90, 91, 92, 93, 94, 95, 96, 97, 98, 99, 100, 101, 102, 103, 104, 105, 106, 107, 108, 109, 110, 111, 112, 14, 15, 16, 18, 19, 113, 114, 115, 116, 117, 118, 119, 120, 121, 122, 123, 124, 125, 126, 127, 128, 129, 130, 131, 132, 133, 134, 135, 136, 137, 138, 139, 140, 141, 142, 143, 174, 175, 176, 177, 178, 179, 180, 181, 182, 183, 184, 185, 186, 187, 188, 189, 190, 191, 192, 193, 194, 195, 196, 197, 198, 199, 200] (by decide +kernel) (by decide +kernel)
set_option maxRecDepth 20000 in
theorem gX9_million_X9_startCrowdAsNow : GoodIn wsX9_million (wsV RX9 119 RX9 yX9_startCrowdAsNow wsX9_startCrowdAsNow) := goodIn_app (goodIn_of _ (by decide +kernel)) ggX9_million_X9_startCrowdAsNow
set_option maxRecDepth 20000 in
theorem ggX9_million_X1_meet : GoodIn wsX9_million wsX1_meet := goodIn_r _ [147, 148, 149, 150, 109, 151, 152, 132, 153, 154, 155, 156, 157, 119, 120, 158, 159, 160, 161, 111, 112, 138, 139, 140, 162, 163, 22, 164, 165, 166, 167, 168, 169, 141, 142, 143, 191, 192, 193, 194, 195, 196, 197] (by decide +kernel) (by decide +kernel)
set_option maxRecDepth 20000 in
theorem gX9_million_X1_meet : GoodIn wsX9_million (wsV RX9 122 RX1 yX1_meet wsX1_meet) := goodIn_app (goodIn_of _ (by decide +kernel)) ggX9_million_X1_meet
set_option maxRecDepth 20000 in
theorem ggX9_million_X1_inStand : GoodIn wsX9_million wsX1_inStand := goodIn_r _ [173, 132, 138, 139, 109, 140, 162, 163, 22, 164, 191, 192, 193, 194, 195, 196, 197] (by decide +kernel) (by decide +kernel)
set_option maxRecDepth 20000 in
theorem gX9_million_X1_inStand : GoodIn wsX9_million (wsV RX9 125 RX1 yX1_inStand wsX1_inStand) := goodIn_app (goodIn_of _ (by decide +kernel)) ggX9_million_X1_inStand
theorem dX9_million_0 : decode cX9_million 0 = .ok (.iload_n 1, 1) := by decide +kernel
theorem dX9_million_1 : decode cX9_million 1 = .ok (.invokestatic 78, 3) := by decide +kernel
theorem dX9_million_4 : decode cX9_million 4 = .ok (.ifCond .eq 20, 3) := by decide +kernel
theorem dX9_million_7 : decode cX9_million 7 = .ok (.iload_n 2, 1) := by decide +kernel
theorem dX9_million_8 : decode cX9_million 8 = .ok (.invokestatic 116, 3) := by decide +kernel
theorem dX9_million_11 : decode cX9_million 11 = .ok (.ifCond .eq 13, 3) := by decide +kernel
theorem dX9_million_14 : decode cX9_million 14 = .ok (.aload_n 0, 1) := by decide +kernel
theorem dX9_million_15 : decode cX9_million 15 = .ok (.iload_n 3, 1) := by decide +kernel
theorem dX9_million_16 : decode cX9_million 16 = .ok (.iload 4, 2) := by decide +kernel
theorem dX9_million_18 : decode cX9_million 18 = .ok (.invokevirtual 108, 3) := by decide +kernel
theorem dX9_million_21 : decode cX9_million 21 = .ok (.ifCond .ne 5, 3) := by decide +kernel
theorem dX9_million_24 : decode cX9_million 24 = .ok (.iconst (-1), 1) := by decide +kernel
theorem dX9_million_25 : decode cX9_million 25 = .ok (.ireturn, 1) := by decide +kernel
theorem dX9_million_26 : decode cX9_million 26 = .ok (.aload_n 0, 1) := by decide +kernel
theorem dX9_million_27 : decode cX9_million 27 = .ok (.getfield 49, 3) := by decide +kernel
theorem dX9_million_30 : decode cX9_million 30 = .ok (.iload_n 1, 1) := by decide +kernel
theorem dX9_million_31 : decode cX9_million 31 = .ok (.invokevirtual 99, 3) := by decide +kernel
theorem dX9_million_34 : decode cX9_million 34 = .ok (.ifCond .ne 6, 3) := by decide +kernel
theorem dX9_million_37 : decode cX9_million 37 = .ok (.bipush (-2), 2) := by decide +kernel
theorem dX9_million_39 : decode cX9_million 39 = .ok (.ireturn, 1) := by decide +kernel
theorem dX9_million_40 : decode cX9_million 40 = .ok (.aload_n 0, 1) := by decide +kernel
theorem dX9_million_41 : decode cX9_million 41 = .ok (.iload_n 1, 1) := by decide +kernel
theorem dX9_million_42 : decode cX9_million 42 = .ok (.invokevirtual 119, 3) := by decide +kernel
theorem dX9_million_45 : decode cX9_million 45 = .ok (.aload_n 0, 1) := by decide +kernel
theorem dX9_million_46 : decode cX9_million 46 = .ok (.getfield 35, 3) := by decide +kernel
theorem dX9_million_49 : decode cX9_million 49 = .ok (.iload_n 2, 1) := by decide +kernel
theorem dX9_million_50 : decode cX9_million 50 = .ok (.invokevirtual 122, 3) := by decide +kernel
theorem dX9_million_53 : decode cX9_million 53 = .ok (.aload_n 0, 1) := by decide +kernel
theorem dX9_million_54 : decode cX9_million 54 = .ok (.getfield 35, 3) := by decide +kernel
theorem dX9_million_57 : decode cX9_million 57 = .ok (.iload_n 3, 1) := by decide +kernel
theorem dX9_million_58 : decode cX9_million 58 = .ok (.iload 4, 2) := by decide +kernel
theorem dX9_million_60 : decode cX9_million 60 = .ok (.invokevirtual 125, 3) := by decide +kernel
theorem dX9_million_63 : decode cX9_million 63 = .ok (.l2i, 1) := by decide +kernel
theorem dX9_million_64 : decode cX9_million 64 = .ok (.ireturn, 1) := by decide +kernel
set_option maxRecDepth 20000 in
theorem ggX9_won_X9_isMeaning : GoodIn wsX9_won wsX9_isMeaning := goodIn_r _ [6] (by decide +kernel) (by decide +kernel)
set_option maxRecDepth 20000 in
theorem gX9_won_X9_isMeaning : GoodIn wsX9_won (va_wsS RX9 78 yX9_isMeaning wsX9_isMeaning) := goodIn_app (goodIn_of _ (by decide +kernel)) ggX9_won_X9_isMeaning
set_option maxRecDepth 20000 in
theorem ggX9_won_X9_isMeetings : GoodIn wsX9_won wsX9_isMeetings := goodIn_r _ [9] (by decide +kernel) (by decide +kernel)
set_option maxRecDepth 20000 in
theorem gX9_won_X9_isMeetings : GoodIn wsX9_won (va_wsS RX9 116 yX9_isMeetings wsX9_isMeetings) := goodIn_app (goodIn_of _ (by decide +kernel)) ggX9_won_X9_isMeetings
set_option maxRecDepth 20000 in
theorem ggX9_won_X9_isPeople : GoodIn wsX9_won wsX9_isPeople := goodIn_r _ [12] (by decide +kernel) (by decide +kernel)
set_option maxRecDepth 20000 in
theorem gX9_won_X9_isPeople : GoodIn wsX9_won (va_wsS RX9 74 yX9_isPeople wsX9_isPeople) := goodIn_app (goodIn_of _ (by decide +kernel)) ggX9_won_X9_isPeople
set_option maxRecDepth 20000 in
theorem ggX9_won_X0_isTold : GoodIn wsX9_won wsX0_isTold := goodIn_r _ [17, 18, 19, 20, 16, 21, 22, 23, 24, 25, 26, 27, 28, 29, 184, 185, 186, 187, 188, 189, 190, 191, 192] (by decide +kernel) (by decide +kernel)
set_option maxRecDepth 20000 in
theorem gX9_won_X0_isTold : GoodIn wsX9_won (wsV RX9 99 RX0 yX0_isTold wsX0_isTold) := goodIn_app (goodIn_of _ (by decide +kernel)) ggX9_won_X0_isTold
set_option maxRecDepth 20000 in
theorem ggX9_won_X9_startCrowdAsNow : GoodIn wsX9_won wsX9_startCrowdAsNow := goodIn_r _ [33, 2, 1, 34, 35, 36, 37, 5, 38, 39, 40, 41, 42, 43, 44, 19, 20, 16, 21, 22, 23, 24, 25, 26, 27, 28, 29, 45, 46, 47, 48, 49, 50, 51, 52, 53, 54, 55, 56, 57, 58, 59, 60, 61, 62, 63, 64, 65, 66, 67, 68, 69, 70, 71, 72, 73, 74, 75, 76, 77, 78, 79, 80, 81, 82, 83, 84, 85, 86, 87, 88, 89, 90, 91, 92, 93, 94, 95, 96, 97, 98, 99, 100, 101, 102, 103, 104, 105, 106, 107, 108, 109, 110, 111, 112, 113, 114, 115, 116, 117, 118, 119, 120, 121, 122, 123, 124, 125, 126, 127, 128, 129, 130, 131, 132, 133, 134, 135, 136, 137, 138, 139, 140, 141, 142, 177, 178, 179, 180, 181, 182, 183, 184, 185, 186, 187, 188, 189, 190, 191, 192, 193, 194, 195, 196, 197, 198, 199, 200, 201, 202, 203] (by decide +kernel) (by decide +kernel)
set_option maxRecDepth 20000 in
theorem gX9_won_X9_startCrowdAsNow : GoodIn wsX9_won (wsV RX9 119 RX9 yX9_startCrowdAsNow wsX9_startCrowdAsNow) := goodIn_app (goodIn_of _ (by decide +kernel)) ggX9_won_X9_startCrowdAsNow
set_option maxRecDepth 20000 in
theorem ggX9_won_X1_meet : GoodIn wsX9_won wsX1_meet := goodIn_r _ [146, 147, 148, 149, 103, 150, 151, 131, 152, 153, 154, 155, 156, 118, 119, 157, 158, 159, 160, 105, 106, 137, 138, 139, 161, 162, 28, 163, 164, 165, 166, 167, 168, 140, 141, 142, 194, 195, 196, 197, 198, 199, 200] (by decide +kernel) (by decide +kernel)
set_option maxRecDepth 20000 in
theorem gX9_won_X1_meet : GoodIn wsX9_won (wsV RX9 122 RX1 yX1_meet wsX1_meet) := goodIn_app (goodIn_of _ (by decide +kernel)) ggX9_won_X1_meet
set_option maxRecDepth 20000 in
theorem ggX9_won_X1_allSaying : GoodIn wsX9_won wsX1_allSaying := goodIn_r _ [172, 119, 118, 173, 174, 175, 103, 176, 131, 137, 138, 139, 161, 162, 28, 163, 194, 195, 196, 197, 198, 199, 200] (by decide +kernel) (by decide +kernel)
set_option maxRecDepth 20000 in
theorem gX9_won_X1_allSaying : GoodIn wsX9_won (wsV RX9 129 RX1 yX1_allSaying wsX1_allSaying) := goodIn_app (goodIn_of _ (by decide +kernel)) ggX9_won_X1_allSaying
theorem dX9_won_0 : decode cX9_won 0 = .ok (.iload_n 1, 1) := by decide +kernel
theorem dX9_won_1 : decode cX9_won 1 = .ok (.invokestatic 78, 3) := by decide +kernel
theorem dX9_won_4 : decode cX9_won 4 = .ok (.ifCond .eq 17, 3) := by decide +kernel
theorem dX9_won_7 : decode cX9_won 7 = .ok (.iload_n 2, 1) := by decide +kernel
theorem dX9_won_8 : decode cX9_won 8 = .ok (.invokestatic 116, 3) := by decide +kernel
theorem dX9_won_11 : decode cX9_won 11 = .ok (.ifCond .eq 10, 3) := by decide +kernel
theorem dX9_won_14 : decode cX9_won 14 = .ok (.iload_n 3, 1) := by decide +kernel
theorem dX9_won_15 : decode cX9_won 15 = .ok (.invokestatic 74, 3) := by decide +kernel
theorem dX9_won_18 : decode cX9_won 18 = .ok (.ifCond .ne 5, 3) := by decide +kernel
theorem dX9_won_21 : decode cX9_won 21 = .ok (.iconst (-1), 1) := by decide +kernel
theorem dX9_won_22 : decode cX9_won 22 = .ok (.ireturn, 1) := by decide +kernel
theorem dX9_won_23 : decode cX9_won 23 = .ok (.aload_n 0, 1) := by decide +kernel
theorem dX9_won_24 : decode cX9_won 24 = .ok (.getfield 49, 3) := by decide +kernel
theorem dX9_won_27 : decode cX9_won 27 = .ok (.iload_n 1, 1) := by decide +kernel
theorem dX9_won_28 : decode cX9_won 28 = .ok (.invokevirtual 99, 3) := by decide +kernel
theorem dX9_won_31 : decode cX9_won 31 = .ok (.ifCond .ne 6, 3) := by decide +kernel
theorem dX9_won_34 : decode cX9_won 34 = .ok (.bipush (-2), 2) := by decide +kernel
theorem dX9_won_36 : decode cX9_won 36 = .ok (.ireturn, 1) := by decide +kernel
theorem dX9_won_37 : decode cX9_won 37 = .ok (.aload_n 0, 1) := by decide +kernel
theorem dX9_won_38 : decode cX9_won 38 = .ok (.iload_n 1, 1) := by decide +kernel
theorem dX9_won_39 : decode cX9_won 39 = .ok (.invokevirtual 119, 3) := by decide +kernel
theorem dX9_won_42 : decode cX9_won 42 = .ok (.aload_n 0, 1) := by decide +kernel
theorem dX9_won_43 : decode cX9_won 43 = .ok (.getfield 35, 3) := by decide +kernel
theorem dX9_won_46 : decode cX9_won 46 = .ok (.iload_n 2, 1) := by decide +kernel
theorem dX9_won_47 : decode cX9_won 47 = .ok (.invokevirtual 122, 3) := by decide +kernel
theorem dX9_won_50 : decode cX9_won 50 = .ok (.aload_n 0, 1) := by decide +kernel
theorem dX9_won_51 : decode cX9_won 51 = .ok (.getfield 35, 3) := by decide +kernel
theorem dX9_won_54 : decode cX9_won 54 = .ok (.iload_n 3, 1) := by decide +kernel
theorem dX9_won_55 : decode cX9_won 55 = .ok (.invokevirtual 129, 3) := by decide +kernel
theorem dX9_won_58 : decode cX9_won 58 = .ok (.l2i, 1) := by decide +kernel
theorem dX9_won_59 : decode cX9_won 59 = .ok (.ireturn, 1) := by decide +kernel
set_option maxRecDepth 20000 in
theorem ggX9_soon_X9_isMeaning : GoodIn wsX9_soon wsX9_isMeaning := goodIn_r _ [7] (by decide +kernel) (by decide +kernel)
set_option maxRecDepth 20000 in
theorem gX9_soon_X9_isMeaning : GoodIn wsX9_soon (va_wsS RX9 78 yX9_isMeaning wsX9_isMeaning) := goodIn_app (goodIn_of _ (by decide +kernel)) ggX9_soon_X9_isMeaning
set_option maxRecDepth 20000 in
theorem ggX9_soon_X9_isHundredths : GoodIn wsX9_soon wsX9_isHundredths := goodIn_r _ [10] (by decide +kernel) (by decide +kernel)
set_option maxRecDepth 20000 in
theorem gX9_soon_X9_isHundredths : GoodIn wsX9_soon (va_wsS RX9 133 yX9_isHundredths wsX9_isHundredths) := goodIn_app (goodIn_of _ (by decide +kernel)) ggX9_soon_X9_isHundredths
set_option maxRecDepth 20000 in
theorem ggX9_soon_X0_isTold : GoodIn wsX9_soon wsX0_isTold := goodIn_r _ [15, 16, 17, 18, 14, 19, 20, 21, 22, 23, 24, 25, 26, 27, 178, 179, 180, 181, 182, 183, 184, 185, 186] (by decide +kernel) (by decide +kernel)
set_option maxRecDepth 20000 in
theorem gX9_soon_X0_isTold : GoodIn wsX9_soon (wsV RX9 99 RX0 yX0_isTold wsX0_isTold) := goodIn_app (goodIn_of _ (by decide +kernel)) ggX9_soon_X0_isTold
set_option maxRecDepth 20000 in
theorem ggX9_soon_X9_startCrowdAsNow : GoodIn wsX9_soon wsX9_startCrowdAsNow := goodIn_r _ [31, 2, 1, 32, 33, 34, 35, 6, 36, 37, 38, 39, 40, 41, 42, 17, 18, 14, 19, 20, 21, 22, 23, 24, 25, 26, 27, 43, 44, 45, 46, 47, 48, 49, 50, 51, 52, 53, 54, 55, 56, 57, 58, 59, 60, 61, 62, 63, 64, 65, 66, 67, 68, 69, 70, 71, 72, 73, 74, 75, 76, 77, 78, 79, 80, 81, 82, 83, 84, 85, 86, 87, 88, 89, 90, 91, 92, 93, 94, 95, 96, 97, 98, 99, 100, 101, 102, 103, 104, 105, 106, 107, 108, 109, 110, 111, 112, 113, 114, 115, 116, 117, 118, 119, 120, 121, 122, 123, 124, 125, 126, 127, 128, 129, 130, 131, 132, 133, 134, 135, 136, 137, 138, 139, 140, 171, 172, 173, 174, 175, 176, 177, 178, 179, 180, 181, 182, 183, 184, 185, 186, 187, 188, 189, 190, 191, 192, 193, 194, 195, 196, 197] (by decide +kernel) (by decide +kernel)
set_option maxRecDepth 20000 in
theorem gX9_soon_X9_startCrowdAsNow : GoodIn wsX9_soon (wsV RX9 119 RX9 yX9_startCrowdAsNow wsX9_startCrowdAsNow) := goodIn_app (goodIn_of _ (by decide +kernel)) ggX9_soon_X9_startCrowdAsNow
set_option maxRecDepth 20000 in
theorem ggX9_soon_X1_allSaying : GoodIn wsX9_soon wsX1_allSaying := goodIn_r _ [144, 117, 116, 145, 146, 147, 101, 148, 129, 135, 136, 137, 149, 150, 26, 151, 188, 189, 190, 191, 192, 193, 194] (by decide +kernel) (by decide +kernel)
set_option maxRecDepth 20000 in
theorem gX9_soon_X1_allSaying : GoodIn wsX9_soon (wsV RX9 129 RX1 yX1_allSaying wsX1_allSaying) := goodIn_app (goodIn_of _ (by decide +kernel)) ggX9_soon_X1_allSaying
set_option maxRecDepth 20000 in
theorem ggX9_soon_X1_meetOnce : GoodIn wsX9_soon wsX1_meetOnce := goodIn_r _ [155, 156, 129, 157, 158, 159, 160, 161, 116, 117, 162, 163, 164, 101, 165, 103, 104, 135, 136, 137, 149, 150, 26, 151, 166, 167, 168, 169, 170, 138, 139, 140, 188, 189, 190, 191, 192, 193, 194] (by decide +kernel) (by decide +kernel)
set_option maxRecDepth 20000 in
theorem gX9_soon_X1_meetOnce : GoodIn wsX9_soon (wsV RX9 138 RX1 yX1_meetOnce wsX1_meetOnce) := goodIn_app (goodIn_of _ (by decide +kernel)) ggX9_soon_X1_meetOnce
theorem dX9_soon_0 : decode cX9_soon 0 = .ok (.iload_n 1, 1) := by decide +kernel
theorem dX9_soon_1 : decode cX9_soon 1 = .ok (.invokestatic 78, 3) := by decide +kernel
theorem dX9_soon_4 : decode cX9_soon 4 = .ok (.ifCond .eq 10, 3) := by decide +kernel
theorem dX9_soon_7 : decode cX9_soon 7 = .ok (.iload_n 2, 1) := by decide +kernel
theorem dX9_soon_8 : decode cX9_soon 8 = .ok (.invokestatic 133, 3) := by decide +kernel
theorem dX9_soon_11 : decode cX9_soon 11 = .ok (.ifCond .ne 5, 3) := by decide +kernel
theorem dX9_soon_14 : decode cX9_soon 14 = .ok (.iconst (-1), 1) := by decide +kernel
theorem dX9_soon_15 : decode cX9_soon 15 = .ok (.ireturn, 1) := by decide +kernel
theorem dX9_soon_16 : decode cX9_soon 16 = .ok (.aload_n 0, 1) := by decide +kernel
theorem dX9_soon_17 : decode cX9_soon 17 = .ok (.getfield 49, 3) := by decide +kernel
theorem dX9_soon_20 : decode cX9_soon 20 = .ok (.iload_n 1, 1) := by decide +kernel
theorem dX9_soon_21 : decode cX9_soon 21 = .ok (.invokevirtual 99, 3) := by decide +kernel
theorem dX9_soon_24 : decode cX9_soon 24 = .ok (.ifCond .ne 6, 3) := by decide +kernel
theorem dX9_soon_27 : decode cX9_soon 27 = .ok (.bipush (-2), 2) := by decide +kernel
theorem dX9_soon_29 : decode cX9_soon 29 = .ok (.ireturn, 1) := by decide +kernel
theorem dX9_soon_30 : decode cX9_soon 30 = .ok (.aload_n 0, 1) := by decide +kernel
theorem dX9_soon_31 : decode cX9_soon 31 = .ok (.iload_n 1, 1) := by decide +kernel
theorem dX9_soon_32 : decode cX9_soon 32 = .ok (.invokevirtual 119, 3) := by decide +kernel
theorem dX9_soon_35 : decode cX9_soon 35 = .ok (.iconst 0, 1) := by decide +kernel
theorem dX9_soon_36 : decode cX9_soon 36 = .ok (.istore_n 3, 1) := by decide +kernel
theorem dX9_soon_37 : decode cX9_soon 37 = .ok (.iload_n 3, 1) := by decide +kernel
theorem dX9_soon_38 : decode cX9_soon 38 = .ok (.sipush 200, 3) := by decide +kernel
theorem dX9_soon_41 : decode cX9_soon 41 = .ok (.if_icmp .gt 51, 3) := by decide +kernel
theorem dX9_soon_44 : decode cX9_soon 44 = .ok (.aload_n 0, 1) := by decide +kernel
theorem dX9_soon_45 : decode cX9_soon 45 = .ok (.getfield 35, 3) := by decide +kernel
theorem dX9_soon_48 : decode cX9_soon 48 = .ok (.iconst 0, 1) := by decide +kernel
theorem dX9_soon_49 : decode cX9_soon 49 = .ok (.invokevirtual 129, 3) := by decide +kernel
theorem dX9_soon_52 : decode cX9_soon 52 = .ok (.aload_n 0, 1) := by decide +kernel
theorem dX9_soon_53 : decode cX9_soon 53 = .ok (.getfield 35, 3) := by decide +kernel
theorem dX9_soon_56 : decode cX9_soon 56 = .ok (.iconst 1, 1) := by decide +kernel
theorem dX9_soon_57 : decode cX9_soon 57 = .ok (.invokevirtual 129, 3) := by decide +kernel
theorem dX9_soon_60 : decode cX9_soon 60 = .ok (.ladd, 1) := by decide +kernel
theorem dX9_soon_61 : decode cX9_soon 61 = .ok (.iload_n 2, 1) := by decide +kernel
theorem dX9_soon_62 : decode cX9_soon 62 = .ok (.i2l, 1) := by decide +kernel
theorem dX9_soon_63 : decode cX9_soon 63 = .ok (.ldc2_w 136, 3) := by decide +kernel
theorem dX9_soon_66 : decode cX9_soon 66 = .ok (.lmul, 1) := by decide +kernel
theorem dX9_soon_67 : decode cX9_soon 67 = .ok (.lcmp, 1) := by decide +kernel
theorem dX9_soon_68 : decode cX9_soon 68 = .ok (.ifCond .lt 5, 3) := by decide +kernel
theorem dX9_soon_71 : decode cX9_soon 71 = .ok (.iload_n 3, 1) := by decide +kernel
theorem dX9_soon_72 : decode cX9_soon 72 = .ok (.ireturn, 1) := by decide +kernel
theorem dX9_soon_73 : decode cX9_soon 73 = .ok (.aload_n 0, 1) := by decide +kernel
theorem dX9_soon_74 : decode cX9_soon 74 = .ok (.getfield 35, 3) := by decide +kernel
theorem dX9_soon_77 : decode cX9_soon 77 = .ok (.invokevirtual 138, 3) := by decide +kernel
theorem dX9_soon_80 : decode cX9_soon 80 = .ok (.ifCond .ne 6, 3) := by decide +kernel
theorem dX9_soon_83 : decode cX9_soon 83 = .ok (.bipush (-4), 2) := by decide +kernel
theorem dX9_soon_85 : decode cX9_soon 85 = .ok (.ireturn, 1) := by decide +kernel
theorem dX9_soon_86 : decode cX9_soon 86 = .ok (.iinc 3 1, 3) := by decide +kernel
theorem dX9_soon_89 : decode cX9_soon 89 = .ok (.goto (-52), 3) := by decide +kernel
theorem dX9_soon_92 : decode cX9_soon 92 = .ok (.bipush (-4), 2) := by decide +kernel
theorem dX9_soon_94 : decode cX9_soon 94 = .ok (.ireturn, 1) := by decide +kernel
set_option maxRecDepth 20000 in
theorem ggX9_use_X9_isMeaning : GoodIn wsX9_use wsX9_isMeaning := goodIn_r _ [7] (by decide +kernel) (by decide +kernel)
set_option maxRecDepth 20000 in
theorem gX9_use_X9_isMeaning : GoodIn wsX9_use (va_wsS RX9 78 yX9_isMeaning wsX9_isMeaning) := goodIn_app (goodIn_of _ (by decide +kernel)) ggX9_use_X9_isMeaning
set_option maxRecDepth 20000 in
theorem ggX9_use_X9_isMeetings : GoodIn wsX9_use wsX9_isMeetings := goodIn_r _ [10] (by decide +kernel) (by decide +kernel)
set_option maxRecDepth 20000 in
theorem gX9_use_X9_isMeetings : GoodIn wsX9_use (va_wsS RX9 116 yX9_isMeetings wsX9_isMeetings) := goodIn_app (goodIn_of _ (by decide +kernel)) ggX9_use_X9_isMeetings
set_option maxRecDepth 20000 in
theorem ggX9_use_X0_isTold : GoodIn wsX9_use wsX0_isTold := goodIn_r _ [15, 16, 17, 18, 14, 19, 20, 21, 22, 23, 24, 25, 26, 27, 182, 183, 184, 185, 186, 187, 188, 189, 190] (by decide +kernel) (by decide +kernel)
set_option maxRecDepth 20000 in
theorem gX9_use_X0_isTold : GoodIn wsX9_use (wsV RX9 99 RX0 yX0_isTold wsX0_isTold) := goodIn_app (goodIn_of _ (by decide +kernel)) ggX9_use_X0_isTold
set_option maxRecDepth 20000 in
theorem ggX9_use_X9_startCrowdAsNow : GoodIn wsX9_use wsX9_startCrowdAsNow := goodIn_r _ [31, 2, 1, 32, 33, 34, 35, 6, 36, 37, 38, 39, 40, 41, 42, 17, 18, 14, 19, 20, 21, 22, 23, 24, 25, 26, 27, 43, 44, 45, 46, 47, 48, 49, 50, 51, 52, 53, 54, 55, 56, 57, 58, 59, 60, 61, 62, 63, 64, 65, 66, 67, 68, 69, 70, 71, 72, 73, 74, 75, 76, 77, 78, 79, 80, 81, 82, 83, 84, 85, 86, 87, 88, 89, 90, 91, 92, 93, 94, 95, 96, 97, 98, 99, 100, 101, 102, 103, 104, 105, 106, 107, 108, 109, 110, 111, 112, 113, 114, 115, 116, 117, 118, 119, 120, 121, 122, 123, 124, 125, 126, 127, 128, 129, 130, 131, 132, 133, 134, 135, 136, 137, 138, 139, 140, 175, 176, 177, 178, 179, 180, 181, 182, 183, 184, 185, 186, 187, 188, 189, 190, 191, 192, 193, 194, 195, 196, 197, 198, 199, 200, 201] (by decide +kernel) (by decide +kernel)
set_option maxRecDepth 20000 in
theorem gX9_use_X9_startCrowdAsNow : GoodIn wsX9_use (wsV RX9 119 RX9 yX9_startCrowdAsNow wsX9_startCrowdAsNow) := goodIn_app (goodIn_of _ (by decide +kernel)) ggX9_use_X9_startCrowdAsNow
set_option maxRecDepth 20000 in
theorem ggX9_use_X1_meet : GoodIn wsX9_use wsX1_meet := goodIn_r _ [144, 145, 146, 147, 101, 148, 149, 129, 150, 151, 152, 153, 154, 116, 117, 155, 156, 157, 158, 103, 104, 135, 136, 137, 159, 160, 26, 161, 162, 163, 164, 165, 166, 138, 139, 140, 192, 193, 194, 195, 196, 197, 198] (by decide +kernel) (by decide +kernel)
set_option maxRecDepth 20000 in
theorem gX9_use_X1_meet : GoodIn wsX9_use (wsV RX9 122 RX1 yX1_meet wsX1_meet) := goodIn_app (goodIn_of _ (by decide +kernel)) ggX9_use_X1_meet
set_option maxRecDepth 20000 in
theorem ggX9_use_X1_sayingWordZero : GoodIn wsX9_use wsX1_sayingWordZero := goodIn_r _ [170, 116, 117, 171, 172, 173, 101, 174, 129, 135, 136, 137, 159, 160, 26, 161, 192, 193, 194, 195, 196, 197, 198] (by decide +kernel) (by decide +kernel)
set_option maxRecDepth 20000 in
theorem gX9_use_X1_sayingWordZero : GoodIn wsX9_use (wsV RX9 142 RX1 yX1_sayingWordZero wsX1_sayingWordZero) := goodIn_app (goodIn_of _ (by decide +kernel)) ggX9_use_X1_sayingWordZero
theorem dX9_use_0 : decode cX9_use 0 = .ok (.iload_n 1, 1) := by decide +kernel
theorem dX9_use_1 : decode cX9_use 1 = .ok (.invokestatic 78, 3) := by decide +kernel
theorem dX9_use_4 : decode cX9_use 4 = .ok (.ifCond .eq 10, 3) := by decide +kernel
theorem dX9_use_7 : decode cX9_use 7 = .ok (.iload_n 2, 1) := by decide +kernel
theorem dX9_use_8 : decode cX9_use 8 = .ok (.invokestatic 116, 3) := by decide +kernel
theorem dX9_use_11 : decode cX9_use 11 = .ok (.ifCond .ne 5, 3) := by decide +kernel
theorem dX9_use_14 : decode cX9_use 14 = .ok (.iconst (-1), 1) := by decide +kernel
theorem dX9_use_15 : decode cX9_use 15 = .ok (.ireturn, 1) := by decide +kernel
theorem dX9_use_16 : decode cX9_use 16 = .ok (.aload_n 0, 1) := by decide +kernel
theorem dX9_use_17 : decode cX9_use 17 = .ok (.getfield 49, 3) := by decide +kernel
theorem dX9_use_20 : decode cX9_use 20 = .ok (.iload_n 1, 1) := by decide +kernel
theorem dX9_use_21 : decode cX9_use 21 = .ok (.invokevirtual 99, 3) := by decide +kernel
theorem dX9_use_24 : decode cX9_use 24 = .ok (.ifCond .ne 6, 3) := by decide +kernel
theorem dX9_use_27 : decode cX9_use 27 = .ok (.bipush (-2), 2) := by decide +kernel
theorem dX9_use_29 : decode cX9_use 29 = .ok (.ireturn, 1) := by decide +kernel
theorem dX9_use_30 : decode cX9_use 30 = .ok (.aload_n 0, 1) := by decide +kernel
theorem dX9_use_31 : decode cX9_use 31 = .ok (.iload_n 1, 1) := by decide +kernel
theorem dX9_use_32 : decode cX9_use 32 = .ok (.invokevirtual 119, 3) := by decide +kernel
theorem dX9_use_35 : decode cX9_use 35 = .ok (.aload_n 0, 1) := by decide +kernel
theorem dX9_use_36 : decode cX9_use 36 = .ok (.getfield 35, 3) := by decide +kernel
theorem dX9_use_39 : decode cX9_use 39 = .ok (.iload_n 2, 1) := by decide +kernel
theorem dX9_use_40 : decode cX9_use 40 = .ok (.invokevirtual 122, 3) := by decide +kernel
theorem dX9_use_43 : decode cX9_use 43 = .ok (.aload_n 0, 1) := by decide +kernel
theorem dX9_use_44 : decode cX9_use 44 = .ok (.getfield 35, 3) := by decide +kernel
theorem dX9_use_47 : decode cX9_use 47 = .ok (.invokevirtual 142, 3) := by decide +kernel
theorem dX9_use_50 : decode cX9_use 50 = .ok (.ldc2_w 146, 3) := by decide +kernel
theorem dX9_use_53 : decode cX9_use 53 = .ok (.ldiv, 1) := by decide +kernel
theorem dX9_use_54 : decode cX9_use 54 = .ok (.l2i, 1) := by decide +kernel
theorem dX9_use_55 : decode cX9_use 55 = .ok (.ireturn, 1) := by decide +kernel
set_option maxRecDepth 20000 in
theorem ggX9_traders_X9_isMeaning : GoodIn wsX9_traders wsX9_isMeaning := goodIn_r _ [7] (by decide +kernel) (by decide +kernel)
set_option maxRecDepth 20000 in
theorem gX9_traders_X9_isMeaning : GoodIn wsX9_traders (va_wsS RX9 78 yX9_isMeaning wsX9_isMeaning) := goodIn_app (goodIn_of _ (by decide +kernel)) ggX9_traders_X9_isMeaning
set_option maxRecDepth 20000 in
theorem ggX9_traders_X9_isMeetings : GoodIn wsX9_traders wsX9_isMeetings := goodIn_r _ [10] (by decide +kernel) (by decide +kernel)
set_option maxRecDepth 20000 in
theorem gX9_traders_X9_isMeetings : GoodIn wsX9_traders (va_wsS RX9 116 yX9_isMeetings wsX9_isMeetings) := goodIn_app (goodIn_of _ (by decide +kernel)) ggX9_traders_X9_isMeetings
set_option maxRecDepth 20000 in
theorem ggX9_traders_X9_isPeople : GoodIn wsX9_traders wsX9_isPeople := goodIn_r _ [13] (by decide +kernel) (by decide +kernel)
set_option maxRecDepth 20000 in
theorem gX9_traders_X9_isPeople : GoodIn wsX9_traders (va_wsS RX9 74 yX9_isPeople wsX9_isPeople) := goodIn_app (goodIn_of _ (by decide +kernel)) ggX9_traders_X9_isPeople
set_option maxRecDepth 20000 in
theorem ggX9_traders_X9_isHundredths : GoodIn wsX9_traders wsX9_isHundredths := goodIn_r _ [16] (by decide +kernel) (by decide +kernel)
set_option maxRecDepth 20000 in
theorem gX9_traders_X9_isHundredths : GoodIn wsX9_traders (va_wsS RX9 133 yX9_isHundredths wsX9_isHundredths) := goodIn_app (goodIn_of _ (by decide +kernel)) ggX9_traders_X9_isHundredths
set_option maxRecDepth 20000 in
theorem ggX9_traders_X0_isTold : GoodIn wsX9_traders wsX0_isTold := goodIn_r _ [21, 22, 23, 24, 20, 25, 26, 27, 28, 29, 30, 31, 32, 33, 171, 172, 173, 174, 175, 176, 177, 178, 179] (by decide +kernel) (by decide +kernel)
set_option maxRecDepth 20000 in
theorem gX9_traders_X0_isTold : GoodIn wsX9_traders (wsV RX9 99 RX0 yX0_isTold wsX0_isTold) := goodIn_app (goodIn_of _ (by decide +kernel)) ggX9_traders_X0_isTold
set_option maxRecDepth 20000 in
theorem ggX9_traders_X9_isAlike : GoodIn wsX9_traders wsX9_isAlike := goodIn_r _ [37, 1, 38, 39, 40, 6, 41, 42, 43, 23, 24, 20, 25, 26, 27, 28, 29, 30, 31, 32, 33, 44, 45, 46, 47, 48, 49, 50, 51, 52, 53, 54, 55, 56, 57, 58, 59, 60, 61, 62, 63, 64, 65, 66, 67, 68, 69, 70, 71, 72, 73, 74, 75, 76, 77, 78, 79, 80, 81, 82, 83, 84, 85, 86, 87, 88, 164, 165, 166, 167, 168, 169, 170, 171, 172, 173, 174, 175, 176, 177, 178, 179, 180] (by decide +kernel) (by decide +kernel)
set_option maxRecDepth 20000 in
theorem gX9_traders_X9_isAlike : GoodIn wsX9_traders (wsV RX9 148 RX9 yX9_isAlike wsX9_isAlike) := goodIn_app (goodIn_of _ (by decide +kernel)) ggX9_traders_X9_isAlike
set_option maxRecDepth 20000 in
theorem ggX9_traders_X0_speaksOfTen : GoodIn wsX9_traders wsX0_speaksOfTen := goodIn_r _ [92, 93, 171, 172, 173, 174, 175, 176, 177, 178, 179] (by decide +kernel) (by decide +kernel)
set_option maxRecDepth 20000 in
theorem gX9_traders_X0_speaksOfTen : GoodIn wsX9_traders (wsV RX9 151 RX0 yX0_speaksOfTen wsX0_speaksOfTen) := goodIn_app (goodIn_of _ (by decide +kernel)) ggX9_traders_X0_speaksOfTen
set_option maxRecDepth 20000 in
theorem ggX9_traders_X0_takesOfTen : GoodIn wsX9_traders wsX0_takesOfTen := goodIn_r _ [97, 98, 30, 31, 32, 33, 171, 172, 173, 174, 175, 176, 177, 178, 179] (by decide +kernel) (by decide +kernel)
set_option maxRecDepth 20000 in
theorem gX9_traders_X0_takesOfTen : GoodIn wsX9_traders (wsV RX9 154 RX0 yX0_takesOfTen wsX0_takesOfTen) := goodIn_app (goodIn_of _ (by decide +kernel)) ggX9_traders_X0_takesOfTen
set_option maxRecDepth 20000 in
theorem ggX9_traders_X1_habits : GoodIn wsX9_traders wsX1_habits := goodIn_r _ [103, 104, 105, 181, 182, 183, 184, 185, 186, 187] (by decide +kernel) (by decide +kernel)
set_option maxRecDepth 20000 in
theorem gX9_traders_X1_habits : GoodIn wsX9_traders (wsV RX9 157 RX1 yX1_habits wsX1_habits) := goodIn_app (goodIn_of _ (by decide +kernel)) ggX9_traders_X1_habits
set_option maxRecDepth 20000 in
theorem ggX9_traders_X1_gather : GoodIn wsX9_traders wsX1_gather := goodIn_r _ [109, 110, 80, 72, 81, 111, 71, 73, 112, 113, 181, 182, 183, 184, 185, 186, 187] (by decide +kernel) (by decide +kernel)
set_option maxRecDepth 20000 in
theorem gX9_traders_X1_gather : GoodIn wsX9_traders (wsV RX9 161 RX1 yX1_gather wsX1_gather) := goodIn_app (goodIn_of _ (by decide +kernel)) ggX9_traders_X1_gather
set_option maxRecDepth 20000 in
theorem ggX9_traders_X1_begin : GoodIn wsX9_traders wsX1_begin := goodIn_r _ [117, 118, 119, 120, 121, 122, 123, 124, 125, 102, 126, 127, 128, 32, 129, 181, 182, 183, 184, 185, 186, 187] (by decide +kernel) (by decide +kernel)
set_option maxRecDepth 20000 in
theorem gX9_traders_X1_begin : GoodIn wsX9_traders (wsV RX9 165 RX1 yX1_begin wsX1_begin) := goodIn_app (goodIn_of _ (by decide +kernel)) ggX9_traders_X1_begin
set_option maxRecDepth 20000 in
theorem ggX9_traders_X1_meet : GoodIn wsX9_traders wsX1_meet := goodIn_r _ [133, 134, 135, 136, 102, 137, 138, 118, 139, 140, 141, 142, 143, 112, 113, 144, 145, 146, 147, 104, 105, 124, 125, 126, 148, 149, 32, 150, 151, 152, 153, 154, 155, 127, 128, 129, 181, 182, 183, 184, 185, 186, 187] (by decide +kernel) (by decide +kernel)
set_option maxRecDepth 20000 in
theorem gX9_traders_X1_meet : GoodIn wsX9_traders (wsV RX9 122 RX1 yX1_meet wsX1_meet) := goodIn_app (goodIn_of _ (by decide +kernel)) ggX9_traders_X1_meet
set_option maxRecDepth 20000 in
theorem ggX9_traders_X1_allSaying : GoodIn wsX9_traders wsX1_allSaying := goodIn_r _ [159, 113, 112, 160, 161, 162, 102, 163, 118, 124, 125, 126, 148, 149, 32, 150, 181, 182, 183, 184, 185, 186, 187] (by decide +kernel) (by decide +kernel)
set_option maxRecDepth 20000 in
theorem gX9_traders_X1_allSaying : GoodIn wsX9_traders (wsV RX9 129 RX1 yX1_allSaying wsX1_allSaying) := goodIn_app (goodIn_of _ (by decide +kernel)) ggX9_traders_X1_allSaying
theorem dX9_traders_0 : decode cX9_traders 0 = .ok (.iload_n 1, 1) := by decide +kernel
theorem dX9_traders_1 : decode cX9_traders 1 = .ok (.invokestatic 78, 3) := by decide +kernel
theorem dX9_traders_4 : decode cX9_traders 4 = .ok (.ifCond .eq 25, 3) := by decide +kernel
theorem dX9_traders_7 : decode cX9_traders 7 = .ok (.iload_n 2, 1) := by decide +kernel
theorem dX9_traders_8 : decode cX9_traders 8 = .ok (.invokestatic 116, 3) := by decide +kernel
theorem dX9_traders_11 : decode cX9_traders 11 = .ok (.ifCond .eq 18, 3) := by decide +kernel
theorem dX9_traders_14 : decode cX9_traders 14 = .ok (.iload_n 3, 1) := by decide +kernel
theorem dX9_traders_15 : decode cX9_traders 15 = .ok (.invokestatic 74, 3) := by decide +kernel
theorem dX9_traders_18 : decode cX9_traders 18 = .ok (.ifCond .eq 11, 3) := by decide +kernel
theorem dX9_traders_21 : decode cX9_traders 21 = .ok (.iload 4, 2) := by decide +kernel
theorem dX9_traders_23 : decode cX9_traders 23 = .ok (.invokestatic 133, 3) := by decide +kernel
theorem dX9_traders_26 : decode cX9_traders 26 = .ok (.ifCond .ne 5, 3) := by decide +kernel
theorem dX9_traders_29 : decode cX9_traders 29 = .ok (.iconst (-1), 1) := by decide +kernel
theorem dX9_traders_30 : decode cX9_traders 30 = .ok (.ireturn, 1) := by decide +kernel
theorem dX9_traders_31 : decode cX9_traders 31 = .ok (.aload_n 0, 1) := by decide +kernel
theorem dX9_traders_32 : decode cX9_traders 32 = .ok (.getfield 49, 3) := by decide +kernel
theorem dX9_traders_35 : decode cX9_traders 35 = .ok (.iload_n 1, 1) := by decide +kernel
theorem dX9_traders_36 : decode cX9_traders 36 = .ok (.invokevirtual 99, 3) := by decide +kernel
theorem dX9_traders_39 : decode cX9_traders 39 = .ok (.ifCond .ne 6, 3) := by decide +kernel
theorem dX9_traders_42 : decode cX9_traders 42 = .ok (.bipush (-2), 2) := by decide +kernel
theorem dX9_traders_44 : decode cX9_traders 44 = .ok (.ireturn, 1) := by decide +kernel
theorem dX9_traders_45 : decode cX9_traders 45 = .ok (.aload_n 0, 1) := by decide +kernel
theorem dX9_traders_46 : decode cX9_traders 46 = .ok (.getfield 35, 3) := by decide +kernel
theorem dX9_traders_49 : decode cX9_traders 49 = .ok (.aload_n 0, 1) := by decide +kernel
theorem dX9_traders_50 : decode cX9_traders 50 = .ok (.iload_n 1, 1) := by decide +kernel
theorem dX9_traders_51 : decode cX9_traders 51 = .ok (.invokevirtual 148, 3) := by decide +kernel
theorem dX9_traders_54 : decode cX9_traders 54 = .ok (.aload_n 0, 1) := by decide +kernel
theorem dX9_traders_55 : decode cX9_traders 55 = .ok (.getfield 49, 3) := by decide +kernel
theorem dX9_traders_58 : decode cX9_traders 58 = .ok (.invokevirtual 151, 3) := by decide +kernel
theorem dX9_traders_61 : decode cX9_traders 61 = .ok (.aload_n 0, 1) := by decide +kernel
theorem dX9_traders_62 : decode cX9_traders 62 = .ok (.getfield 49, 3) := by decide +kernel
theorem dX9_traders_65 : decode cX9_traders 65 = .ok (.iconst 0, 1) := by decide +kernel
theorem dX9_traders_66 : decode cX9_traders 66 = .ok (.invokevirtual 154, 3) := by decide +kernel
theorem dX9_traders_69 : decode cX9_traders 69 = .ok (.aload_n 0, 1) := by decide +kernel
theorem dX9_traders_70 : decode cX9_traders 70 = .ok (.getfield 49, 3) := by decide +kernel
theorem dX9_traders_73 : decode cX9_traders 73 = .ok (.iconst 1, 1) := by decide +kernel
theorem dX9_traders_74 : decode cX9_traders 74 = .ok (.invokevirtual 154, 3) := by decide +kernel
theorem dX9_traders_77 : decode cX9_traders 77 = .ok (.invokevirtual 157, 3) := by decide +kernel
theorem dX9_traders_80 : decode cX9_traders 80 = .ok (.iconst 1, 1) := by decide +kernel
theorem dX9_traders_81 : decode cX9_traders 81 = .ok (.istore 5, 2) := by decide +kernel
theorem dX9_traders_83 : decode cX9_traders 83 = .ok (.iload 5, 2) := by decide +kernel
theorem dX9_traders_85 : decode cX9_traders 85 = .ok (.bipush 8, 2) := by decide +kernel
theorem dX9_traders_87 : decode cX9_traders 87 = .ok (.if_icmp .gt 59, 3) := by decide +kernel
theorem dX9_traders_90 : decode cX9_traders 90 = .ok (.aload_n 0, 1) := by decide +kernel
theorem dX9_traders_91 : decode cX9_traders 91 = .ok (.getfield 35, 3) := by decide +kernel
theorem dX9_traders_94 : decode cX9_traders 94 = .ok (.iload 5, 2) := by decide +kernel
theorem dX9_traders_96 : decode cX9_traders 96 = .ok (.iload 5, 2) := by decide +kernel
theorem dX9_traders_98 : decode cX9_traders 98 = .ok (.invokevirtual 161, 3) := by decide +kernel
theorem dX9_traders_101 : decode cX9_traders 101 = .ok (.aload_n 0, 1) := by decide +kernel
theorem dX9_traders_102 : decode cX9_traders 102 = .ok (.getfield 35, 3) := by decide +kernel
theorem dX9_traders_105 : decode cX9_traders 105 = .ok (.iconst 0, 1) := by decide +kernel
theorem dX9_traders_106 : decode cX9_traders 106 = .ok (.iconst 0, 1) := by decide +kernel
theorem dX9_traders_107 : decode cX9_traders 107 = .ok (.invokevirtual 165, 3) := by decide +kernel
theorem dX9_traders_110 : decode cX9_traders 110 = .ok (.aload_n 0, 1) := by decide +kernel
theorem dX9_traders_111 : decode cX9_traders 111 = .ok (.getfield 35, 3) := by decide +kernel
theorem dX9_traders_114 : decode cX9_traders 114 = .ok (.iload_n 2, 1) := by decide +kernel
theorem dX9_traders_115 : decode cX9_traders 115 = .ok (.invokevirtual 122, 3) := by decide +kernel
theorem dX9_traders_118 : decode cX9_traders 118 = .ok (.aload_n 0, 1) := by decide +kernel
theorem dX9_traders_119 : decode cX9_traders 119 = .ok (.getfield 35, 3) := by decide +kernel
theorem dX9_traders_122 : decode cX9_traders 122 = .ok (.iload_n 3, 1) := by decide +kernel
theorem dX9_traders_123 : decode cX9_traders 123 = .ok (.invokevirtual 129, 3) := by decide +kernel
theorem dX9_traders_126 : decode cX9_traders 126 = .ok (.iload 4, 2) := by decide +kernel
theorem dX9_traders_128 : decode cX9_traders 128 = .ok (.i2l, 1) := by decide +kernel
theorem dX9_traders_129 : decode cX9_traders 129 = .ok (.ldc2_w 136, 3) := by decide +kernel
theorem dX9_traders_132 : decode cX9_traders 132 = .ok (.lmul, 1) := by decide +kernel
theorem dX9_traders_133 : decode cX9_traders 133 = .ok (.lcmp, 1) := by decide +kernel
theorem dX9_traders_134 : decode cX9_traders 134 = .ok (.ifCond .lt 6, 3) := by decide +kernel
theorem dX9_traders_137 : decode cX9_traders 137 = .ok (.iload 5, 2) := by decide +kernel
theorem dX9_traders_139 : decode cX9_traders 139 = .ok (.ireturn, 1) := by decide +kernel
theorem dX9_traders_140 : decode cX9_traders 140 = .ok (.iinc 5 1, 3) := by decide +kernel
theorem dX9_traders_143 : decode cX9_traders 143 = .ok (.goto (-60), 3) := by decide +kernel
theorem dX9_traders_146 : decode cX9_traders 146 = .ok (.bipush (-4), 2) := by decide +kernel
theorem dX9_traders_148 : decode cX9_traders 148 = .ok (.ireturn, 1) := by decide +kernel
set_option maxRecDepth 20000 in
theorem ggX9_ready_X9_isMeaning : GoodIn wsX9_ready wsX9_isMeaning := goodIn_r _ [8] (by decide +kernel) (by decide +kernel)
set_option maxRecDepth 20000 in
theorem gX9_ready_X9_isMeaning : GoodIn wsX9_ready (va_wsS RX9 78 yX9_isMeaning wsX9_isMeaning) := goodIn_app (goodIn_of _ (by decide +kernel)) ggX9_ready_X9_isMeaning
set_option maxRecDepth 20000 in
theorem ggX9_ready_X9_isMeetings : GoodIn wsX9_ready wsX9_isMeetings := goodIn_r _ [11] (by decide +kernel) (by decide +kernel)
set_option maxRecDepth 20000 in
theorem gX9_ready_X9_isMeetings : GoodIn wsX9_ready (va_wsS RX9 116 yX9_isMeetings wsX9_isMeetings) := goodIn_app (goodIn_of _ (by decide +kernel)) ggX9_ready_X9_isMeetings
set_option maxRecDepth 20000 in
theorem ggX9_ready_X9_isPeople : GoodIn wsX9_ready wsX9_isPeople := goodIn_r _ [14] (by decide +kernel) (by decide +kernel)
set_option maxRecDepth 20000 in
theorem gX9_ready_X9_isPeople : GoodIn wsX9_ready (va_wsS RX9 74 yX9_isPeople wsX9_isPeople) := goodIn_app (goodIn_of _ (by decide +kernel)) ggX9_ready_X9_isPeople
set_option maxRecDepth 20000 in
theorem ggX9_ready_X9_isHundredths : GoodIn wsX9_ready wsX9_isHundredths := goodIn_r _ [17] (by decide +kernel) (by decide +kernel)
set_option maxRecDepth 20000 in
theorem gX9_ready_X9_isHundredths : GoodIn wsX9_ready (va_wsS RX9 133 yX9_isHundredths wsX9_isHundredths) := goodIn_app (goodIn_of _ (by decide +kernel)) ggX9_ready_X9_isHundredths
set_option maxRecDepth 20000 in
theorem ggX9_ready_X0_isTold : GoodIn wsX9_ready wsX0_isTold := goodIn_r _ [22, 23, 24, 25, 21, 26, 27, 28, 29, 30, 31, 32, 33, 34, 179, 180, 181, 182, 183, 184, 185, 186, 187] (by decide +kernel) (by decide +kernel)
set_option maxRecDepth 20000 in
theorem gX9_ready_X0_isTold : GoodIn wsX9_ready (wsV RX9 99 RX0 yX0_isTold wsX0_isTold) := goodIn_app (goodIn_of _ (by decide +kernel)) ggX9_ready_X0_isTold
set_option maxRecDepth 20000 in
theorem ggX9_ready_X9_isAlike : GoodIn wsX9_ready wsX9_isAlike := goodIn_r _ [38, 1, 39, 40, 41, 7, 42, 43, 44, 24, 25, 21, 26, 27, 28, 29, 30, 31, 32, 33, 34, 45, 46, 47, 48, 49, 50, 51, 52, 53, 54, 55, 56, 57, 58, 59, 60, 61, 62, 63, 64, 65, 66, 67, 68, 69, 70, 71, 72, 73, 74, 75, 76, 77, 78, 79, 80, 81, 82, 83, 84, 85, 86, 87, 88, 89, 172, 173, 174, 175, 176, 177, 178, 179, 180, 181, 182, 183, 184, 185, 186, 187, 188] (by decide +kernel) (by decide +kernel)
set_option maxRecDepth 20000 in
theorem gX9_ready_X9_isAlike : GoodIn wsX9_ready (wsV RX9 148 RX9 yX9_isAlike wsX9_isAlike) := goodIn_app (goodIn_of _ (by decide +kernel)) ggX9_ready_X9_isAlike
set_option maxRecDepth 20000 in
theorem ggX9_ready_X0_tradersOf : GoodIn wsX9_ready wsX0_tradersOf := goodIn_r _ [93, 94, 31, 32, 33, 34, 179, 180, 181, 182, 183, 184, 185, 186, 187] (by decide +kernel) (by decide +kernel)
set_option maxRecDepth 20000 in
theorem gX9_ready_X0_tradersOf : GoodIn wsX9_ready (wsV RX9 168 RX0 yX0_tradersOf wsX0_tradersOf) := goodIn_app (goodIn_of _ (by decide +kernel)) ggX9_ready_X0_tradersOf
set_option maxRecDepth 20000 in
theorem ggX9_ready_X1_gather : GoodIn wsX9_ready wsX1_gather := goodIn_r _ [99, 100, 81, 73, 82, 101, 72, 74, 102, 103, 189, 190, 191, 192, 193, 194, 195] (by decide +kernel) (by decide +kernel)
set_option maxRecDepth 20000 in
theorem gX9_ready_X1_gather : GoodIn wsX9_ready (wsV RX9 161 RX1 yX1_gather wsX1_gather) := goodIn_app (goodIn_of _ (by decide +kernel)) ggX9_ready_X1_gather
set_option maxRecDepth 20000 in
theorem ggX9_ready_X0_speaksOfTen : GoodIn wsX9_ready wsX0_speaksOfTen := goodIn_r _ [107, 108, 179, 180, 181, 182, 183, 184, 185, 186, 187] (by decide +kernel) (by decide +kernel)
set_option maxRecDepth 20000 in
theorem gX9_ready_X0_speaksOfTen : GoodIn wsX9_ready (wsV RX9 151 RX0 yX0_speaksOfTen wsX0_speaksOfTen) := goodIn_app (goodIn_of _ (by decide +kernel)) ggX9_ready_X0_speaksOfTen
set_option maxRecDepth 20000 in
theorem ggX9_ready_X1_habits : GoodIn wsX9_ready wsX1_habits := goodIn_r _ [112, 113, 114, 189, 190, 191, 192, 193, 194, 195] (by decide +kernel) (by decide +kernel)
set_option maxRecDepth 20000 in
theorem gX9_ready_X1_habits : GoodIn wsX9_ready (wsV RX9 157 RX1 yX1_habits wsX1_habits) := goodIn_app (goodIn_of _ (by decide +kernel)) ggX9_ready_X1_habits
set_option maxRecDepth 20000 in
theorem ggX9_ready_X6_of : GoodIn wsX9_ready wsX6_of := goodIn_r _ [119, 120, 121, 32, 33, 34, 196, 197, 198] (by decide +kernel) (by decide +kernel)
set_option maxRecDepth 20000 in
theorem gX9_ready_X6_of : GoodIn wsX9_ready (wsV RX9 105 RX6 yX6_of wsX6_of) := goodIn_app (goodIn_of _ (by decide +kernel)) ggX9_ready_X6_of
set_option maxRecDepth 20000 in
theorem ggX9_ready_X1_begin : GoodIn wsX9_ready wsX1_begin := goodIn_r _ [125, 126, 127, 128, 129, 130, 131, 132, 133, 98, 134, 135, 136, 33, 137, 189, 190, 191, 192, 193, 194, 195] (by decide +kernel) (by decide +kernel)
set_option maxRecDepth 20000 in
theorem gX9_ready_X1_begin : GoodIn wsX9_ready (wsV RX9 165 RX1 yX1_begin wsX1_begin) := goodIn_app (goodIn_of _ (by decide +kernel)) ggX9_ready_X1_begin
set_option maxRecDepth 20000 in
theorem ggX9_ready_X1_meet : GoodIn wsX9_ready wsX1_meet := goodIn_r _ [141, 142, 143, 144, 98, 145, 146, 126, 147, 148, 149, 150, 151, 102, 103, 152, 153, 154, 155, 113, 114, 132, 133, 134, 156, 157, 33, 158, 159, 160, 161, 162, 163, 135, 136, 137, 189, 190, 191, 192, 193, 194, 195] (by decide +kernel) (by decide +kernel)
set_option maxRecDepth 20000 in
theorem gX9_ready_X1_meet : GoodIn wsX9_ready (wsV RX9 122 RX1 yX1_meet wsX1_meet) := goodIn_app (goodIn_of _ (by decide +kernel)) ggX9_ready_X1_meet
set_option maxRecDepth 20000 in
theorem ggX9_ready_X1_allSaying : GoodIn wsX9_ready wsX1_allSaying := goodIn_r _ [167, 103, 102, 168, 169, 170, 98, 171, 126, 132, 133, 134, 156, 157, 33, 158, 189, 190, 191, 192, 193, 194, 195] (by decide +kernel) (by decide +kernel)
set_option maxRecDepth 20000 in
theorem gX9_ready_X1_allSaying : GoodIn wsX9_ready (wsV RX9 129 RX1 yX1_allSaying wsX1_allSaying) := goodIn_app (goodIn_of _ (by decide +kernel)) ggX9_ready_X1_allSaying
theorem dX9_ready_0 : decode cX9_ready 0 = .ok (.iload_n 1, 1) := by decide +kernel
theorem dX9_ready_1 : decode cX9_ready 1 = .ok (.invokestatic 78, 3) := by decide +kernel
theorem dX9_ready_4 : decode cX9_ready 4 = .ok (.ifCond .eq 25, 3) := by decide +kernel
theorem dX9_ready_7 : decode cX9_ready 7 = .ok (.iload_n 2, 1) := by decide +kernel
theorem dX9_ready_8 : decode cX9_ready 8 = .ok (.invokestatic 116, 3) := by decide +kernel
theorem dX9_ready_11 : decode cX9_ready 11 = .ok (.ifCond .eq 18, 3) := by decide +kernel
theorem dX9_ready_14 : decode cX9_ready 14 = .ok (.iload_n 3, 1) := by decide +kernel
theorem dX9_ready_15 : decode cX9_ready 15 = .ok (.invokestatic 74, 3) := by decide +kernel
theorem dX9_ready_18 : decode cX9_ready 18 = .ok (.ifCond .eq 11, 3) := by decide +kernel
theorem dX9_ready_21 : decode cX9_ready 21 = .ok (.iload 4, 2) := by decide +kernel
theorem dX9_ready_23 : decode cX9_ready 23 = .ok (.invokestatic 133, 3) := by decide +kernel
theorem dX9_ready_26 : decode cX9_ready 26 = .ok (.ifCond .ne 5, 3) := by decide +kernel
theorem dX9_ready_29 : decode cX9_ready 29 = .ok (.iconst (-1), 1) := by decide +kernel
theorem dX9_ready_30 : decode cX9_ready 30 = .ok (.ireturn, 1) := by decide +kernel
theorem dX9_ready_31 : decode cX9_ready 31 = .ok (.aload_n 0, 1) := by decide +kernel
theorem dX9_ready_32 : decode cX9_ready 32 = .ok (.getfield 49, 3) := by decide +kernel
theorem dX9_ready_35 : decode cX9_ready 35 = .ok (.iload_n 1, 1) := by decide +kernel
theorem dX9_ready_36 : decode cX9_ready 36 = .ok (.invokevirtual 99, 3) := by decide +kernel
theorem dX9_ready_39 : decode cX9_ready 39 = .ok (.ifCond .ne 6, 3) := by decide +kernel
theorem dX9_ready_42 : decode cX9_ready 42 = .ok (.bipush (-2), 2) := by decide +kernel
theorem dX9_ready_44 : decode cX9_ready 44 = .ok (.ireturn, 1) := by decide +kernel
theorem dX9_ready_45 : decode cX9_ready 45 = .ok (.aload_n 0, 1) := by decide +kernel
theorem dX9_ready_46 : decode cX9_ready 46 = .ok (.iload_n 1, 1) := by decide +kernel
theorem dX9_ready_47 : decode cX9_ready 47 = .ok (.invokevirtual 148, 3) := by decide +kernel
theorem dX9_ready_50 : decode cX9_ready 50 = .ok (.istore 5, 2) := by decide +kernel
theorem dX9_ready_52 : decode cX9_ready 52 = .ok (.aload_n 0, 1) := by decide +kernel
theorem dX9_ready_53 : decode cX9_ready 53 = .ok (.getfield 35, 3) := by decide +kernel
theorem dX9_ready_56 : decode cX9_ready 56 = .ok (.aload_n 0, 1) := by decide +kernel
theorem dX9_ready_57 : decode cX9_ready 57 = .ok (.getfield 49, 3) := by decide +kernel
theorem dX9_ready_60 : decode cX9_ready 60 = .ok (.iconst 0, 1) := by decide +kernel
theorem dX9_ready_61 : decode cX9_ready 61 = .ok (.invokevirtual 168, 3) := by decide +kernel
theorem dX9_ready_64 : decode cX9_ready 64 = .ok (.aload_n 0, 1) := by decide +kernel
theorem dX9_ready_65 : decode cX9_ready 65 = .ok (.getfield 49, 3) := by decide +kernel
theorem dX9_ready_68 : decode cX9_ready 68 = .ok (.iconst 1, 1) := by decide +kernel
theorem dX9_ready_69 : decode cX9_ready 69 = .ok (.invokevirtual 168, 3) := by decide +kernel
theorem dX9_ready_72 : decode cX9_ready 72 = .ok (.invokevirtual 161, 3) := by decide +kernel
theorem dX9_ready_75 : decode cX9_ready 75 = .ok (.iconst 0, 1) := by decide +kernel
theorem dX9_ready_76 : decode cX9_ready 76 = .ok (.istore 6, 2) := by decide +kernel
theorem dX9_ready_78 : decode cX9_ready 78 = .ok (.iload 6, 2) := by decide +kernel
theorem dX9_ready_80 : decode cX9_ready 80 = .ok (.bipush 10, 2) := by decide +kernel
theorem dX9_ready_82 : decode cX9_ready 82 = .ok (.if_icmp .gt 84, 3) := by decide +kernel
theorem dX9_ready_85 : decode cX9_ready 85 = .ok (.aload_n 0, 1) := by decide +kernel
theorem dX9_ready_86 : decode cX9_ready 86 = .ok (.getfield 35, 3) := by decide +kernel
theorem dX9_ready_89 : decode cX9_ready 89 = .ok (.iload 5, 2) := by decide +kernel
theorem dX9_ready_91 : decode cX9_ready 91 = .ok (.aload_n 0, 1) := by decide +kernel
theorem dX9_ready_92 : decode cX9_ready 92 = .ok (.getfield 49, 3) := by decide +kernel
theorem dX9_ready_95 : decode cX9_ready 95 = .ok (.invokevirtual 151, 3) := by decide +kernel
theorem dX9_ready_98 : decode cX9_ready 98 = .ok (.iload 6, 2) := by decide +kernel
theorem dX9_ready_100 : decode cX9_ready 100 = .ok (.iload 6, 2) := by decide +kernel
theorem dX9_ready_102 : decode cX9_ready 102 = .ok (.invokevirtual 157, 3) := by decide +kernel
theorem dX9_ready_105 : decode cX9_ready 105 = .ok (.aload_n 0, 1) := by decide +kernel
theorem dX9_ready_106 : decode cX9_ready 106 = .ok (.getfield 35, 3) := by decide +kernel
theorem dX9_ready_109 : decode cX9_ready 109 = .ok (.aload_n 0, 1) := by decide +kernel
theorem dX9_ready_110 : decode cX9_ready 110 = .ok (.getfield 28, 3) := by decide +kernel
theorem dX9_ready_113 : decode cX9_ready 113 = .ok (.iload_n 1, 1) := by decide +kernel
theorem dX9_ready_114 : decode cX9_ready 114 = .ok (.iconst 0, 1) := by decide +kernel
theorem dX9_ready_115 : decode cX9_ready 115 = .ok (.invokevirtual 105, 3) := by decide +kernel
theorem dX9_ready_118 : decode cX9_ready 118 = .ok (.aload_n 0, 1) := by decide +kernel
theorem dX9_ready_119 : decode cX9_ready 119 = .ok (.getfield 28, 3) := by decide +kernel
theorem dX9_ready_122 : decode cX9_ready 122 = .ok (.iload_n 1, 1) := by decide +kernel
theorem dX9_ready_123 : decode cX9_ready 123 = .ok (.iconst 1, 1) := by decide +kernel
theorem dX9_ready_124 : decode cX9_ready 124 = .ok (.invokevirtual 105, 3) := by decide +kernel
theorem dX9_ready_127 : decode cX9_ready 127 = .ok (.invokevirtual 165, 3) := by decide +kernel
theorem dX9_ready_130 : decode cX9_ready 130 = .ok (.aload_n 0, 1) := by decide +kernel
theorem dX9_ready_131 : decode cX9_ready 131 = .ok (.getfield 35, 3) := by decide +kernel
theorem dX9_ready_134 : decode cX9_ready 134 = .ok (.iload_n 2, 1) := by decide +kernel
theorem dX9_ready_135 : decode cX9_ready 135 = .ok (.invokevirtual 122, 3) := by decide +kernel
theorem dX9_ready_138 : decode cX9_ready 138 = .ok (.aload_n 0, 1) := by decide +kernel
theorem dX9_ready_139 : decode cX9_ready 139 = .ok (.getfield 35, 3) := by decide +kernel
theorem dX9_ready_142 : decode cX9_ready 142 = .ok (.iload_n 3, 1) := by decide +kernel
theorem dX9_ready_143 : decode cX9_ready 143 = .ok (.invokevirtual 129, 3) := by decide +kernel
theorem dX9_ready_146 : decode cX9_ready 146 = .ok (.iload 4, 2) := by decide +kernel
theorem dX9_ready_148 : decode cX9_ready 148 = .ok (.i2l, 1) := by decide +kernel
theorem dX9_ready_149 : decode cX9_ready 149 = .ok (.ldc2_w 136, 3) := by decide +kernel
theorem dX9_ready_152 : decode cX9_ready 152 = .ok (.lmul, 1) := by decide +kernel
theorem dX9_ready_153 : decode cX9_ready 153 = .ok (.lcmp, 1) := by decide +kernel
theorem dX9_ready_154 : decode cX9_ready 154 = .ok (.ifCond .lt 6, 3) := by decide +kernel
theorem dX9_ready_157 : decode cX9_ready 157 = .ok (.iload 6, 2) := by decide +kernel
theorem dX9_ready_159 : decode cX9_ready 159 = .ok (.ireturn, 1) := by decide +kernel
theorem dX9_ready_160 : decode cX9_ready 160 = .ok (.iinc 6 1, 3) := by decide +kernel
theorem dX9_ready_163 : decode cX9_ready 163 = .ok (.goto (-85), 3) := by decide +kernel
theorem dX9_ready_166 : decode cX9_ready 166 = .ok (.bipush (-4), 2) := by decide +kernel
theorem dX9_ready_168 : decode cX9_ready 168 = .ok (.ireturn, 1) := by decide +kernel
set_option maxRecDepth 20000 in
theorem ggX9_summer_X0_isTold : GoodIn wsX9_summer wsX0_isTold := goodIn_r _ [6, 7, 8, 9, 5, 10, 11, 12, 13, 14, 15, 16, 17, 18, 139, 140, 141, 142, 143, 144, 145, 146, 147] (by decide +kernel) (by decide +kernel)
set_option maxRecDepth 20000 in
theorem gX9_summer_X0_isTold : GoodIn wsX9_summer (wsV RX9 99 RX0 yX0_isTold wsX0_isTold) := goodIn_app (goodIn_of _ (by decide +kernel)) ggX9_summer_X0_isTold
set_option maxRecDepth 20000 in
theorem ggX9_summer_X9_isAlike : GoodIn wsX9_summer wsX9_isAlike := goodIn_r _ [23, 1, 24, 25, 26, 22, 27, 28, 29, 8, 9, 5, 10, 11, 12, 13, 14, 15, 16, 17, 18, 30, 31, 32, 33, 34, 35, 36, 37, 38, 39, 40, 41, 42, 43, 44, 45, 46, 47, 48, 49, 50, 51, 52, 53, 54, 55, 56, 57, 58, 59, 60, 61, 62, 63, 64, 65, 66, 67, 68, 69, 70, 71, 72, 73, 74, 132, 133, 134, 135, 136, 137, 138, 139, 140, 141, 142, 143, 144, 145, 146, 147, 148] (by decide +kernel) (by decide +kernel)
set_option maxRecDepth 20000 in
theorem gX9_summer_X9_isAlike : GoodIn wsX9_summer (wsV RX9 148 RX9 yX9_isAlike wsX9_isAlike) := goodIn_app (goodIn_of _ (by decide +kernel)) ggX9_summer_X9_isAlike
set_option maxRecDepth 20000 in
theorem ggX9_summer_X9_meetByDraw : GoodIn wsX9_summer wsX9_meetByDraw := goodIn_r _ [78, 1, 79, 80, 81, 22, 82, 83, 84, 85, 86, 87, 88, 89, 90, 5, 91, 92, 15, 16, 17, 18, 93, 94, 95, 96, 97, 98, 99, 100, 101, 102, 103, 104, 105, 106, 107, 108, 109, 110, 111, 112, 113, 114, 115, 116, 117, 118, 119, 120, 132, 133, 134, 135, 136, 137, 138, 139, 140, 141, 142, 143, 144, 145, 146, 147, 149, 150, 151] (by decide +kernel) (by decide +kernel)
set_option maxRecDepth 20000 in
theorem gX9_summer_X9_meetByDraw : GoodIn wsX9_summer (wsV RX9 171 RX9 yX9_meetByDraw wsX9_meetByDraw) := goodIn_app (goodIn_of _ (by decide +kernel)) ggX9_summer_X9_meetByDraw
set_option maxRecDepth 20000 in
theorem ggX9_summer_X9_tongueBits : GoodIn wsX9_summer wsX9_tongueBits := goodIn_r _ [124, 1, 79, 88, 89, 90, 5, 91, 92, 15, 16, 17, 18, 2, 3, 4, 6, 7, 8, 9, 10, 11, 12, 13, 14, 93, 94, 95, 96, 97, 98, 99, 19, 20, 21, 22, 23, 24, 25, 26, 27, 28, 29, 30, 31, 32, 33, 34, 35, 36, 37, 38, 39, 40, 41, 42, 43, 44, 45, 46, 47, 48, 49, 50, 51, 52, 53, 54, 55, 56, 57, 58, 59, 60, 61, 62, 63, 64, 65, 66, 67, 68, 69, 70, 71, 72, 73, 74, 132, 133, 134, 135, 136, 137, 138, 139, 140, 141, 142, 143, 144, 145, 146, 147, 149, 150, 151, 148] (by decide +kernel) (by decide +kernel)
set_option maxRecDepth 20000 in
theorem gX9_summer_X9_tongueBits : GoodIn wsX9_summer (wsV RX9 174 RX9 yX9_tongueBits wsX9_tongueBits) := goodIn_app (goodIn_of _ (by decide +kernel)) ggX9_summer_X9_tongueBits
set_option maxRecDepth 20000 in
theorem ggX9_summer_J6_bitCount_0f7a4 : GoodIn wsX9_summer wsJ6_bitCount_0f7a4 := goodIn_r _ [128, 129, 130, 131] (by decide +kernel) (by decide +kernel)
set_option maxRecDepth 20000 in
theorem gX9_summer_J6_bitCount_0f7a4 : GoodIn wsX9_summer (va_wsS RX9 177 yJ6_bitCount_0f7a4 wsJ6_bitCount_0f7a4) := goodIn_app (goodIn_of _ (by decide +kernel)) ggX9_summer_J6_bitCount_0f7a4
theorem dX9_summer_0 : decode cX9_summer 0 = .ok (.iload_n 1, 1) := by decide +kernel
theorem dX9_summer_1 : decode cX9_summer 1 = .ok (.ifCond .lt 21, 3) := by decide +kernel
theorem dX9_summer_4 : decode cX9_summer 4 = .ok (.iload_n 1, 1) := by decide +kernel
theorem dX9_summer_5 : decode cX9_summer 5 = .ok (.sipush 9999, 3) := by decide +kernel
theorem dX9_summer_8 : decode cX9_summer 8 = .ok (.if_icmp .gt 14, 3) := by decide +kernel
theorem dX9_summer_11 : decode cX9_summer 11 = .ok (.iload_n 2, 1) := by decide +kernel
theorem dX9_summer_12 : decode cX9_summer 12 = .ok (.iconst 1, 1) := by decide +kernel
theorem dX9_summer_13 : decode cX9_summer 13 = .ok (.if_icmp .lt 9, 3) := by decide +kernel
theorem dX9_summer_16 : decode cX9_summer 16 = .ok (.iload_n 2, 1) := by decide +kernel
theorem dX9_summer_17 : decode cX9_summer 17 = .ok (.bipush 99, 2) := by decide +kernel
theorem dX9_summer_19 : decode cX9_summer 19 = .ok (.if_icmp .le 5, 3) := by decide +kernel
theorem dX9_summer_22 : decode cX9_summer 22 = .ok (.iconst (-1), 1) := by decide +kernel
theorem dX9_summer_23 : decode cX9_summer 23 = .ok (.ireturn, 1) := by decide +kernel
theorem dX9_summer_24 : decode cX9_summer 24 = .ok (.iconst 0, 1) := by decide +kernel
theorem dX9_summer_25 : decode cX9_summer 25 = .ok (.istore_n 3, 1) := by decide +kernel
theorem dX9_summer_26 : decode cX9_summer 26 = .ok (.iload_n 3, 1) := by decide +kernel
theorem dX9_summer_27 : decode cX9_summer 27 = .ok (.bipush 8, 2) := by decide +kernel
theorem dX9_summer_29 : decode cX9_summer 29 = .ok (.if_icmp .ge 51, 3) := by decide +kernel
theorem dX9_summer_32 : decode cX9_summer 32 = .ok (.aload_n 0, 1) := by decide +kernel
theorem dX9_summer_33 : decode cX9_summer 33 = .ok (.getfield 49, 3) := by decide +kernel
theorem dX9_summer_36 : decode cX9_summer 36 = .ok (.iload_n 3, 1) := by decide +kernel
theorem dX9_summer_37 : decode cX9_summer 37 = .ok (.invokevirtual 99, 3) := by decide +kernel
theorem dX9_summer_40 : decode cX9_summer 40 = .ok (.ifCond .eq 34, 3) := by decide +kernel
theorem dX9_summer_43 : decode cX9_summer 43 = .ok (.aload_n 0, 1) := by decide +kernel
theorem dX9_summer_44 : decode cX9_summer 44 = .ok (.iload_n 3, 1) := by decide +kernel
theorem dX9_summer_45 : decode cX9_summer 45 = .ok (.invokevirtual 148, 3) := by decide +kernel
theorem dX9_summer_48 : decode cX9_summer 48 = .ok (.ifCond .ne 26, 3) := by decide +kernel
theorem dX9_summer_51 : decode cX9_summer 51 = .ok (.iconst 0, 1) := by decide +kernel
theorem dX9_summer_52 : decode cX9_summer 52 = .ok (.istore 4, 2) := by decide +kernel
theorem dX9_summer_54 : decode cX9_summer 54 = .ok (.iload 4, 2) := by decide +kernel
theorem dX9_summer_56 : decode cX9_summer 56 = .ok (.iload_n 2, 1) := by decide +kernel
theorem dX9_summer_57 : decode cX9_summer 57 = .ok (.if_icmp .ge 17, 3) := by decide +kernel
theorem dX9_summer_60 : decode cX9_summer 60 = .ok (.aload_n 0, 1) := by decide +kernel
theorem dX9_summer_61 : decode cX9_summer 61 = .ok (.iload_n 1, 1) := by decide +kernel
theorem dX9_summer_62 : decode cX9_summer 62 = .ok (.iload 4, 2) := by decide +kernel
theorem dX9_summer_64 : decode cX9_summer 64 = .ok (.iload_n 3, 1) := by decide +kernel
theorem dX9_summer_65 : decode cX9_summer 65 = .ok (.invokevirtual 171, 3) := by decide +kernel
theorem dX9_summer_68 : decode cX9_summer 68 = .ok (.iinc 4 1, 3) := by decide +kernel
theorem dX9_summer_71 : decode cX9_summer 71 = .ok (.goto (-17), 3) := by decide +kernel
theorem dX9_summer_74 : decode cX9_summer 74 = .ok (.iinc 3 1, 3) := by decide +kernel
theorem dX9_summer_77 : decode cX9_summer 77 = .ok (.goto (-51), 3) := by decide +kernel
theorem dX9_summer_80 : decode cX9_summer 80 = .ok (.aload_n 0, 1) := by decide +kernel
theorem dX9_summer_81 : decode cX9_summer 81 = .ok (.iconst 0, 1) := by decide +kernel
theorem dX9_summer_82 : decode cX9_summer 82 = .ok (.invokevirtual 174, 3) := by decide +kernel
theorem dX9_summer_85 : decode cX9_summer 85 = .ok (.aload_n 0, 1) := by decide +kernel
theorem dX9_summer_86 : decode cX9_summer 86 = .ok (.iconst 1, 1) := by decide +kernel
theorem dX9_summer_87 : decode cX9_summer 87 = .ok (.invokevirtual 174, 3) := by decide +kernel
theorem dX9_summer_90 : decode cX9_summer 90 = .ok (.ior, 1) := by decide +kernel
theorem dX9_summer_91 : decode cX9_summer 91 = .ok (.invokestatic 177, 3) := by decide +kernel
theorem dX9_summer_94 : decode cX9_summer 94 = .ok (.ireturn, 1) := by decide +kernel
set_option maxRecDepth 20000 in
theorem ggX9_tongue_X9_isPeople : GoodIn wsX9_tongue wsX9_isPeople := goodIn_r _ [4] (by decide +kernel) (by decide +kernel)
set_option maxRecDepth 20000 in
theorem gX9_tongue_X9_isPeople : GoodIn wsX9_tongue (va_wsS RX9 74 yX9_isPeople wsX9_isPeople) := goodIn_app (goodIn_of _ (by decide +kernel)) ggX9_tongue_X9_isPeople
set_option maxRecDepth 20000 in
theorem ggX9_tongue_X9_tongueBits : GoodIn wsX9_tongue wsX9_tongueBits := goodIn_r _ [8, 9, 10, 11, 12, 13, 14, 15, 16, 17, 18, 19, 20, 21, 22, 23, 24, 25, 26, 27, 28, 29, 30, 31, 32, 33, 34, 35, 36, 37, 38, 39, 40, 41, 42, 3, 43, 44, 45, 46, 47, 48, 49, 50, 51, 52, 53, 54, 55, 56, 57, 58, 59, 60, 61, 62, 63, 64, 65, 66, 67, 68, 69, 70, 71, 72, 73, 74, 75, 76, 77, 78, 79, 80, 81, 82, 83, 84, 85, 86, 87, 88, 89, 90, 91, 92, 93, 94, 95, 96, 97, 98, 99, 100, 101, 102, 103, 104, 105, 106, 107, 108, 109, 110, 111, 112, 113, 114] (by decide +kernel) (by decide +kernel)
set_option maxRecDepth 20000 in
theorem gX9_tongue_X9_tongueBits : GoodIn wsX9_tongue (wsV RX9 174 RX9 yX9_tongueBits wsX9_tongueBits) := goodIn_app (goodIn_of _ (by decide +kernel)) ggX9_tongue_X9_tongueBits
theorem dX9_tongue_0 : decode cX9_tongue 0 = .ok (.iload_n 1, 1) := by decide +kernel
theorem dX9_tongue_1 : decode cX9_tongue 1 = .ok (.invokestatic 74, 3) := by decide +kernel
theorem dX9_tongue_4 : decode cX9_tongue 4 = .ok (.ifCond .eq 11, 3) := by decide +kernel
theorem dX9_tongue_7 : decode cX9_tongue 7 = .ok (.aload_n 0, 1) := by decide +kernel
theorem dX9_tongue_8 : decode cX9_tongue 8 = .ok (.iload_n 1, 1) := by decide +kernel
theorem dX9_tongue_9 : decode cX9_tongue 9 = .ok (.invokevirtual 174, 3) := by decide +kernel
theorem dX9_tongue_12 : decode cX9_tongue 12 = .ok (.goto 4, 3) := by decide +kernel
theorem dX9_tongue_15 : decode cX9_tongue 15 = .ok (.iconst (-1), 1) := by decide +kernel
theorem dX9_tongue_16 : decode cX9_tongue 16 = .ok (.ireturn, 1) := by decide +kernel
set_option maxRecDepth 20000 in
theorem ggX9_from_X9_isEar : GoodIn wsX9_from wsX9_isEar := goodIn_r _ [9] (by decide +kernel) (by decide +kernel)
set_option maxRecDepth 20000 in
theorem gX9_from_X9_isEar : GoodIn wsX9_from (va_wsS RX9 182 yX9_isEar wsX9_isEar) := goodIn_app (goodIn_of _ (by decide +kernel)) ggX9_from_X9_isEar
set_option maxRecDepth 20000 in
theorem ggX9_from_X9_isMeaning : GoodIn wsX9_from wsX9_isMeaning := goodIn_r _ [12] (by decide +kernel) (by decide +kernel)
set_option maxRecDepth 20000 in
theorem gX9_from_X9_isMeaning : GoodIn wsX9_from (va_wsS RX9 78 yX9_isMeaning wsX9_isMeaning) := goodIn_app (goodIn_of _ (by decide +kernel)) ggX9_from_X9_isMeaning
set_option maxRecDepth 20000 in
theorem ggX9_from_X0_heardBy : GoodIn wsX9_from wsX0_heardBy := goodIn_r _ [17, 18, 19, 20, 16, 21, 22, 23, 24, 25, 72, 73, 74, 75, 76, 77, 78, 79, 80] (by decide +kernel) (by decide +kernel)
set_option maxRecDepth 20000 in
theorem gX9_from_X0_heardBy : GoodIn wsX9_from (wsV RX9 185 RX0 yX0_heardBy wsX0_heardBy) := goodIn_app (goodIn_of _ (by decide +kernel)) ggX9_from_X0_heardBy
set_option maxRecDepth 20000 in
theorem ggX9_from_X0_wordOf : GoodIn wsX9_from wsX0_wordOf := goodIn_r _ [29, 30, 31, 32, 16, 33, 22, 23, 24, 25, 72, 73, 74, 75, 76, 77, 78, 79, 80] (by decide +kernel) (by decide +kernel)
set_option maxRecDepth 20000 in
theorem gX9_from_X0_wordOf : GoodIn wsX9_from (wsV RX9 81 RX0 yX0_wordOf wsX0_wordOf) := goodIn_app (goodIn_of _ (by decide +kernel)) ggX9_from_X0_wordOf
set_option maxRecDepth 20000 in
theorem ggX9_from_X9_likeOfWordThere : GoodIn wsX9_from wsX9_likeOfWordThere := goodIn_r _ [37, 38, 39, 40, 41, 42, 43, 44, 3, 4, 5, 45, 46, 47, 48, 49, 50, 51, 52, 53, 54, 55, 56, 57, 58, 59, 65, 66, 67, 68, 69, 70, 71, 81] (by decide +kernel) (by decide +kernel)
set_option maxRecDepth 20000 in
theorem gX9_from_X9_likeOfWordThere : GoodIn wsX9_from (wsV RX9 188 RX9 yX9_likeOfWordThere wsX9_likeOfWordThere) := goodIn_app (goodIn_of _ (by decide +kernel)) ggX9_from_X9_likeOfWordThere
set_option maxRecDepth 20000 in
theorem ggX9_from_X0_alikeFrom : GoodIn wsX9_from wsX0_alikeFrom := goodIn_r _ [63, 64, 72, 73, 74, 75, 76, 77, 78, 79, 80] (by decide +kernel) (by decide +kernel)
set_option maxRecDepth 20000 in
theorem gX9_from_X0_alikeFrom : GoodIn wsX9_from (wsV RX9 196 RX0 yX0_alikeFrom wsX0_alikeFrom) := goodIn_app (goodIn_of _ (by decide +kernel)) ggX9_from_X0_alikeFrom
theorem dX9_from_0 : decode cX9_from 0 = .ok (.iload_n 1, 1) := by decide +kernel
theorem dX9_from_1 : decode cX9_from 1 = .ok (.invokestatic 182, 3) := by decide +kernel
theorem dX9_from_4 : decode cX9_from 4 = .ok (.ifCond .eq 10, 3) := by decide +kernel
theorem dX9_from_7 : decode cX9_from 7 = .ok (.iload_n 2, 1) := by decide +kernel
theorem dX9_from_8 : decode cX9_from 8 = .ok (.invokestatic 78, 3) := by decide +kernel
theorem dX9_from_11 : decode cX9_from 11 = .ok (.ifCond .ne 5, 3) := by decide +kernel
theorem dX9_from_14 : decode cX9_from 14 = .ok (.iconst (-1), 1) := by decide +kernel
theorem dX9_from_15 : decode cX9_from 15 = .ok (.ireturn, 1) := by decide +kernel
theorem dX9_from_16 : decode cX9_from 16 = .ok (.aload_n 0, 1) := by decide +kernel
theorem dX9_from_17 : decode cX9_from 17 = .ok (.getfield 49, 3) := by decide +kernel
theorem dX9_from_20 : decode cX9_from 20 = .ok (.iload_n 1, 1) := by decide +kernel
theorem dX9_from_21 : decode cX9_from 21 = .ok (.iload_n 2, 1) := by decide +kernel
theorem dX9_from_22 : decode cX9_from 22 = .ok (.invokevirtual 185, 3) := by decide +kernel
theorem dX9_from_25 : decode cX9_from 25 = .ok (.istore_n 3, 1) := by decide +kernel
theorem dX9_from_26 : decode cX9_from 26 = .ok (.iload_n 3, 1) := by decide +kernel
theorem dX9_from_27 : decode cX9_from 27 = .ok (.ifCond .ne 6, 3) := by decide +kernel
theorem dX9_from_30 : decode cX9_from 30 = .ok (.bipush (-2), 2) := by decide +kernel
theorem dX9_from_32 : decode cX9_from 32 = .ok (.ireturn, 1) := by decide +kernel
theorem dX9_from_33 : decode cX9_from 33 = .ok (.aload_n 0, 1) := by decide +kernel
theorem dX9_from_34 : decode cX9_from 34 = .ok (.iload_n 3, 1) := by decide +kernel
theorem dX9_from_35 : decode cX9_from 35 = .ok (.aload_n 0, 1) := by decide +kernel
theorem dX9_from_36 : decode cX9_from 36 = .ok (.getfield 49, 3) := by decide +kernel
theorem dX9_from_39 : decode cX9_from 39 = .ok (.iconst 0, 1) := by decide +kernel
theorem dX9_from_40 : decode cX9_from 40 = .ok (.iload_n 2, 1) := by decide +kernel
theorem dX9_from_41 : decode cX9_from 41 = .ok (.invokevirtual 81, 3) := by decide +kernel
theorem dX9_from_44 : decode cX9_from 44 = .ok (.invokevirtual 188, 3) := by decide +kernel
theorem dX9_from_47 : decode cX9_from 47 = .ok (.istore 4, 2) := by decide +kernel
theorem dX9_from_49 : decode cX9_from 49 = .ok (.aload_n 0, 1) := by decide +kernel
theorem dX9_from_50 : decode cX9_from 50 = .ok (.iload_n 3, 1) := by decide +kernel
theorem dX9_from_51 : decode cX9_from 51 = .ok (.aload_n 0, 1) := by decide +kernel
theorem dX9_from_52 : decode cX9_from 52 = .ok (.getfield 49, 3) := by decide +kernel
theorem dX9_from_55 : decode cX9_from 55 = .ok (.iconst 1, 1) := by decide +kernel
theorem dX9_from_56 : decode cX9_from 56 = .ok (.iload_n 2, 1) := by decide +kernel
theorem dX9_from_57 : decode cX9_from 57 = .ok (.invokevirtual 81, 3) := by decide +kernel
theorem dX9_from_60 : decode cX9_from 60 = .ok (.invokevirtual 188, 3) := by decide +kernel
theorem dX9_from_63 : decode cX9_from 63 = .ok (.istore 5, 2) := by decide +kernel
theorem dX9_from_65 : decode cX9_from 65 = .ok (.iload 4, 2) := by decide +kernel
theorem dX9_from_67 : decode cX9_from 67 = .ok (.iload 5, 2) := by decide +kernel
theorem dX9_from_69 : decode cX9_from 69 = .ok (.invokestatic 191, 3) := by decide +kernel
theorem dX9_from_72 : decode cX9_from 72 = .ok (.aload_n 0, 1) := by decide +kernel
theorem dX9_from_73 : decode cX9_from 73 = .ok (.getfield 49, 3) := by decide +kernel
theorem dX9_from_76 : decode cX9_from 76 = .ok (.invokevirtual 196, 3) := by decide +kernel
theorem dX9_from_79 : decode cX9_from 79 = .ok (.if_icmp .ge 6, 3) := by decide +kernel
theorem dX9_from_82 : decode cX9_from 82 = .ok (.bipush (-4), 2) := by decide +kernel
theorem dX9_from_84 : decode cX9_from 84 = .ok (.ireturn, 1) := by decide +kernel
theorem dX9_from_85 : decode cX9_from 85 = .ok (.iload 4, 2) := by decide +kernel
theorem dX9_from_87 : decode cX9_from 87 = .ok (.iload 5, 2) := by decide +kernel
theorem dX9_from_89 : decode cX9_from 89 = .ok (.if_icmp .lt 7, 3) := by decide +kernel
theorem dX9_from_92 : decode cX9_from 92 = .ok (.iconst 0, 1) := by decide +kernel
theorem dX9_from_93 : decode cX9_from 93 = .ok (.goto 4, 3) := by decide +kernel
theorem dX9_from_96 : decode cX9_from 96 = .ok (.iconst 1, 1) := by decide +kernel
theorem dX9_from_97 : decode cX9_from 97 = .ok (.ireturn, 1) := by decide +kernel
set_option maxRecDepth 20000 in
theorem ggX9_chance_X9_isEar : GoodIn wsX9_chance wsX9_isEar := goodIn_r _ [6] (by decide +kernel) (by decide +kernel)
set_option maxRecDepth 20000 in
theorem gX9_chance_X9_isEar : GoodIn wsX9_chance (va_wsS RX9 182 yX9_isEar wsX9_isEar) := goodIn_app (goodIn_of _ (by decide +kernel)) ggX9_chance_X9_isEar
set_option maxRecDepth 20000 in
theorem ggX9_chance_X9_isPeople : GoodIn wsX9_chance wsX9_isPeople := goodIn_r _ [9] (by decide +kernel) (by decide +kernel)
set_option maxRecDepth 20000 in
theorem gX9_chance_X9_isPeople : GoodIn wsX9_chance (va_wsS RX9 74 yX9_isPeople wsX9_isPeople) := goodIn_app (goodIn_of _ (by decide +kernel)) ggX9_chance_X9_isPeople
set_option maxRecDepth 20000 in
theorem ggX9_chance_X0_heardBy : GoodIn wsX9_chance wsX0_heardBy := goodIn_r _ [14, 15, 16, 17, 13, 18, 19, 20, 21, 22, 67, 68, 69, 70, 71, 72, 73, 74, 75] (by decide +kernel) (by decide +kernel)
set_option maxRecDepth 20000 in
theorem gX9_chance_X0_heardBy : GoodIn wsX9_chance (wsV RX9 185 RX0 yX0_heardBy wsX0_heardBy) := goodIn_app (goodIn_of _ (by decide +kernel)) ggX9_chance_X0_heardBy
set_option maxRecDepth 20000 in
theorem ggX9_chance_X0_wordOf : GoodIn wsX9_chance wsX0_wordOf := goodIn_r _ [26, 27, 28, 29, 13, 30, 19, 20, 21, 22, 67, 68, 69, 70, 71, 72, 73, 74, 75] (by decide +kernel) (by decide +kernel)
set_option maxRecDepth 20000 in
theorem gX9_chance_X0_wordOf : GoodIn wsX9_chance (wsV RX9 81 RX0 yX0_wordOf wsX0_wordOf) := goodIn_app (goodIn_of _ (by decide +kernel)) ggX9_chance_X0_wordOf
set_option maxRecDepth 20000 in
theorem ggX9_chance_X3_likeness : GoodIn wsX9_chance wsX3_likeness := goodIn_r _ [35, 36, 37, 38, 39, 40, 41, 42, 43, 44, 45, 46, 34, 47, 48, 49, 50, 51, 52, 53, 54, 76] (by decide +kernel) (by decide +kernel)
set_option maxRecDepth 20000 in
theorem gX9_chance_X3_likeness : GoodIn wsX9_chance (wsV RX9 199 RX3 yX3_likeness wsX3_likeness) := goodIn_app (goodIn_of _ (by decide +kernel)) ggX9_chance_X3_likeness
set_option maxRecDepth 20000 in
theorem ggX9_chance_X0_alikeFrom : GoodIn wsX9_chance wsX0_alikeFrom := goodIn_r _ [58, 59, 67, 68, 69, 70, 71, 72, 73, 74, 75] (by decide +kernel) (by decide +kernel)
set_option maxRecDepth 20000 in
theorem gX9_chance_X0_alikeFrom : GoodIn wsX9_chance (wsV RX9 196 RX0 yX0_alikeFrom wsX0_alikeFrom) := goodIn_app (goodIn_of _ (by decide +kernel)) ggX9_chance_X0_alikeFrom
theorem dX9_chance_0 : decode cX9_chance 0 = .ok (.iload_n 1, 1) := by decide +kernel
theorem dX9_chance_1 : decode cX9_chance 1 = .ok (.invokestatic 182, 3) := by decide +kernel
theorem dX9_chance_4 : decode cX9_chance 4 = .ok (.ifCond .eq 19, 3) := by decide +kernel
theorem dX9_chance_7 : decode cX9_chance 7 = .ok (.iload_n 2, 1) := by decide +kernel
theorem dX9_chance_8 : decode cX9_chance 8 = .ok (.invokestatic 74, 3) := by decide +kernel
theorem dX9_chance_11 : decode cX9_chance 11 = .ok (.ifCond .eq 12, 3) := by decide +kernel
theorem dX9_chance_14 : decode cX9_chance 14 = .ok (.iload_n 3, 1) := by decide +kernel
theorem dX9_chance_15 : decode cX9_chance 15 = .ok (.ifCond .lt 8, 3) := by decide +kernel
theorem dX9_chance_18 : decode cX9_chance 18 = .ok (.iload_n 3, 1) := by decide +kernel
theorem dX9_chance_19 : decode cX9_chance 19 = .ok (.iconst 1, 1) := by decide +kernel
theorem dX9_chance_20 : decode cX9_chance 20 = .ok (.if_icmp .le 5, 3) := by decide +kernel
theorem dX9_chance_23 : decode cX9_chance 23 = .ok (.iconst (-1), 1) := by decide +kernel
theorem dX9_chance_24 : decode cX9_chance 24 = .ok (.ireturn, 1) := by decide +kernel
theorem dX9_chance_25 : decode cX9_chance 25 = .ok (.iconst 0, 1) := by decide +kernel
theorem dX9_chance_26 : decode cX9_chance 26 = .ok (.istore 4, 2) := by decide +kernel
theorem dX9_chance_28 : decode cX9_chance 28 = .ok (.iconst 0, 1) := by decide +kernel
theorem dX9_chance_29 : decode cX9_chance 29 = .ok (.istore 5, 2) := by decide +kernel
theorem dX9_chance_31 : decode cX9_chance 31 = .ok (.iconst 0, 1) := by decide +kernel
theorem dX9_chance_32 : decode cX9_chance 32 = .ok (.istore 6, 2) := by decide +kernel
theorem dX9_chance_34 : decode cX9_chance 34 = .ok (.iload 6, 2) := by decide +kernel
theorem dX9_chance_36 : decode cX9_chance 36 = .ok (.bipush 8, 2) := by decide +kernel
theorem dX9_chance_38 : decode cX9_chance 38 = .ok (.if_icmp .ge 93, 3) := by decide +kernel
theorem dX9_chance_41 : decode cX9_chance 41 = .ok (.iconst 0, 1) := by decide +kernel
theorem dX9_chance_42 : decode cX9_chance 42 = .ok (.istore 7, 2) := by decide +kernel
theorem dX9_chance_44 : decode cX9_chance 44 = .ok (.iload 7, 2) := by decide +kernel
theorem dX9_chance_46 : decode cX9_chance 46 = .ok (.bipush 8, 2) := by decide +kernel
theorem dX9_chance_48 : decode cX9_chance 48 = .ok (.if_icmp .ge 77, 3) := by decide +kernel
theorem dX9_chance_51 : decode cX9_chance 51 = .ok (.aload_n 0, 1) := by decide +kernel
theorem dX9_chance_52 : decode cX9_chance 52 = .ok (.getfield 49, 3) := by decide +kernel
theorem dX9_chance_55 : decode cX9_chance 55 = .ok (.iload_n 1, 1) := by decide +kernel
theorem dX9_chance_56 : decode cX9_chance 56 = .ok (.iload 6, 2) := by decide +kernel
theorem dX9_chance_58 : decode cX9_chance 58 = .ok (.invokevirtual 185, 3) := by decide +kernel
theorem dX9_chance_61 : decode cX9_chance 61 = .ok (.istore 8, 2) := by decide +kernel
theorem dX9_chance_63 : decode cX9_chance 63 = .ok (.aload_n 0, 1) := by decide +kernel
theorem dX9_chance_64 : decode cX9_chance 64 = .ok (.getfield 49, 3) := by decide +kernel
theorem dX9_chance_67 : decode cX9_chance 67 = .ok (.iload_n 2, 1) := by decide +kernel
theorem dX9_chance_68 : decode cX9_chance 68 = .ok (.iload 7, 2) := by decide +kernel
theorem dX9_chance_70 : decode cX9_chance 70 = .ok (.invokevirtual 81, 3) := by decide +kernel
theorem dX9_chance_73 : decode cX9_chance 73 = .ok (.istore 9, 2) := by decide +kernel
theorem dX9_chance_75 : decode cX9_chance 75 = .ok (.iload 6, 2) := by decide +kernel
theorem dX9_chance_77 : decode cX9_chance 77 = .ok (.iload 7, 2) := by decide +kernel
theorem dX9_chance_79 : decode cX9_chance 79 = .ok (.if_icmp .eq 40, 3) := by decide +kernel
theorem dX9_chance_82 : decode cX9_chance 82 = .ok (.iload 8, 2) := by decide +kernel
theorem dX9_chance_84 : decode cX9_chance 84 = .ok (.ifCond .eq 35, 3) := by decide +kernel
theorem dX9_chance_87 : decode cX9_chance 87 = .ok (.iload 9, 2) := by decide +kernel
theorem dX9_chance_89 : decode cX9_chance 89 = .ok (.ifCond .eq 30, 3) := by decide +kernel
theorem dX9_chance_92 : decode cX9_chance 92 = .ok (.iinc 5 1, 3) := by decide +kernel
theorem dX9_chance_95 : decode cX9_chance 95 = .ok (.aload_n 0, 1) := by decide +kernel
theorem dX9_chance_96 : decode cX9_chance 96 = .ok (.getfield 42, 3) := by decide +kernel
theorem dX9_chance_99 : decode cX9_chance 99 = .ok (.iload 8, 2) := by decide +kernel
theorem dX9_chance_101 : decode cX9_chance 101 = .ok (.iload 9, 2) := by decide +kernel
theorem dX9_chance_103 : decode cX9_chance 103 = .ok (.invokevirtual 199, 3) := by decide +kernel
theorem dX9_chance_106 : decode cX9_chance 106 = .ok (.aload_n 0, 1) := by decide +kernel
theorem dX9_chance_107 : decode cX9_chance 107 = .ok (.getfield 49, 3) := by decide +kernel
theorem dX9_chance_110 : decode cX9_chance 110 = .ok (.invokevirtual 196, 3) := by decide +kernel
theorem dX9_chance_113 : decode cX9_chance 113 = .ok (.if_icmp .lt 6, 3) := by decide +kernel
theorem dX9_chance_116 : decode cX9_chance 116 = .ok (.iinc 4 1, 3) := by decide +kernel
theorem dX9_chance_119 : decode cX9_chance 119 = .ok (.iinc 7 1, 3) := by decide +kernel
theorem dX9_chance_122 : decode cX9_chance 122 = .ok (.goto (-78), 3) := by decide +kernel
theorem dX9_chance_125 : decode cX9_chance 125 = .ok (.iinc 6 1, 3) := by decide +kernel
theorem dX9_chance_128 : decode cX9_chance 128 = .ok (.goto (-94), 3) := by decide +kernel
theorem dX9_chance_131 : decode cX9_chance 131 = .ok (.iload_n 3, 1) := by decide +kernel
theorem dX9_chance_132 : decode cX9_chance 132 = .ok (.ifCond .ne 8, 3) := by decide +kernel
theorem dX9_chance_135 : decode cX9_chance 135 = .ok (.iload 4, 2) := by decide +kernel
theorem dX9_chance_137 : decode cX9_chance 137 = .ok (.goto 5, 3) := by decide +kernel
theorem dX9_chance_140 : decode cX9_chance 140 = .ok (.iload 5, 2) := by decide +kernel
theorem dX9_chance_142 : decode cX9_chance 142 = .ok (.ireturn, 1) := by decide +kernel
set_option maxRecDepth 20000 in
theorem ggX9_joined_X9_isMeaning : GoodIn wsX9_joined wsX9_isMeaning := goodIn_r _ [5] (by decide +kernel) (by decide +kernel)
set_option maxRecDepth 20000 in
theorem gX9_joined_X9_isMeaning : GoodIn wsX9_joined (va_wsS RX9 78 yX9_isMeaning wsX9_isMeaning) := goodIn_app (goodIn_of _ (by decide +kernel)) ggX9_joined_X9_isMeaning
set_option maxRecDepth 20000 in
theorem ggX9_joined_X0_heardBy : GoodIn wsX9_joined wsX0_heardBy := goodIn_r _ [10, 11, 12, 13, 9, 14, 15, 16, 17, 18, 48, 49, 50, 51, 52, 53, 54, 55, 56] (by decide +kernel) (by decide +kernel)
set_option maxRecDepth 20000 in
theorem gX9_joined_X0_heardBy : GoodIn wsX9_joined (wsV RX9 185 RX0 yX0_heardBy wsX0_heardBy) := goodIn_app (goodIn_of _ (by decide +kernel)) ggX9_joined_X0_heardBy
set_option maxRecDepth 20000 in
theorem ggX9_joined_X9_apartFromOtherEars : GoodIn wsX9_joined wsX9_apartFromOtherEars := goodIn_r _ [22, 1, 23, 6, 7, 8, 9, 10, 11, 12, 13, 14, 15, 16, 17, 18, 24, 25, 26, 27, 28, 29, 30, 31, 32, 33, 34, 35, 36, 37, 38, 39, 40, 41, 42, 43, 44, 45, 46, 47, 48, 49, 50, 51, 52, 53, 54, 55, 56, 57] (by decide +kernel) (by decide +kernel)
set_option maxRecDepth 20000 in
theorem gX9_joined_X9_apartFromOtherEars : GoodIn wsX9_joined (wsV RX9 202 RX9 yX9_apartFromOtherEars wsX9_apartFromOtherEars) := goodIn_app (goodIn_of _ (by decide +kernel)) ggX9_joined_X9_apartFromOtherEars
theorem dX9_joined_0 : decode cX9_joined 0 = .ok (.iload_n 1, 1) := by decide +kernel
theorem dX9_joined_1 : decode cX9_joined 1 = .ok (.invokestatic 78, 3) := by decide +kernel
theorem dX9_joined_4 : decode cX9_joined 4 = .ok (.ifCond .ne 5, 3) := by decide +kernel
theorem dX9_joined_7 : decode cX9_joined 7 = .ok (.iconst (-1), 1) := by decide +kernel
theorem dX9_joined_8 : decode cX9_joined 8 = .ok (.ireturn, 1) := by decide +kernel
theorem dX9_joined_9 : decode cX9_joined 9 = .ok (.bipush (-4), 2) := by decide +kernel
theorem dX9_joined_11 : decode cX9_joined 11 = .ok (.istore_n 2, 1) := by decide +kernel
theorem dX9_joined_12 : decode cX9_joined 12 = .ok (.bipush 18, 2) := by decide +kernel
theorem dX9_joined_14 : decode cX9_joined 14 = .ok (.istore_n 3, 1) := by decide +kernel
theorem dX9_joined_15 : decode cX9_joined 15 = .ok (.iconst 0, 1) := by decide +kernel
theorem dX9_joined_16 : decode cX9_joined 16 = .ok (.istore 4, 2) := by decide +kernel
theorem dX9_joined_18 : decode cX9_joined 18 = .ok (.iload 4, 2) := by decide +kernel
theorem dX9_joined_20 : decode cX9_joined 20 = .ok (.iconst 3, 1) := by decide +kernel
theorem dX9_joined_21 : decode cX9_joined 21 = .ok (.if_icmp .ge 43, 3) := by decide +kernel
theorem dX9_joined_24 : decode cX9_joined 24 = .ok (.aload_n 0, 1) := by decide +kernel
theorem dX9_joined_25 : decode cX9_joined 25 = .ok (.getfield 49, 3) := by decide +kernel
theorem dX9_joined_28 : decode cX9_joined 28 = .ok (.iload 4, 2) := by decide +kernel
theorem dX9_joined_30 : decode cX9_joined 30 = .ok (.iload_n 1, 1) := by decide +kernel
theorem dX9_joined_31 : decode cX9_joined 31 = .ok (.invokevirtual 185, 3) := by decide +kernel
theorem dX9_joined_34 : decode cX9_joined 34 = .ok (.ifCond .eq 24, 3) := by decide +kernel
theorem dX9_joined_37 : decode cX9_joined 37 = .ok (.aload_n 0, 1) := by decide +kernel
theorem dX9_joined_38 : decode cX9_joined 38 = .ok (.iload 4, 2) := by decide +kernel
theorem dX9_joined_40 : decode cX9_joined 40 = .ok (.iload_n 1, 1) := by decide +kernel
theorem dX9_joined_41 : decode cX9_joined 41 = .ok (.invokevirtual 202, 3) := by decide +kernel
theorem dX9_joined_44 : decode cX9_joined 44 = .ok (.istore 5, 2) := by decide +kernel
theorem dX9_joined_46 : decode cX9_joined 46 = .ok (.iload 5, 2) := by decide +kernel
theorem dX9_joined_48 : decode cX9_joined 48 = .ok (.iload_n 3, 1) := by decide +kernel
theorem dX9_joined_49 : decode cX9_joined 49 = .ok (.if_icmp .ge 9, 3) := by decide +kernel
theorem dX9_joined_52 : decode cX9_joined 52 = .ok (.iload 5, 2) := by decide +kernel
theorem dX9_joined_54 : decode cX9_joined 54 = .ok (.istore_n 3, 1) := by decide +kernel
theorem dX9_joined_55 : decode cX9_joined 55 = .ok (.iload 4, 2) := by decide +kernel
theorem dX9_joined_57 : decode cX9_joined 57 = .ok (.istore_n 2, 1) := by decide +kernel
theorem dX9_joined_58 : decode cX9_joined 58 = .ok (.iinc 4 1, 3) := by decide +kernel
theorem dX9_joined_61 : decode cX9_joined 61 = .ok (.goto (-43), 3) := by decide +kernel
theorem dX9_joined_64 : decode cX9_joined 64 = .ok (.iload_n 2, 1) := by decide +kernel
theorem dX9_joined_65 : decode cX9_joined 65 = .ok (.ireturn, 1) := by decide +kernel
set_option maxRecDepth 20000 in
theorem ggX9_children_X9_isOfThousand : GoodIn wsX9_children wsX9_isOfThousand := goodIn_r _ [4] (by decide +kernel) (by decide +kernel)
set_option maxRecDepth 20000 in
theorem gX9_children_X9_isOfThousand : GoodIn wsX9_children (va_wsS RX9 205 yX9_isOfThousand wsX9_isOfThousand) := goodIn_app (goodIn_of _ (by decide +kernel)) ggX9_children_X9_isOfThousand
set_option maxRecDepth 20000 in
theorem ggX9_children_X9_isBent : GoodIn wsX9_children wsX9_isBent := goodIn_r _ [7] (by decide +kernel) (by decide +kernel)
set_option maxRecDepth 20000 in
theorem gX9_children_X9_isBent : GoodIn wsX9_children (va_wsS RX9 208 yX9_isBent wsX9_isBent) := goodIn_app (goodIn_of _ (by decide +kernel)) ggX9_children_X9_isBent
set_option maxRecDepth 20000 in
theorem ggX9_children_X9_nextGeneration : GoodIn wsX9_children wsX9_nextGeneration := goodIn_r _ [10, 11] (by decide +kernel) (by decide +kernel)
set_option maxRecDepth 20000 in
theorem gX9_children_X9_nextGeneration : GoodIn wsX9_children (va_wsS RX9 211 yX9_nextGeneration wsX9_nextGeneration) := goodIn_app (goodIn_of _ (by decide +kernel)) ggX9_children_X9_nextGeneration
theorem dX9_children_0 : decode cX9_children 0 = .ok (.iload_n 1, 1) := by decide +kernel
theorem dX9_children_1 : decode cX9_children 1 = .ok (.invokestatic 205, 3) := by decide +kernel
theorem dX9_children_4 : decode cX9_children 4 = .ok (.ifCond .eq 20, 3) := by decide +kernel
theorem dX9_children_7 : decode cX9_children 7 = .ok (.iload_n 2, 1) := by decide +kernel
theorem dX9_children_8 : decode cX9_children 8 = .ok (.invokestatic 208, 3) := by decide +kernel
theorem dX9_children_11 : decode cX9_children 11 = .ok (.ifCond .eq 13, 3) := by decide +kernel
theorem dX9_children_14 : decode cX9_children 14 = .ok (.iload_n 3, 1) := by decide +kernel
theorem dX9_children_15 : decode cX9_children 15 = .ok (.ifCond .lt 9, 3) := by decide +kernel
theorem dX9_children_18 : decode cX9_children 18 = .ok (.iload_n 3, 1) := by decide +kernel
theorem dX9_children_19 : decode cX9_children 19 = .ok (.bipush 20, 2) := by decide +kernel
theorem dX9_children_21 : decode cX9_children 21 = .ok (.if_icmp .le 5, 3) := by decide +kernel
theorem dX9_children_24 : decode cX9_children 24 = .ok (.iconst (-1), 1) := by decide +kernel
theorem dX9_children_25 : decode cX9_children 25 = .ok (.ireturn, 1) := by decide +kernel
theorem dX9_children_26 : decode cX9_children 26 = .ok (.iload_n 1, 1) := by decide +kernel
theorem dX9_children_27 : decode cX9_children 27 = .ok (.istore 4, 2) := by decide +kernel
theorem dX9_children_29 : decode cX9_children 29 = .ok (.iconst 0, 1) := by decide +kernel
theorem dX9_children_30 : decode cX9_children 30 = .ok (.istore 5, 2) := by decide +kernel
theorem dX9_children_32 : decode cX9_children 32 = .ok (.iload 5, 2) := by decide +kernel
theorem dX9_children_34 : decode cX9_children 34 = .ok (.iload_n 3, 1) := by decide +kernel
theorem dX9_children_35 : decode cX9_children 35 = .ok (.if_icmp .ge 17, 3) := by decide +kernel
theorem dX9_children_38 : decode cX9_children 38 = .ok (.iload 4, 2) := by decide +kernel
theorem dX9_children_40 : decode cX9_children 40 = .ok (.iload_n 2, 1) := by decide +kernel
theorem dX9_children_41 : decode cX9_children 41 = .ok (.invokestatic 211, 3) := by decide +kernel
theorem dX9_children_44 : decode cX9_children 44 = .ok (.istore 4, 2) := by decide +kernel
theorem dX9_children_46 : decode cX9_children 46 = .ok (.iinc 5 1, 3) := by decide +kernel
theorem dX9_children_49 : decode cX9_children 49 = .ok (.goto (-17), 3) := by decide +kernel
theorem dX9_children_52 : decode cX9_children 52 = .ok (.iload 4, 2) := by decide +kernel
theorem dX9_children_54 : decode cX9_children 54 = .ok (.ireturn, 1) := by decide +kernel
set_option maxRecDepth 20000 in
theorem ggX9_even_X9_isOfThousand : GoodIn wsX9_even wsX9_isOfThousand := goodIn_r _ [4] (by decide +kernel) (by decide +kernel)
set_option maxRecDepth 20000 in
theorem gX9_even_X9_isOfThousand : GoodIn wsX9_even (va_wsS RX9 205 yX9_isOfThousand wsX9_isOfThousand) := goodIn_app (goodIn_of _ (by decide +kernel)) ggX9_even_X9_isOfThousand
set_option maxRecDepth 20000 in
theorem ggX9_even_X9_isBent : GoodIn wsX9_even wsX9_isBent := goodIn_r _ [7] (by decide +kernel) (by decide +kernel)
set_option maxRecDepth 20000 in
theorem gX9_even_X9_isBent : GoodIn wsX9_even (va_wsS RX9 208 yX9_isBent wsX9_isBent) := goodIn_app (goodIn_of _ (by decide +kernel)) ggX9_even_X9_isBent
set_option maxRecDepth 20000 in
theorem ggX9_even_X9_nextGeneration : GoodIn wsX9_even wsX9_nextGeneration := goodIn_r _ [10, 11] (by decide +kernel) (by decide +kernel)
set_option maxRecDepth 20000 in
theorem gX9_even_X9_nextGeneration : GoodIn wsX9_even (va_wsS RX9 211 yX9_nextGeneration wsX9_nextGeneration) := goodIn_app (goodIn_of _ (by decide +kernel)) ggX9_even_X9_nextGeneration
theorem dX9_even_0 : decode cX9_even 0 = .ok (.iload_n 1, 1) := by decide +kernel
theorem dX9_even_1 : decode cX9_even 1 = .ok (.invokestatic 205, 3) := by decide +kernel
theorem dX9_even_4 : decode cX9_even 4 = .ok (.ifCond .eq 10, 3) := by decide +kernel
theorem dX9_even_7 : decode cX9_even 7 = .ok (.iload_n 2, 1) := by decide +kernel
theorem dX9_even_8 : decode cX9_even 8 = .ok (.invokestatic 208, 3) := by decide +kernel
theorem dX9_even_11 : decode cX9_even 11 = .ok (.ifCond .ne 5, 3) := by decide +kernel
theorem dX9_even_14 : decode cX9_even 14 = .ok (.iconst (-1), 1) := by decide +kernel
theorem dX9_even_15 : decode cX9_even 15 = .ok (.ireturn, 1) := by decide +kernel
theorem dX9_even_16 : decode cX9_even 16 = .ok (.iload_n 1, 1) := by decide +kernel
theorem dX9_even_17 : decode cX9_even 17 = .ok (.istore_n 3, 1) := by decide +kernel
theorem dX9_even_18 : decode cX9_even 18 = .ok (.iconst 0, 1) := by decide +kernel
theorem dX9_even_19 : decode cX9_even 19 = .ok (.istore 4, 2) := by decide +kernel
theorem dX9_even_21 : decode cX9_even 21 = .ok (.iload 4, 2) := by decide +kernel
theorem dX9_even_23 : decode cX9_even 23 = .ok (.bipush 20, 2) := by decide +kernel
theorem dX9_even_25 : decode cX9_even 25 = .ok (.if_icmp .gt 31, 3) := by decide +kernel
theorem dX9_even_28 : decode cX9_even 28 = .ok (.iload_n 3, 1) := by decide +kernel
theorem dX9_even_29 : decode cX9_even 29 = .ok (.sipush 950, 3) := by decide +kernel
theorem dX9_even_32 : decode cX9_even 32 = .ok (.if_icmp .ge 9, 3) := by decide +kernel
theorem dX9_even_35 : decode cX9_even 35 = .ok (.iload_n 3, 1) := by decide +kernel
theorem dX9_even_36 : decode cX9_even 36 = .ok (.bipush 50, 2) := by decide +kernel
theorem dX9_even_38 : decode cX9_even 38 = .ok (.if_icmp .gt 6, 3) := by decide +kernel
theorem dX9_even_41 : decode cX9_even 41 = .ok (.iload 4, 2) := by decide +kernel
theorem dX9_even_43 : decode cX9_even 43 = .ok (.ireturn, 1) := by decide +kernel
theorem dX9_even_44 : decode cX9_even 44 = .ok (.iload_n 3, 1) := by decide +kernel
theorem dX9_even_45 : decode cX9_even 45 = .ok (.iload_n 2, 1) := by decide +kernel
theorem dX9_even_46 : decode cX9_even 46 = .ok (.invokestatic 211, 3) := by decide +kernel
theorem dX9_even_49 : decode cX9_even 49 = .ok (.istore_n 3, 1) := by decide +kernel
theorem dX9_even_50 : decode cX9_even 50 = .ok (.iinc 4 1, 3) := by decide +kernel
theorem dX9_even_53 : decode cX9_even 53 = .ok (.goto (-32), 3) := by decide +kernel
theorem dX9_even_56 : decode cX9_even 56 = .ok (.bipush (-4), 2) := by decide +kernel
theorem dX9_even_58 : decode cX9_even 58 = .ok (.ireturn, 1) := by decide +kernel
set_option maxRecDepth 20000 in
theorem ggX9_fewest_X0_needs : GoodIn wsX9_fewest wsX0_needs := goodIn_r _ [6, 7, 40, 41, 42, 43, 44, 45, 46, 47, 48] (by decide +kernel) (by decide +kernel)
set_option maxRecDepth 20000 in
theorem gX9_fewest_X0_needs : GoodIn wsX9_fewest (wsV RX9 214 RX0 yX0_needs wsX0_needs) := goodIn_app (goodIn_of _ (by decide +kernel)) ggX9_fewest_X0_needs
set_option maxRecDepth 20000 in
theorem ggX9_fewest_X4_leastSet : GoodIn wsX9_fewest wsX4_leastSet := goodIn_r _ [12, 13, 14, 15, 16, 17, 18, 19, 20, 21, 22, 23, 11, 24, 25, 26, 27, 28, 29, 30, 31, 49, 50, 51, 52, 53] (by decide +kernel) (by decide +kernel)
set_option maxRecDepth 20000 in
theorem gX9_fewest_X4_leastSet : GoodIn wsX9_fewest (wsV RX9 218 RX4 yX4_leastSet wsX4_leastSet) := goodIn_app (goodIn_of _ (by decide +kernel)) ggX9_fewest_X4_leastSet
set_option maxRecDepth 20000 in
theorem ggX9_fewest_J6_bitCount_0f7a4 : GoodIn wsX9_fewest wsJ6_bitCount_0f7a4 := goodIn_r _ [17, 18, 19, 20] (by decide +kernel) (by decide +kernel)
set_option maxRecDepth 20000 in
theorem gX9_fewest_J6_bitCount_0f7a4 : GoodIn wsX9_fewest (va_wsS RX9 177 yJ6_bitCount_0f7a4 wsJ6_bitCount_0f7a4) := goodIn_app (goodIn_of _ (by decide +kernel)) ggX9_fewest_J6_bitCount_0f7a4
theorem dX9_fewest_0 : decode cX9_fewest 0 = .ok (.iload_n 1, 1) := by decide +kernel
theorem dX9_fewest_1 : decode cX9_fewest 1 = .ok (.ifCond .lt 8, 3) := by decide +kernel
theorem dX9_fewest_4 : decode cX9_fewest 4 = .ok (.iload_n 1, 1) := by decide +kernel
theorem dX9_fewest_5 : decode cX9_fewest 5 = .ok (.iconst 1, 1) := by decide +kernel
theorem dX9_fewest_6 : decode cX9_fewest 6 = .ok (.if_icmp .le 5, 3) := by decide +kernel
theorem dX9_fewest_9 : decode cX9_fewest 9 = .ok (.iconst (-1), 1) := by decide +kernel
theorem dX9_fewest_10 : decode cX9_fewest 10 = .ok (.ireturn, 1) := by decide +kernel
theorem dX9_fewest_11 : decode cX9_fewest 11 = .ok (.aload_n 0, 1) := by decide +kernel
theorem dX9_fewest_12 : decode cX9_fewest 12 = .ok (.getfield 49, 3) := by decide +kernel
theorem dX9_fewest_15 : decode cX9_fewest 15 = .ok (.invokevirtual 214, 3) := by decide +kernel
theorem dX9_fewest_18 : decode cX9_fewest 18 = .ok (.invokevirtual 218, 3) := by decide +kernel
theorem dX9_fewest_21 : decode cX9_fewest 21 = .ok (.istore_n 2, 1) := by decide +kernel
theorem dX9_fewest_22 : decode cX9_fewest 22 = .ok (.iload_n 1, 1) := by decide +kernel
theorem dX9_fewest_23 : decode cX9_fewest 23 = .ok (.ifCond .ne 7, 3) := by decide +kernel
theorem dX9_fewest_26 : decode cX9_fewest 26 = .ok (.iload_n 2, 1) := by decide +kernel
theorem dX9_fewest_27 : decode cX9_fewest 27 = .ok (.goto 7, 3) := by decide +kernel
theorem dX9_fewest_30 : decode cX9_fewest 30 = .ok (.iload_n 2, 1) := by decide +kernel
theorem dX9_fewest_31 : decode cX9_fewest 31 = .ok (.invokestatic 177, 3) := by decide +kernel
theorem dX9_fewest_34 : decode cX9_fewest 34 = .ok (.ireturn, 1) := by decide +kernel
set_option maxRecDepth 20000 in
theorem ggX9_both_X0_soundsOf : GoodIn wsX9_both wsX0_soundsOf := goodIn_r _ [6, 7, 8, 9, 10, 11, 19, 20, 21, 22, 23, 24, 25, 26, 27] (by decide +kernel) (by decide +kernel)
set_option maxRecDepth 20000 in
theorem gX9_both_X0_soundsOf : GoodIn wsX9_both (wsV RX9 223 RX0 yX0_soundsOf wsX0_soundsOf) := goodIn_app (goodIn_of _ (by decide +kernel)) ggX9_both_X0_soundsOf
theorem dX9_both_0 : decode cX9_both 0 = .ok (.aload_n 0, 1) := by decide +kernel
theorem dX9_both_1 : decode cX9_both 1 = .ok (.getfield 49, 3) := by decide +kernel
theorem dX9_both_4 : decode cX9_both 4 = .ok (.iconst 0, 1) := by decide +kernel
theorem dX9_both_5 : decode cX9_both 5 = .ok (.invokevirtual 223, 3) := by decide +kernel
theorem dX9_both_8 : decode cX9_both 8 = .ok (.aload_n 0, 1) := by decide +kernel
theorem dX9_both_9 : decode cX9_both 9 = .ok (.getfield 49, 3) := by decide +kernel
theorem dX9_both_12 : decode cX9_both 12 = .ok (.iconst 1, 1) := by decide +kernel
theorem dX9_both_13 : decode cX9_both 13 = .ok (.invokevirtual 223, 3) := by decide +kernel
theorem dX9_both_16 : decode cX9_both 16 = .ok (.iand, 1) := by decide +kernel
theorem dX9_both_17 : decode cX9_both 17 = .ok (.ireturn, 1) := by decide +kernel
set_option maxRecDepth 20000 in
theorem ggX9_lost_X9_isPeople : GoodIn wsX9_lost wsX9_isPeople := goodIn_r _ [5] (by decide +kernel) (by decide +kernel)
set_option maxRecDepth 20000 in
theorem gX9_lost_X9_isPeople : GoodIn wsX9_lost (va_wsS RX9 74 yX9_isPeople wsX9_isPeople) := goodIn_app (goodIn_of _ (by decide +kernel)) ggX9_lost_X9_isPeople
set_option maxRecDepth 20000 in
theorem ggX9_lost_X0_wordOf : GoodIn wsX9_lost wsX0_wordOf := goodIn_r _ [10, 11, 12, 13, 9, 14, 15, 16, 17, 18, 39, 40, 41, 42, 43, 44, 45, 46, 47] (by decide +kernel) (by decide +kernel)
set_option maxRecDepth 20000 in
theorem gX9_lost_X0_wordOf : GoodIn wsX9_lost (wsV RX9 81 RX0 yX0_wordOf wsX0_wordOf) := goodIn_app (goodIn_of _ (by decide +kernel)) ggX9_lost_X0_wordOf
set_option maxRecDepth 20000 in
theorem ggX9_lost_X8_length : GoodIn wsX9_lost wsX8_length := goodIn_r _ [22] (by decide +kernel) (by decide +kernel)
set_option maxRecDepth 20000 in
theorem gX9_lost_X8_length : GoodIn wsX9_lost (va_wsS RX9 88 yX8_length wsX8_length) := goodIn_app (goodIn_of _ (by decide +kernel)) ggX9_lost_X8_length
set_option maxRecDepth 20000 in
theorem ggX9_lost_X8_soundAt : GoodIn wsX9_lost wsX8_soundAt := goodIn_r _ [25] (by decide +kernel) (by decide +kernel)
set_option maxRecDepth 20000 in
theorem gX9_lost_X8_soundAt : GoodIn wsX9_lost (va_wsS RX9 93 yX8_soundAt wsX8_soundAt) := goodIn_app (goodIn_of _ (by decide +kernel)) ggX9_lost_X8_soundAt
set_option maxRecDepth 20000 in
theorem ggX9_lost_X0_soundSaidBy : GoodIn wsX9_lost wsX0_soundSaidBy := goodIn_r _ [29, 30, 31, 15, 16, 17, 18, 39, 40, 41, 42, 43, 44, 45, 46, 47] (by decide +kernel) (by decide +kernel)
set_option maxRecDepth 20000 in
theorem gX9_lost_X0_soundSaidBy : GoodIn wsX9_lost (wsV RX9 226 RX0 yX0_soundSaidBy wsX0_soundSaidBy) := goodIn_app (goodIn_of _ (by decide +kernel)) ggX9_lost_X0_soundSaidBy
theorem dX9_lost_0 : decode cX9_lost 0 = .ok (.iload_n 1, 1) := by decide +kernel
theorem dX9_lost_1 : decode cX9_lost 1 = .ok (.invokestatic 74, 3) := by decide +kernel
theorem dX9_lost_4 : decode cX9_lost 4 = .ok (.ifCond .ne 5, 3) := by decide +kernel
theorem dX9_lost_7 : decode cX9_lost 7 = .ok (.iconst (-1), 1) := by decide +kernel
theorem dX9_lost_8 : decode cX9_lost 8 = .ok (.ireturn, 1) := by decide +kernel
theorem dX9_lost_9 : decode cX9_lost 9 = .ok (.iconst 0, 1) := by decide +kernel
theorem dX9_lost_10 : decode cX9_lost 10 = .ok (.istore_n 2, 1) := by decide +kernel
theorem dX9_lost_11 : decode cX9_lost 11 = .ok (.iconst 0, 1) := by decide +kernel
theorem dX9_lost_12 : decode cX9_lost 12 = .ok (.istore_n 3, 1) := by decide +kernel
theorem dX9_lost_13 : decode cX9_lost 13 = .ok (.iload_n 3, 1) := by decide +kernel
theorem dX9_lost_14 : decode cX9_lost 14 = .ok (.bipush 8, 2) := by decide +kernel
theorem dX9_lost_16 : decode cX9_lost 16 = .ok (.if_icmp .ge 72, 3) := by decide +kernel
theorem dX9_lost_19 : decode cX9_lost 19 = .ok (.aload_n 0, 1) := by decide +kernel
theorem dX9_lost_20 : decode cX9_lost 20 = .ok (.getfield 49, 3) := by decide +kernel
theorem dX9_lost_23 : decode cX9_lost 23 = .ok (.iload_n 1, 1) := by decide +kernel
theorem dX9_lost_24 : decode cX9_lost 24 = .ok (.iload_n 3, 1) := by decide +kernel
theorem dX9_lost_25 : decode cX9_lost 25 = .ok (.invokevirtual 81, 3) := by decide +kernel
theorem dX9_lost_28 : decode cX9_lost 28 = .ok (.istore 4, 2) := by decide +kernel
theorem dX9_lost_30 : decode cX9_lost 30 = .ok (.iconst 0, 1) := by decide +kernel
theorem dX9_lost_31 : decode cX9_lost 31 = .ok (.istore 5, 2) := by decide +kernel
theorem dX9_lost_33 : decode cX9_lost 33 = .ok (.iload 5, 2) := by decide +kernel
theorem dX9_lost_35 : decode cX9_lost 35 = .ok (.iload 4, 2) := by decide +kernel
theorem dX9_lost_37 : decode cX9_lost 37 = .ok (.invokestatic 88, 3) := by decide +kernel
theorem dX9_lost_40 : decode cX9_lost 40 = .ok (.if_icmp .ge 42, 3) := by decide +kernel
theorem dX9_lost_43 : decode cX9_lost 43 = .ok (.iload 4, 2) := by decide +kernel
theorem dX9_lost_45 : decode cX9_lost 45 = .ok (.iload 5, 2) := by decide +kernel
theorem dX9_lost_47 : decode cX9_lost 47 = .ok (.invokestatic 93, 3) := by decide +kernel
theorem dX9_lost_50 : decode cX9_lost 50 = .ok (.istore 6, 2) := by decide +kernel
theorem dX9_lost_52 : decode cX9_lost 52 = .ok (.aload_n 0, 1) := by decide +kernel
theorem dX9_lost_53 : decode cX9_lost 53 = .ok (.getfield 49, 3) := by decide +kernel
theorem dX9_lost_56 : decode cX9_lost 56 = .ok (.iconst 1, 1) := by decide +kernel
theorem dX9_lost_57 : decode cX9_lost 57 = .ok (.iload_n 1, 1) := by decide +kernel
theorem dX9_lost_58 : decode cX9_lost 58 = .ok (.isub, 1) := by decide +kernel
theorem dX9_lost_59 : decode cX9_lost 59 = .ok (.iload 6, 2) := by decide +kernel
theorem dX9_lost_61 : decode cX9_lost 61 = .ok (.invokevirtual 226, 3) := by decide +kernel
theorem dX9_lost_64 : decode cX9_lost 64 = .ok (.bipush (-4), 2) := by decide +kernel
theorem dX9_lost_66 : decode cX9_lost 66 = .ok (.if_icmp .ne 10, 3) := by decide +kernel
theorem dX9_lost_69 : decode cX9_lost 69 = .ok (.iload_n 2, 1) := by decide +kernel
theorem dX9_lost_70 : decode cX9_lost 70 = .ok (.iconst 1, 1) := by decide +kernel
theorem dX9_lost_71 : decode cX9_lost 71 = .ok (.iload 6, 2) := by decide +kernel
theorem dX9_lost_73 : decode cX9_lost 73 = .ok (.ishl, 1) := by decide +kernel
theorem dX9_lost_74 : decode cX9_lost 74 = .ok (.ior, 1) := by decide +kernel
theorem dX9_lost_75 : decode cX9_lost 75 = .ok (.istore_n 2, 1) := by decide +kernel
theorem dX9_lost_76 : decode cX9_lost 76 = .ok (.iinc 5 1, 3) := by decide +kernel
theorem dX9_lost_79 : decode cX9_lost 79 = .ok (.goto (-46), 3) := by decide +kernel
theorem dX9_lost_82 : decode cX9_lost 82 = .ok (.iinc 3 1, 3) := by decide +kernel
theorem dX9_lost_85 : decode cX9_lost 85 = .ok (.goto (-72), 3) := by decide +kernel
theorem dX9_lost_88 : decode cX9_lost 88 = .ok (.iload_n 2, 1) := by decide +kernel
theorem dX9_lost_89 : decode cX9_lost 89 = .ok (.ireturn, 1) := by decide +kernel
set_option maxRecDepth 20000 in
theorem ggX9_keep_X6_push : GoodIn wsX9_keep wsX6_push := goodIn_r _ [6, 7, 8, 9, 10, 11, 12, 13, 25, 26, 27] (by decide +kernel) (by decide +kernel)
set_option maxRecDepth 20000 in
theorem gX9_keep_X6_push : GoodIn wsX9_keep (wsV RX9 229 RX6 yX6_push wsX6_push) := goodIn_app (goodIn_of _ (by decide +kernel)) ggX9_keep_X6_push
set_option maxRecDepth 20000 in
theorem ggX9_keep_X6_kept : GoodIn wsX9_keep wsX6_kept := goodIn_r _ [17, 7, 25, 26, 27] (by decide +kernel) (by decide +kernel)
set_option maxRecDepth 20000 in
theorem gX9_keep_X6_kept : GoodIn wsX9_keep (wsV RX9 232 RX6 yX6_kept wsX6_kept) := goodIn_app (goodIn_of _ (by decide +kernel)) ggX9_keep_X6_kept
theorem dX9_keep_0 : decode cX9_keep 0 = .ok (.aload_n 0, 1) := by decide +kernel
theorem dX9_keep_1 : decode cX9_keep 1 = .ok (.getfield 28, 3) := by decide +kernel
theorem dX9_keep_4 : decode cX9_keep 4 = .ok (.invokevirtual 229, 3) := by decide +kernel
theorem dX9_keep_7 : decode cX9_keep 7 = .ok (.ifCond .eq 13, 3) := by decide +kernel
theorem dX9_keep_10 : decode cX9_keep 10 = .ok (.aload_n 0, 1) := by decide +kernel
theorem dX9_keep_11 : decode cX9_keep 11 = .ok (.getfield 28, 3) := by decide +kernel
theorem dX9_keep_14 : decode cX9_keep 14 = .ok (.invokevirtual 232, 3) := by decide +kernel
theorem dX9_keep_17 : decode cX9_keep 17 = .ok (.goto 5, 3) := by decide +kernel
theorem dX9_keep_20 : decode cX9_keep 20 = .ok (.bipush (-3), 2) := by decide +kernel
theorem dX9_keep_22 : decode cX9_keep 22 = .ok (.ireturn, 1) := by decide +kernel
set_option maxRecDepth 20000 in
theorem ggX9_back_X6_pop : GoodIn wsX9_back wsX6_pop := goodIn_r _ [6, 7, 8, 9, 10, 11, 12, 13, 25, 26, 27] (by decide +kernel) (by decide +kernel)
set_option maxRecDepth 20000 in
theorem gX9_back_X6_pop : GoodIn wsX9_back (wsV RX9 235 RX6 yX6_pop wsX6_pop) := goodIn_app (goodIn_of _ (by decide +kernel)) ggX9_back_X6_pop
set_option maxRecDepth 20000 in
theorem ggX9_back_X6_kept : GoodIn wsX9_back wsX6_kept := goodIn_r _ [17, 7, 25, 26, 27] (by decide +kernel) (by decide +kernel)
set_option maxRecDepth 20000 in
theorem gX9_back_X6_kept : GoodIn wsX9_back (wsV RX9 232 RX6 yX6_kept wsX6_kept) := goodIn_app (goodIn_of _ (by decide +kernel)) ggX9_back_X6_kept
theorem dX9_back_0 : decode cX9_back 0 = .ok (.aload_n 0, 1) := by decide +kernel
theorem dX9_back_1 : decode cX9_back 1 = .ok (.getfield 28, 3) := by decide +kernel
theorem dX9_back_4 : decode cX9_back 4 = .ok (.invokevirtual 235, 3) := by decide +kernel
theorem dX9_back_7 : decode cX9_back 7 = .ok (.ifCond .eq 13, 3) := by decide +kernel
theorem dX9_back_10 : decode cX9_back 10 = .ok (.aload_n 0, 1) := by decide +kernel
theorem dX9_back_11 : decode cX9_back 11 = .ok (.getfield 28, 3) := by decide +kernel
theorem dX9_back_14 : decode cX9_back 14 = .ok (.invokevirtual 232, 3) := by decide +kernel
theorem dX9_back_17 : decode cX9_back 17 = .ok (.goto 5, 3) := by decide +kernel
theorem dX9_back_20 : decode cX9_back 20 = .ok (.bipush (-2), 2) := by decide +kernel
theorem dX9_back_22 : decode cX9_back 22 = .ok (.ireturn, 1) := by decide +kernel
