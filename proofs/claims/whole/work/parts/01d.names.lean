set_option maxRecDepth 20000 in
theorem ggX9_likeOf_X9_farOf : GoodIn wsX9_likeOf wsX9_farOf := goodIn_r _ [7, 1, 2, 8, 9, 10, 6, 11, 12, 13, 14, 15, 16, 17, 18, 19, 20, 21, 22, 23, 24] (by decide +kernel) (by decide +kernel)
set_option maxRecDepth 20000 in
theorem gX9_likeOf_X9_farOf : GoodIn wsX9_likeOf (wsV RX9 146 RX9 yX9_farOf wsX9_farOf) := goodIn_app (goodIn_of _ (by decide +kernel)) ggX9_likeOf_X9_farOf
theorem dX9_likeOf_0 : decode cX9_likeOf 0 = .ok (.aload_n 0, 1) := by decide +kernel
theorem dX9_likeOf_1 : decode cX9_likeOf 1 = .ok (.getfield 25, 3) := by decide +kernel
theorem dX9_likeOf_4 : decode cX9_likeOf 4 = .ok (.iconst 0, 1) := by decide +kernel
theorem dX9_likeOf_5 : decode cX9_likeOf 5 = .ok (.iaload, 1) := by decide +kernel
theorem dX9_likeOf_6 : decode cX9_likeOf 6 = .ok (.aload_n 0, 1) := by decide +kernel
theorem dX9_likeOf_7 : decode cX9_likeOf 7 = .ok (.getfield 28, 3) := by decide +kernel
theorem dX9_likeOf_10 : decode cX9_likeOf 10 = .ok (.iconst 0, 1) := by decide +kernel
theorem dX9_likeOf_11 : decode cX9_likeOf 11 = .ok (.iaload, 1) := by decide +kernel
theorem dX9_likeOf_12 : decode cX9_likeOf 12 = .ok (.if_icmp .le 12, 3) := by decide +kernel
theorem dX9_likeOf_15 : decode cX9_likeOf 15 = .ok (.aload_n 0, 1) := by decide +kernel
theorem dX9_likeOf_16 : decode cX9_likeOf 16 = .ok (.getfield 25, 3) := by decide +kernel
theorem dX9_likeOf_19 : decode cX9_likeOf 19 = .ok (.iconst 0, 1) := by decide +kernel
theorem dX9_likeOf_20 : decode cX9_likeOf 20 = .ok (.iaload, 1) := by decide +kernel
theorem dX9_likeOf_21 : decode cX9_likeOf 21 = .ok (.goto 9, 3) := by decide +kernel
theorem dX9_likeOf_24 : decode cX9_likeOf 24 = .ok (.aload_n 0, 1) := by decide +kernel
theorem dX9_likeOf_25 : decode cX9_likeOf 25 = .ok (.getfield 28, 3) := by decide +kernel
theorem dX9_likeOf_28 : decode cX9_likeOf 28 = .ok (.iconst 0, 1) := by decide +kernel
theorem dX9_likeOf_29 : decode cX9_likeOf 29 = .ok (.iaload, 1) := by decide +kernel
theorem dX9_likeOf_30 : decode cX9_likeOf 30 = .ok (.istore_n 1, 1) := by decide +kernel
theorem dX9_likeOf_31 : decode cX9_likeOf 31 = .ok (.iload_n 1, 1) := by decide +kernel
theorem dX9_likeOf_32 : decode cX9_likeOf 32 = .ok (.ifCond .ne 8, 3) := by decide +kernel
theorem dX9_likeOf_35 : decode cX9_likeOf 35 = .ok (.bipush 100, 2) := by decide +kernel
theorem dX9_likeOf_37 : decode cX9_likeOf 37 = .ok (.goto 15, 3) := by decide +kernel
theorem dX9_likeOf_40 : decode cX9_likeOf 40 = .ok (.bipush 100, 2) := by decide +kernel
theorem dX9_likeOf_42 : decode cX9_likeOf 42 = .ok (.bipush 100, 2) := by decide +kernel
theorem dX9_likeOf_44 : decode cX9_likeOf 44 = .ok (.aload_n 0, 1) := by decide +kernel
theorem dX9_likeOf_45 : decode cX9_likeOf 45 = .ok (.invokevirtual 146, 3) := by decide +kernel
theorem dX9_likeOf_48 : decode cX9_likeOf 48 = .ok (.imul, 1) := by decide +kernel
theorem dX9_likeOf_49 : decode cX9_likeOf 49 = .ok (.iload_n 1, 1) := by decide +kernel
theorem dX9_likeOf_50 : decode cX9_likeOf 50 = .ok (.idiv, 1) := by decide +kernel
theorem dX9_likeOf_51 : decode cX9_likeOf 51 = .ok (.isub, 1) := by decide +kernel
theorem dX9_likeOf_52 : decode cX9_likeOf 52 = .ok (.ireturn, 1) := by decide +kernel
set_option maxRecDepth 20000 in
theorem ggX9_likeFor_X9_wordAt : GoodIn wsX9_likeFor wsX9_wordAt := goodIn_r _ [6] (by decide +kernel) (by decide +kernel)
set_option maxRecDepth 20000 in
theorem gX9_likeFor_X9_wordAt : GoodIn wsX9_likeFor (va_wsS RX9 129 yX9_wordAt wsX9_wordAt) := goodIn_app (goodIn_of _ (by decide +kernel)) ggX9_likeFor_X9_wordAt
set_option maxRecDepth 20000 in
theorem ggX9_likeFor_X9_say : GoodIn wsX9_likeFor wsX9_say := goodIn_r _ [10, 11, 12, 13, 14, 5, 15, 16, 17, 18, 31, 32, 33, 34, 35, 36, 37, 38, 39, 40, 41, 42, 43] (by decide +kernel) (by decide +kernel)
set_option maxRecDepth 20000 in
theorem gX9_likeFor_X9_say : GoodIn wsX9_likeFor (wsV RX9 149 RX9 yX9_say wsX9_say) := goodIn_app (goodIn_of _ (by decide +kernel)) ggX9_likeFor_X9_say
set_option maxRecDepth 20000 in
theorem ggX9_likeFor_X9_likeOf : GoodIn wsX9_likeFor wsX9_likeOf := goodIn_r _ [22, 1, 2, 23, 24, 25, 5, 26, 27, 28, 29, 30, 31, 32, 33, 34, 35, 36, 37, 38, 39, 40, 41, 42, 43] (by decide +kernel) (by decide +kernel)
set_option maxRecDepth 20000 in
theorem gX9_likeFor_X9_likeOf : GoodIn wsX9_likeFor (wsV RX9 153 RX9 yX9_likeOf wsX9_likeOf) := goodIn_app (goodIn_of _ (by decide +kernel)) ggX9_likeFor_X9_likeOf
theorem dX9_likeFor_0 : decode cX9_likeFor 0 = .ok (.aload_n 0, 1) := by decide +kernel
theorem dX9_likeFor_1 : decode cX9_likeFor 1 = .ok (.iconst 0, 1) := by decide +kernel
theorem dX9_likeFor_2 : decode cX9_likeFor 2 = .ok (.iload_n 1, 1) := by decide +kernel
theorem dX9_likeFor_3 : decode cX9_likeFor 3 = .ok (.invokestatic 129, 3) := by decide +kernel
theorem dX9_likeFor_6 : decode cX9_likeFor 6 = .ok (.iconst 1, 1) := by decide +kernel
theorem dX9_likeFor_7 : decode cX9_likeFor 7 = .ok (.aload_n 0, 1) := by decide +kernel
theorem dX9_likeFor_8 : decode cX9_likeFor 8 = .ok (.getfield 25, 3) := by decide +kernel
theorem dX9_likeFor_11 : decode cX9_likeFor 11 = .ok (.invokevirtual 149, 3) := by decide +kernel
theorem dX9_likeFor_14 : decode cX9_likeFor 14 = .ok (.aload_n 0, 1) := by decide +kernel
theorem dX9_likeFor_15 : decode cX9_likeFor 15 = .ok (.iconst 1, 1) := by decide +kernel
theorem dX9_likeFor_16 : decode cX9_likeFor 16 = .ok (.iload_n 1, 1) := by decide +kernel
theorem dX9_likeFor_17 : decode cX9_likeFor 17 = .ok (.invokestatic 129, 3) := by decide +kernel
theorem dX9_likeFor_20 : decode cX9_likeFor 20 = .ok (.iconst (-1), 1) := by decide +kernel
theorem dX9_likeFor_21 : decode cX9_likeFor 21 = .ok (.aload_n 0, 1) := by decide +kernel
theorem dX9_likeFor_22 : decode cX9_likeFor 22 = .ok (.getfield 28, 3) := by decide +kernel
theorem dX9_likeFor_25 : decode cX9_likeFor 25 = .ok (.invokevirtual 149, 3) := by decide +kernel
theorem dX9_likeFor_28 : decode cX9_likeFor 28 = .ok (.aload_n 0, 1) := by decide +kernel
theorem dX9_likeFor_29 : decode cX9_likeFor 29 = .ok (.invokevirtual 153, 3) := by decide +kernel
theorem dX9_likeFor_32 : decode cX9_likeFor 32 = .ok (.ireturn, 1) := by decide +kernel
set_option maxRecDepth 20000 in
theorem ggX9_isAlike_X9_likeFor : GoodIn wsX9_isAlike wsX9_likeFor := goodIn_r _ [6, 7, 8, 9, 10, 5, 11, 12, 13, 14, 15, 1, 16, 17, 18, 19, 20, 21, 22, 23, 24, 25, 26, 27, 28, 29, 30, 31, 32, 33, 34, 35, 36, 37, 38, 39, 40, 41, 42, 43, 44, 45, 46, 47] (by decide +kernel) (by decide +kernel)
set_option maxRecDepth 20000 in
theorem gX9_isAlike_X9_likeFor : GoodIn wsX9_isAlike (wsV RX9 156 RX9 yX9_likeFor wsX9_likeFor) := goodIn_app (goodIn_of _ (by decide +kernel)) ggX9_isAlike_X9_likeFor
theorem dX9_isAlike_0 : decode cX9_isAlike 0 = .ok (.aload_n 0, 1) := by decide +kernel
theorem dX9_isAlike_1 : decode cX9_isAlike 1 = .ok (.iload_n 1, 1) := by decide +kernel
theorem dX9_isAlike_2 : decode cX9_isAlike 2 = .ok (.invokevirtual 156, 3) := by decide +kernel
theorem dX9_isAlike_5 : decode cX9_isAlike 5 = .ok (.aload_n 0, 1) := by decide +kernel
theorem dX9_isAlike_6 : decode cX9_isAlike 6 = .ok (.getfield 16, 3) := by decide +kernel
theorem dX9_isAlike_9 : decode cX9_isAlike 9 = .ok (.sipush 303, 3) := by decide +kernel
theorem dX9_isAlike_12 : decode cX9_isAlike 12 = .ok (.iaload, 1) := by decide +kernel
theorem dX9_isAlike_13 : decode cX9_isAlike 13 = .ok (.if_icmp .lt 7, 3) := by decide +kernel
theorem dX9_isAlike_16 : decode cX9_isAlike 16 = .ok (.iconst 1, 1) := by decide +kernel
theorem dX9_isAlike_17 : decode cX9_isAlike 17 = .ok (.goto 4, 3) := by decide +kernel
theorem dX9_isAlike_20 : decode cX9_isAlike 20 = .ok (.iconst 0, 1) := by decide +kernel
theorem dX9_isAlike_21 : decode cX9_isAlike 21 = .ok (.ireturn, 1) := by decide +kernel
set_option maxRecDepth 20000 in
theorem ggX9_word__X9_in : GoodIn wsX9_word_ wsX9_in := goodIn_r _ [7] (by decide +kernel) (by decide +kernel)
set_option maxRecDepth 20000 in
theorem gX9_word__X9_in : GoodIn wsX9_word_ (va_wsS RX9 49 yX9_in wsX9_in) := goodIn_app (goodIn_of _ (by decide +kernel)) ggX9_word__X9_in
set_option maxRecDepth 20000 in
theorem ggX9_word__X9_isMeaning : GoodIn wsX9_word_ wsX9_isMeaning := goodIn_r _ [10, 11, 4, 5, 6, 7] (by decide +kernel) (by decide +kernel)
set_option maxRecDepth 20000 in
theorem gX9_word__X9_isMeaning : GoodIn wsX9_word_ (va_wsS RX9 159 yX9_isMeaning wsX9_isMeaning) := goodIn_app (goodIn_of _ (by decide +kernel)) ggX9_word__X9_isMeaning
set_option maxRecDepth 20000 in
theorem ggX9_word__X9_wordAt : GoodIn wsX9_word_ wsX9_wordAt := goodIn_r _ [14] (by decide +kernel) (by decide +kernel)
set_option maxRecDepth 20000 in
theorem gX9_word__X9_wordAt : GoodIn wsX9_word_ (va_wsS RX9 129 yX9_wordAt wsX9_wordAt) := goodIn_app (goodIn_of _ (by decide +kernel)) ggX9_word__X9_wordAt
set_option maxRecDepth 20000 in
theorem ggX9_word__X9_say : GoodIn wsX9_word_ wsX9_say := goodIn_r _ [18, 19, 20, 21, 22, 6, 23, 24, 25, 26, 27, 28, 29, 30, 31, 32, 33, 34, 35, 36, 37, 38, 39] (by decide +kernel) (by decide +kernel)
set_option maxRecDepth 20000 in
theorem gX9_word__X9_say : GoodIn wsX9_word_ (wsV RX9 149 RX9 yX9_say wsX9_say) := goodIn_app (goodIn_of _ (by decide +kernel)) ggX9_word__X9_say
theorem dX9_word__0 : decode cX9_word_ 0 = .ok (.iload_n 1, 1) := by decide +kernel
theorem dX9_word__1 : decode cX9_word_ 1 = .ok (.i2l, 1) := by decide +kernel
theorem dX9_word__2 : decode cX9_word_ 2 = .ok (.lconst 0, 1) := by decide +kernel
theorem dX9_word__3 : decode cX9_word_ 3 = .ok (.lconst 1, 1) := by decide +kernel
theorem dX9_word__4 : decode cX9_word_ 4 = .ok (.invokestatic 49, 3) := by decide +kernel
theorem dX9_word__7 : decode cX9_word_ 7 = .ok (.ifCond .eq 35, 3) := by decide +kernel
theorem dX9_word__10 : decode cX9_word_ 10 = .ok (.iload_n 2, 1) := by decide +kernel
theorem dX9_word__11 : decode cX9_word_ 11 = .ok (.invokestatic 159, 3) := by decide +kernel
theorem dX9_word__14 : decode cX9_word_ 14 = .ok (.ifCond .eq 28, 3) := by decide +kernel
theorem dX9_word__17 : decode cX9_word_ 17 = .ok (.iload_n 3, 1) := by decide +kernel
theorem dX9_word__18 : decode cX9_word_ 18 = .ok (.i2l, 1) := by decide +kernel
theorem dX9_word__19 : decode cX9_word_ 19 = .ok (.lconst 0, 1) := by decide +kernel
theorem dX9_word__20 : decode cX9_word_ 20 = .ok (.lconst 1, 1) := by decide +kernel
theorem dX9_word__21 : decode cX9_word_ 21 = .ok (.invokestatic 49, 3) := by decide +kernel
theorem dX9_word__24 : decode cX9_word_ 24 = .ok (.ifCond .eq 18, 3) := by decide +kernel
theorem dX9_word__27 : decode cX9_word_ 27 = .ok (.iload 4, 2) := by decide +kernel
theorem dX9_word__29 : decode cX9_word_ 29 = .ok (.i2l, 1) := by decide +kernel
theorem dX9_word__30 : decode cX9_word_ 30 = .ok (.ldc2_w 162, 3) := by decide +kernel
theorem dX9_word__33 : decode cX9_word_ 33 = .ok (.ldc2_w 164, 3) := by decide +kernel
theorem dX9_word__36 : decode cX9_word_ 36 = .ok (.invokestatic 49, 3) := by decide +kernel
theorem dX9_word__39 : decode cX9_word_ 39 = .ok (.ifCond .ne 5, 3) := by decide +kernel
theorem dX9_word__42 : decode cX9_word_ 42 = .ok (.iconst (-1), 1) := by decide +kernel
theorem dX9_word__43 : decode cX9_word_ 43 = .ok (.ireturn, 1) := by decide +kernel
theorem dX9_word__44 : decode cX9_word_ 44 = .ok (.aload_n 0, 1) := by decide +kernel
theorem dX9_word__45 : decode cX9_word_ 45 = .ok (.iload_n 1, 1) := by decide +kernel
theorem dX9_word__46 : decode cX9_word_ 46 = .ok (.iload_n 2, 1) := by decide +kernel
theorem dX9_word__47 : decode cX9_word_ 47 = .ok (.invokestatic 129, 3) := by decide +kernel
theorem dX9_word__50 : decode cX9_word_ 50 = .ok (.iload_n 3, 1) := by decide +kernel
theorem dX9_word__51 : decode cX9_word_ 51 = .ok (.iload_n 1, 1) := by decide +kernel
theorem dX9_word__52 : decode cX9_word_ 52 = .ok (.if_icmp .ne 7, 3) := by decide +kernel
theorem dX9_word__55 : decode cX9_word_ 55 = .ok (.iconst (-1), 1) := by decide +kernel
theorem dX9_word__56 : decode cX9_word_ 56 = .ok (.goto 4, 3) := by decide +kernel
theorem dX9_word__59 : decode cX9_word_ 59 = .ok (.iload_n 3, 1) := by decide +kernel
theorem dX9_word__60 : decode cX9_word_ 60 = .ok (.aload_n 0, 1) := by decide +kernel
theorem dX9_word__61 : decode cX9_word_ 61 = .ok (.getfield 25, 3) := by decide +kernel
theorem dX9_word__64 : decode cX9_word_ 64 = .ok (.invokevirtual 149, 3) := by decide +kernel
theorem dX9_word__67 : decode cX9_word_ 67 = .ok (.iload 4, 2) := by decide +kernel
theorem dX9_word__69 : decode cX9_word_ 69 = .ok (.ifCond .ge 12, 3) := by decide +kernel
theorem dX9_word__72 : decode cX9_word_ 72 = .ok (.aload_n 0, 1) := by decide +kernel
theorem dX9_word__73 : decode cX9_word_ 73 = .ok (.getfield 25, 3) := by decide +kernel
theorem dX9_word__76 : decode cX9_word_ 76 = .ok (.iconst 0, 1) := by decide +kernel
theorem dX9_word__77 : decode cX9_word_ 77 = .ok (.iaload, 1) := by decide +kernel
theorem dX9_word__78 : decode cX9_word_ 78 = .ok (.goto 28, 3) := by decide +kernel
theorem dX9_word__81 : decode cX9_word_ 81 = .ok (.iload 4, 2) := by decide +kernel
theorem dX9_word__83 : decode cX9_word_ 83 = .ok (.aload_n 0, 1) := by decide +kernel
theorem dX9_word__84 : decode cX9_word_ 84 = .ok (.getfield 25, 3) := by decide +kernel
theorem dX9_word__87 : decode cX9_word_ 87 = .ok (.iconst 0, 1) := by decide +kernel
theorem dX9_word__88 : decode cX9_word_ 88 = .ok (.iaload, 1) := by decide +kernel
theorem dX9_word__89 : decode cX9_word_ 89 = .ok (.if_icmp .ge 15, 3) := by decide +kernel
theorem dX9_word__92 : decode cX9_word_ 92 = .ok (.aload_n 0, 1) := by decide +kernel
theorem dX9_word__93 : decode cX9_word_ 93 = .ok (.getfield 25, 3) := by decide +kernel
theorem dX9_word__96 : decode cX9_word_ 96 = .ok (.iconst 1, 1) := by decide +kernel
theorem dX9_word__97 : decode cX9_word_ 97 = .ok (.iload 4, 2) := by decide +kernel
theorem dX9_word__99 : decode cX9_word_ 99 = .ok (.iadd, 1) := by decide +kernel
theorem dX9_word__100 : decode cX9_word_ 100 = .ok (.iaload, 1) := by decide +kernel
theorem dX9_word__101 : decode cX9_word_ 101 = .ok (.goto 5, 3) := by decide +kernel
theorem dX9_word__104 : decode cX9_word_ 104 = .ok (.bipush (-4), 2) := by decide +kernel
theorem dX9_word__106 : decode cX9_word_ 106 = .ok (.ireturn, 1) := by decide +kernel
set_option maxRecDepth 20000 in
theorem ggX9_far_X9_in : GoodIn wsX9_far wsX9_in := goodIn_r _ [6] (by decide +kernel) (by decide +kernel)
set_option maxRecDepth 20000 in
theorem gX9_far_X9_in : GoodIn wsX9_far (va_wsS RX9 49 yX9_in wsX9_in) := goodIn_app (goodIn_of _ (by decide +kernel)) ggX9_far_X9_in
set_option maxRecDepth 20000 in
theorem ggX9_far_X9_isMeaning : GoodIn wsX9_far wsX9_isMeaning := goodIn_r _ [9, 10, 3, 4, 5, 6] (by decide +kernel) (by decide +kernel)
set_option maxRecDepth 20000 in
theorem gX9_far_X9_isMeaning : GoodIn wsX9_far (va_wsS RX9 159 yX9_isMeaning wsX9_isMeaning) := goodIn_app (goodIn_of _ (by decide +kernel)) ggX9_far_X9_isMeaning
set_option maxRecDepth 20000 in
theorem ggX9_far_X9_wordAt : GoodIn wsX9_far wsX9_wordAt := goodIn_r _ [13] (by decide +kernel) (by decide +kernel)
set_option maxRecDepth 20000 in
theorem gX9_far_X9_wordAt : GoodIn wsX9_far (va_wsS RX9 129 yX9_wordAt wsX9_wordAt) := goodIn_app (goodIn_of _ (by decide +kernel)) ggX9_far_X9_wordAt
set_option maxRecDepth 20000 in
theorem ggX9_far_X9_say : GoodIn wsX9_far wsX9_say := goodIn_r _ [17, 18, 19, 20, 21, 5, 22, 23, 24, 25, 34, 35, 36, 37, 38, 39, 40, 41, 42, 43, 44, 45, 46] (by decide +kernel) (by decide +kernel)
set_option maxRecDepth 20000 in
theorem gX9_far_X9_say : GoodIn wsX9_far (wsV RX9 149 RX9 yX9_say wsX9_say) := goodIn_app (goodIn_of _ (by decide +kernel)) ggX9_far_X9_say
set_option maxRecDepth 20000 in
theorem ggX9_far_X9_farOf : GoodIn wsX9_far wsX9_farOf := goodIn_r _ [29, 1, 2, 30, 31, 32, 5, 33, 34, 35, 36, 37, 38, 39, 40, 41, 42, 43, 44, 45, 46] (by decide +kernel) (by decide +kernel)
set_option maxRecDepth 20000 in
theorem gX9_far_X9_farOf : GoodIn wsX9_far (wsV RX9 146 RX9 yX9_farOf wsX9_farOf) := goodIn_app (goodIn_of _ (by decide +kernel)) ggX9_far_X9_farOf
theorem dX9_far_0 : decode cX9_far 0 = .ok (.iload_n 1, 1) := by decide +kernel
theorem dX9_far_1 : decode cX9_far 1 = .ok (.i2l, 1) := by decide +kernel
theorem dX9_far_2 : decode cX9_far 2 = .ok (.lconst 0, 1) := by decide +kernel
theorem dX9_far_3 : decode cX9_far 3 = .ok (.lconst 1, 1) := by decide +kernel
theorem dX9_far_4 : decode cX9_far 4 = .ok (.invokestatic 49, 3) := by decide +kernel
theorem dX9_far_7 : decode cX9_far 7 = .ok (.ifCond .eq 28, 3) := by decide +kernel
theorem dX9_far_10 : decode cX9_far 10 = .ok (.iload_n 2, 1) := by decide +kernel
theorem dX9_far_11 : decode cX9_far 11 = .ok (.invokestatic 159, 3) := by decide +kernel
theorem dX9_far_14 : decode cX9_far 14 = .ok (.ifCond .eq 21, 3) := by decide +kernel
theorem dX9_far_17 : decode cX9_far 17 = .ok (.iload_n 3, 1) := by decide +kernel
theorem dX9_far_18 : decode cX9_far 18 = .ok (.i2l, 1) := by decide +kernel
theorem dX9_far_19 : decode cX9_far 19 = .ok (.lconst 0, 1) := by decide +kernel
theorem dX9_far_20 : decode cX9_far 20 = .ok (.lconst 1, 1) := by decide +kernel
theorem dX9_far_21 : decode cX9_far 21 = .ok (.invokestatic 49, 3) := by decide +kernel
theorem dX9_far_24 : decode cX9_far 24 = .ok (.ifCond .eq 11, 3) := by decide +kernel
theorem dX9_far_27 : decode cX9_far 27 = .ok (.iload 4, 2) := by decide +kernel
theorem dX9_far_29 : decode cX9_far 29 = .ok (.invokestatic 159, 3) := by decide +kernel
theorem dX9_far_32 : decode cX9_far 32 = .ok (.ifCond .ne 5, 3) := by decide +kernel
theorem dX9_far_35 : decode cX9_far 35 = .ok (.iconst (-1), 1) := by decide +kernel
theorem dX9_far_36 : decode cX9_far 36 = .ok (.ireturn, 1) := by decide +kernel
theorem dX9_far_37 : decode cX9_far 37 = .ok (.aload_n 0, 1) := by decide +kernel
theorem dX9_far_38 : decode cX9_far 38 = .ok (.iload_n 1, 1) := by decide +kernel
theorem dX9_far_39 : decode cX9_far 39 = .ok (.iload_n 2, 1) := by decide +kernel
theorem dX9_far_40 : decode cX9_far 40 = .ok (.invokestatic 129, 3) := by decide +kernel
theorem dX9_far_43 : decode cX9_far 43 = .ok (.iconst (-1), 1) := by decide +kernel
theorem dX9_far_44 : decode cX9_far 44 = .ok (.aload_n 0, 1) := by decide +kernel
theorem dX9_far_45 : decode cX9_far 45 = .ok (.getfield 25, 3) := by decide +kernel
theorem dX9_far_48 : decode cX9_far 48 = .ok (.invokevirtual 149, 3) := by decide +kernel
theorem dX9_far_51 : decode cX9_far 51 = .ok (.aload_n 0, 1) := by decide +kernel
theorem dX9_far_52 : decode cX9_far 52 = .ok (.iload_n 3, 1) := by decide +kernel
theorem dX9_far_53 : decode cX9_far 53 = .ok (.iload 4, 2) := by decide +kernel
theorem dX9_far_55 : decode cX9_far 55 = .ok (.invokestatic 129, 3) := by decide +kernel
theorem dX9_far_58 : decode cX9_far 58 = .ok (.iconst (-1), 1) := by decide +kernel
theorem dX9_far_59 : decode cX9_far 59 = .ok (.aload_n 0, 1) := by decide +kernel
theorem dX9_far_60 : decode cX9_far 60 = .ok (.getfield 28, 3) := by decide +kernel
theorem dX9_far_63 : decode cX9_far 63 = .ok (.invokevirtual 149, 3) := by decide +kernel
theorem dX9_far_66 : decode cX9_far 66 = .ok (.aload_n 0, 1) := by decide +kernel
theorem dX9_far_67 : decode cX9_far 67 = .ok (.getfield 25, 3) := by decide +kernel
theorem dX9_far_70 : decode cX9_far 70 = .ok (.iconst 0, 1) := by decide +kernel
theorem dX9_far_71 : decode cX9_far 71 = .ok (.iaload, 1) := by decide +kernel
theorem dX9_far_72 : decode cX9_far 72 = .ok (.ifCond .eq 12, 3) := by decide +kernel
theorem dX9_far_75 : decode cX9_far 75 = .ok (.aload_n 0, 1) := by decide +kernel
theorem dX9_far_76 : decode cX9_far 76 = .ok (.getfield 28, 3) := by decide +kernel
theorem dX9_far_79 : decode cX9_far 79 = .ok (.iconst 0, 1) := by decide +kernel
theorem dX9_far_80 : decode cX9_far 80 = .ok (.iaload, 1) := by decide +kernel
theorem dX9_far_81 : decode cX9_far 81 = .ok (.ifCond .ne 8, 3) := by decide +kernel
theorem dX9_far_84 : decode cX9_far 84 = .ok (.bipush (-2), 2) := by decide +kernel
theorem dX9_far_86 : decode cX9_far 86 = .ok (.goto 7, 3) := by decide +kernel
theorem dX9_far_89 : decode cX9_far 89 = .ok (.aload_n 0, 1) := by decide +kernel
theorem dX9_far_90 : decode cX9_far 90 = .ok (.invokevirtual 146, 3) := by decide +kernel
theorem dX9_far_93 : decode cX9_far 93 = .ok (.ireturn, 1) := by decide +kernel
set_option maxRecDepth 20000 in
theorem ggX9_like_X9_isMeaning : GoodIn wsX9_like wsX9_isMeaning := goodIn_r _ [4, 5, 6, 7, 3, 8] (by decide +kernel) (by decide +kernel)
set_option maxRecDepth 20000 in
theorem gX9_like_X9_isMeaning : GoodIn wsX9_like (va_wsS RX9 159 yX9_isMeaning wsX9_isMeaning) := goodIn_app (goodIn_of _ (by decide +kernel)) ggX9_like_X9_isMeaning
set_option maxRecDepth 20000 in
theorem ggX9_like_X9_isTold : GoodIn wsX9_like wsX9_isTold := goodIn_r _ [12, 13, 14, 15, 3, 16, 46, 47, 48, 49, 50, 51, 52, 53, 54, 55, 56, 57, 58] (by decide +kernel) (by decide +kernel)
set_option maxRecDepth 20000 in
theorem gX9_like_X9_isTold : GoodIn wsX9_like (wsV RX9 132 RX9 yX9_isTold wsX9_isTold) := goodIn_app (goodIn_of _ (by decide +kernel)) ggX9_like_X9_isTold
set_option maxRecDepth 20000 in
theorem ggX9_like_X9_likeFor : GoodIn wsX9_like wsX9_likeFor := goodIn_r _ [20, 21, 22, 14, 15, 3, 16, 23, 24, 25, 26, 13, 27, 28, 29, 30, 31, 32, 33, 34, 35, 36, 37, 38, 39, 40, 41, 42, 43, 44, 45, 46, 47, 48, 49, 50, 51, 52, 53, 54, 55, 56, 57, 58] (by decide +kernel) (by decide +kernel)
set_option maxRecDepth 20000 in
theorem gX9_like_X9_likeFor : GoodIn wsX9_like (wsV RX9 156 RX9 yX9_likeFor wsX9_likeFor) := goodIn_app (goodIn_of _ (by decide +kernel)) ggX9_like_X9_likeFor
theorem dX9_like_0 : decode cX9_like 0 = .ok (.iload_n 1, 1) := by decide +kernel
theorem dX9_like_1 : decode cX9_like 1 = .ok (.invokestatic 159, 3) := by decide +kernel
theorem dX9_like_4 : decode cX9_like 4 = .ok (.ifCond .ne 7, 3) := by decide +kernel
theorem dX9_like_7 : decode cX9_like 7 = .ok (.iconst (-1), 1) := by decide +kernel
theorem dX9_like_8 : decode cX9_like 8 = .ok (.goto 21, 3) := by decide +kernel
theorem dX9_like_11 : decode cX9_like 11 = .ok (.aload_n 0, 1) := by decide +kernel
theorem dX9_like_12 : decode cX9_like 12 = .ok (.iload_n 1, 1) := by decide +kernel
theorem dX9_like_13 : decode cX9_like 13 = .ok (.invokevirtual 132, 3) := by decide +kernel
theorem dX9_like_16 : decode cX9_like 16 = .ok (.ifCond .eq 11, 3) := by decide +kernel
theorem dX9_like_19 : decode cX9_like 19 = .ok (.aload_n 0, 1) := by decide +kernel
theorem dX9_like_20 : decode cX9_like 20 = .ok (.iload_n 1, 1) := by decide +kernel
theorem dX9_like_21 : decode cX9_like 21 = .ok (.invokevirtual 156, 3) := by decide +kernel
theorem dX9_like_24 : decode cX9_like 24 = .ok (.goto 5, 3) := by decide +kernel
theorem dX9_like_27 : decode cX9_like 27 = .ok (.bipush (-2), 2) := by decide +kernel
theorem dX9_like_29 : decode cX9_like 29 = .ok (.ireturn, 1) := by decide +kernel
theorem dX9_beginAt_0 : decode cX9_beginAt 0 = .ok (.iconst 0, 1) := by decide +kernel
theorem dX9_beginAt_1 : decode cX9_beginAt 1 = .ok (.istore_n 3, 1) := by decide +kernel
theorem dX9_beginAt_2 : decode cX9_beginAt 2 = .ok (.iload_n 3, 1) := by decide +kernel
theorem dX9_beginAt_3 : decode cX9_beginAt 3 = .ok (.bipush 81, 2) := by decide +kernel
theorem dX9_beginAt_5 : decode cX9_beginAt 5 = .ok (.if_icmp .ge 32, 3) := by decide +kernel
theorem dX9_beginAt_8 : decode cX9_beginAt 8 = .ok (.aload_n 0, 1) := by decide +kernel
theorem dX9_beginAt_9 : decode cX9_beginAt 9 = .ok (.getfield 34, 3) := by decide +kernel
theorem dX9_beginAt_12 : decode cX9_beginAt 12 = .ok (.iload_n 3, 1) := by decide +kernel
theorem dX9_beginAt_13 : decode cX9_beginAt 13 = .ok (.iload_n 3, 1) := by decide +kernel
theorem dX9_beginAt_14 : decode cX9_beginAt 14 = .ok (.bipush 9, 2) := by decide +kernel
theorem dX9_beginAt_16 : decode cX9_beginAt 16 = .ok (.iload_n 1, 1) := by decide +kernel
theorem dX9_beginAt_17 : decode cX9_beginAt 17 = .ok (.imul, 1) := by decide +kernel
theorem dX9_beginAt_18 : decode cX9_beginAt 18 = .ok (.iload_n 2, 1) := by decide +kernel
theorem dX9_beginAt_19 : decode cX9_beginAt 19 = .ok (.iadd, 1) := by decide +kernel
theorem dX9_beginAt_20 : decode cX9_beginAt 20 = .ok (.if_icmp .ne 9, 3) := by decide +kernel
theorem dX9_beginAt_23 : decode cX9_beginAt 23 = .ok (.ldc2_w 166, 3) := by decide +kernel
theorem dX9_beginAt_26 : decode cX9_beginAt 26 = .ok (.goto 4, 3) := by decide +kernel
theorem dX9_beginAt_29 : decode cX9_beginAt 29 = .ok (.lconst 0, 1) := by decide +kernel
theorem dX9_beginAt_30 : decode cX9_beginAt 30 = .ok (.lastore, 1) := by decide +kernel
theorem dX9_beginAt_31 : decode cX9_beginAt 31 = .ok (.iinc 3 1, 3) := by decide +kernel
theorem dX9_beginAt_34 : decode cX9_beginAt 34 = .ok (.goto (-32), 3) := by decide +kernel
theorem dX9_beginAt_37 : decode cX9_beginAt 37 = .ok (.return_, 1) := by decide +kernel
theorem dX9_meet_0 : decode cX9_meet 0 = .ok (.iconst 0, 1) := by decide +kernel
theorem dX9_meet_1 : decode cX9_meet 1 = .ok (.istore 5, 2) := by decide +kernel
theorem dX9_meet_3 : decode cX9_meet 3 = .ok (.iload 5, 2) := by decide +kernel
theorem dX9_meet_5 : decode cX9_meet 5 = .ok (.bipush 81, 2) := by decide +kernel
theorem dX9_meet_7 : decode cX9_meet 7 = .ok (.if_icmp .ge 17, 3) := by decide +kernel
theorem dX9_meet_10 : decode cX9_meet 10 = .ok (.aload_n 0, 1) := by decide +kernel
theorem dX9_meet_11 : decode cX9_meet 11 = .ok (.getfield 38, 3) := by decide +kernel
theorem dX9_meet_14 : decode cX9_meet 14 = .ok (.iload 5, 2) := by decide +kernel
theorem dX9_meet_16 : decode cX9_meet 16 = .ok (.lconst 0, 1) := by decide +kernel
theorem dX9_meet_17 : decode cX9_meet 17 = .ok (.lastore, 1) := by decide +kernel
theorem dX9_meet_18 : decode cX9_meet 18 = .ok (.iinc 5 1, 3) := by decide +kernel
theorem dX9_meet_21 : decode cX9_meet 21 = .ok (.goto (-18), 3) := by decide +kernel
theorem dX9_meet_24 : decode cX9_meet 24 = .ok (.aload_n 0, 1) := by decide +kernel
theorem dX9_meet_25 : decode cX9_meet 25 = .ok (.getfield 16, 3) := by decide +kernel
theorem dX9_meet_28 : decode cX9_meet 28 = .ok (.sipush 302, 3) := by decide +kernel
theorem dX9_meet_31 : decode cX9_meet 31 = .ok (.iaload, 1) := by decide +kernel
theorem dX9_meet_32 : decode cX9_meet 32 = .ok (.istore 5, 2) := by decide +kernel
theorem dX9_meet_34 : decode cX9_meet 34 = .ok (.iconst 0, 1) := by decide +kernel
theorem dX9_meet_35 : decode cX9_meet 35 = .ok (.istore 6, 2) := by decide +kernel
theorem dX9_meet_37 : decode cX9_meet 37 = .ok (.iload 6, 2) := by decide +kernel
theorem dX9_meet_39 : decode cX9_meet 39 = .ok (.iload_n 1, 1) := by decide +kernel
theorem dX9_meet_40 : decode cX9_meet 40 = .ok (.if_icmp .gt 285, 3) := by decide +kernel
theorem dX9_meet_43 : decode cX9_meet 43 = .ok (.iconst 0, 1) := by decide +kernel
theorem dX9_meet_44 : decode cX9_meet 44 = .ok (.istore 7, 2) := by decide +kernel
theorem dX9_meet_46 : decode cX9_meet 46 = .ok (.iload 7, 2) := by decide +kernel
theorem dX9_meet_48 : decode cX9_meet 48 = .ok (.iload_n 2, 1) := by decide +kernel
theorem dX9_meet_49 : decode cX9_meet 49 = .ok (.if_icmp .gt 270, 3) := by decide +kernel
theorem dX9_meet_52 : decode cX9_meet 52 = .ok (.aload_n 0, 1) := by decide +kernel
theorem dX9_meet_53 : decode cX9_meet 53 = .ok (.getfield 34, 3) := by decide +kernel
theorem dX9_meet_56 : decode cX9_meet 56 = .ok (.bipush 9, 2) := by decide +kernel
theorem dX9_meet_58 : decode cX9_meet 58 = .ok (.iload 6, 2) := by decide +kernel
theorem dX9_meet_60 : decode cX9_meet 60 = .ok (.imul, 1) := by decide +kernel
theorem dX9_meet_61 : decode cX9_meet 61 = .ok (.iload 7, 2) := by decide +kernel
theorem dX9_meet_63 : decode cX9_meet 63 = .ok (.iadd, 1) := by decide +kernel
theorem dX9_meet_64 : decode cX9_meet 64 = .ok (.laload, 1) := by decide +kernel
theorem dX9_meet_65 : decode cX9_meet 65 = .ok (.lstore 8, 2) := by decide +kernel
theorem dX9_meet_67 : decode cX9_meet 67 = .ok (.iload_n 1, 1) := by decide +kernel
theorem dX9_meet_68 : decode cX9_meet 68 = .ok (.iload 6, 2) := by decide +kernel
theorem dX9_meet_70 : decode cX9_meet 70 = .ok (.isub, 1) := by decide +kernel
theorem dX9_meet_71 : decode cX9_meet 71 = .ok (.iload_n 2, 1) := by decide +kernel
theorem dX9_meet_72 : decode cX9_meet 72 = .ok (.iload 7, 2) := by decide +kernel
theorem dX9_meet_74 : decode cX9_meet 74 = .ok (.isub, 1) := by decide +kernel
theorem dX9_meet_75 : decode cX9_meet 75 = .ok (.imul, 1) := by decide +kernel
theorem dX9_meet_76 : decode cX9_meet 76 = .ok (.istore 10, 2) := by decide +kernel
theorem dX9_meet_78 : decode cX9_meet 78 = .ok (.iload 6, 2) := by decide +kernel
theorem dX9_meet_80 : decode cX9_meet 80 = .ok (.iload 7, 2) := by decide +kernel
theorem dX9_meet_82 : decode cX9_meet 82 = .ok (.imul, 1) := by decide +kernel
theorem dX9_meet_83 : decode cX9_meet 83 = .ok (.istore 11, 2) := by decide +kernel
theorem dX9_meet_85 : decode cX9_meet 85 = .ok (.lload 8, 2) := by decide +kernel
theorem dX9_meet_87 : decode cX9_meet 87 = .ok (.bipush 10, 2) := by decide +kernel
theorem dX9_meet_89 : decode cX9_meet 89 = .ok (.iload 5, 2) := by decide +kernel
theorem dX9_meet_91 : decode cX9_meet 91 = .ok (.isub, 1) := by decide +kernel
theorem dX9_meet_92 : decode cX9_meet 92 = .ok (.i2l, 1) := by decide +kernel
theorem dX9_meet_93 : decode cX9_meet 93 = .ok (.lmul, 1) := by decide +kernel
theorem dX9_meet_94 : decode cX9_meet 94 = .ok (.iload 10, 2) := by decide +kernel
theorem dX9_meet_96 : decode cX9_meet 96 = .ok (.i2l, 1) := by decide +kernel
theorem dX9_meet_97 : decode cX9_meet 97 = .ok (.lmul, 1) := by decide +kernel
theorem dX9_meet_98 : decode cX9_meet 98 = .ok (.iload_n 3, 1) := by decide +kernel
theorem dX9_meet_99 : decode cX9_meet 99 = .ok (.i2l, 1) := by decide +kernel
theorem dX9_meet_100 : decode cX9_meet 100 = .ok (.lmul, 1) := by decide +kernel
theorem dX9_meet_101 : decode cX9_meet 101 = .ok (.ldc2_w 168, 3) := by decide +kernel
theorem dX9_meet_104 : decode cX9_meet 104 = .ok (.iload_n 1, 1) := by decide +kernel
theorem dX9_meet_105 : decode cX9_meet 105 = .ok (.i2l, 1) := by decide +kernel
theorem dX9_meet_106 : decode cX9_meet 106 = .ok (.lmul, 1) := by decide +kernel
theorem dX9_meet_107 : decode cX9_meet 107 = .ok (.iload_n 2, 1) := by decide +kernel
theorem dX9_meet_108 : decode cX9_meet 108 = .ok (.i2l, 1) := by decide +kernel
theorem dX9_meet_109 : decode cX9_meet 109 = .ok (.lmul, 1) := by decide +kernel
theorem dX9_meet_110 : decode cX9_meet 110 = .ok (.ldiv, 1) := by decide +kernel
theorem dX9_meet_111 : decode cX9_meet 111 = .ok (.lstore 12, 2) := by decide +kernel
theorem dX9_meet_113 : decode cX9_meet 113 = .ok (.lload 8, 2) := by decide +kernel
theorem dX9_meet_115 : decode cX9_meet 115 = .ok (.bipush 10, 2) := by decide +kernel
theorem dX9_meet_117 : decode cX9_meet 117 = .ok (.iload 5, 2) := by decide +kernel
theorem dX9_meet_119 : decode cX9_meet 119 = .ok (.isub, 1) := by decide +kernel
theorem dX9_meet_120 : decode cX9_meet 120 = .ok (.i2l, 1) := by decide +kernel
theorem dX9_meet_121 : decode cX9_meet 121 = .ok (.lmul, 1) := by decide +kernel
theorem dX9_meet_122 : decode cX9_meet 122 = .ok (.iload 11, 2) := by decide +kernel
theorem dX9_meet_124 : decode cX9_meet 124 = .ok (.i2l, 1) := by decide +kernel
theorem dX9_meet_125 : decode cX9_meet 125 = .ok (.lmul, 1) := by decide +kernel
theorem dX9_meet_126 : decode cX9_meet 126 = .ok (.iload_n 3, 1) := by decide +kernel
theorem dX9_meet_127 : decode cX9_meet 127 = .ok (.i2l, 1) := by decide +kernel
theorem dX9_meet_128 : decode cX9_meet 128 = .ok (.lmul, 1) := by decide +kernel
theorem dX9_meet_129 : decode cX9_meet 129 = .ok (.ldc2_w 168, 3) := by decide +kernel
theorem dX9_meet_132 : decode cX9_meet 132 = .ok (.iload_n 1, 1) := by decide +kernel
theorem dX9_meet_133 : decode cX9_meet 133 = .ok (.i2l, 1) := by decide +kernel
theorem dX9_meet_134 : decode cX9_meet 134 = .ok (.lmul, 1) := by decide +kernel
theorem dX9_meet_135 : decode cX9_meet 135 = .ok (.iload_n 2, 1) := by decide +kernel
theorem dX9_meet_136 : decode cX9_meet 136 = .ok (.i2l, 1) := by decide +kernel
theorem dX9_meet_137 : decode cX9_meet 137 = .ok (.lmul, 1) := by decide +kernel
theorem dX9_meet_138 : decode cX9_meet 138 = .ok (.ldiv, 1) := by decide +kernel
theorem dX9_meet_139 : decode cX9_meet 139 = .ok (.lstore 14, 2) := by decide +kernel
theorem dX9_meet_141 : decode cX9_meet 141 = .ok (.lload 8, 2) := by decide +kernel
theorem dX9_meet_143 : decode cX9_meet 143 = .ok (.iload 5, 2) := by decide +kernel
theorem dX9_meet_145 : decode cX9_meet 145 = .ok (.i2l, 1) := by decide +kernel
theorem dX9_meet_146 : decode cX9_meet 146 = .ok (.lmul, 1) := by decide +kernel
theorem dX9_meet_147 : decode cX9_meet 147 = .ok (.iload 10, 2) := by decide +kernel
theorem dX9_meet_149 : decode cX9_meet 149 = .ok (.i2l, 1) := by decide +kernel
theorem dX9_meet_150 : decode cX9_meet 150 = .ok (.lmul, 1) := by decide +kernel
theorem dX9_meet_151 : decode cX9_meet 151 = .ok (.iload 4, 2) := by decide +kernel
theorem dX9_meet_153 : decode cX9_meet 153 = .ok (.i2l, 1) := by decide +kernel
theorem dX9_meet_154 : decode cX9_meet 154 = .ok (.lmul, 1) := by decide +kernel
theorem dX9_meet_155 : decode cX9_meet 155 = .ok (.ldc2_w 168, 3) := by decide +kernel
theorem dX9_meet_158 : decode cX9_meet 158 = .ok (.iload_n 1, 1) := by decide +kernel
theorem dX9_meet_159 : decode cX9_meet 159 = .ok (.i2l, 1) := by decide +kernel
theorem dX9_meet_160 : decode cX9_meet 160 = .ok (.lmul, 1) := by decide +kernel
theorem dX9_meet_161 : decode cX9_meet 161 = .ok (.iload_n 2, 1) := by decide +kernel
theorem dX9_meet_162 : decode cX9_meet 162 = .ok (.i2l, 1) := by decide +kernel
theorem dX9_meet_163 : decode cX9_meet 163 = .ok (.lmul, 1) := by decide +kernel
theorem dX9_meet_164 : decode cX9_meet 164 = .ok (.ldiv, 1) := by decide +kernel
theorem dX9_meet_165 : decode cX9_meet 165 = .ok (.lstore 16, 2) := by decide +kernel
theorem dX9_meet_167 : decode cX9_meet 167 = .ok (.lload 8, 2) := by decide +kernel
theorem dX9_meet_169 : decode cX9_meet 169 = .ok (.iload 5, 2) := by decide +kernel
theorem dX9_meet_171 : decode cX9_meet 171 = .ok (.i2l, 1) := by decide +kernel
theorem dX9_meet_172 : decode cX9_meet 172 = .ok (.lmul, 1) := by decide +kernel
theorem dX9_meet_173 : decode cX9_meet 173 = .ok (.iload 11, 2) := by decide +kernel
theorem dX9_meet_175 : decode cX9_meet 175 = .ok (.i2l, 1) := by decide +kernel
theorem dX9_meet_176 : decode cX9_meet 176 = .ok (.lmul, 1) := by decide +kernel
theorem dX9_meet_177 : decode cX9_meet 177 = .ok (.iload 4, 2) := by decide +kernel
theorem dX9_meet_179 : decode cX9_meet 179 = .ok (.i2l, 1) := by decide +kernel
theorem dX9_meet_180 : decode cX9_meet 180 = .ok (.lmul, 1) := by decide +kernel
theorem dX9_meet_181 : decode cX9_meet 181 = .ok (.ldc2_w 168, 3) := by decide +kernel
theorem dX9_meet_184 : decode cX9_meet 184 = .ok (.iload_n 1, 1) := by decide +kernel
theorem dX9_meet_185 : decode cX9_meet 185 = .ok (.i2l, 1) := by decide +kernel
theorem dX9_meet_186 : decode cX9_meet 186 = .ok (.lmul, 1) := by decide +kernel
theorem dX9_meet_187 : decode cX9_meet 187 = .ok (.iload_n 2, 1) := by decide +kernel
theorem dX9_meet_188 : decode cX9_meet 188 = .ok (.i2l, 1) := by decide +kernel
theorem dX9_meet_189 : decode cX9_meet 189 = .ok (.lmul, 1) := by decide +kernel
theorem dX9_meet_190 : decode cX9_meet 190 = .ok (.ldiv, 1) := by decide +kernel
theorem dX9_meet_191 : decode cX9_meet 191 = .ok (.lstore 18, 2) := by decide +kernel
theorem dX9_meet_193 : decode cX9_meet 193 = .ok (.aload_n 0, 1) := by decide +kernel
theorem dX9_meet_194 : decode cX9_meet 194 = .ok (.getfield 38, 3) := by decide +kernel
theorem dX9_meet_197 : decode cX9_meet 197 = .ok (.bipush 9, 2) := by decide +kernel
theorem dX9_meet_199 : decode cX9_meet 199 = .ok (.iload 6, 2) := by decide +kernel
theorem dX9_meet_201 : decode cX9_meet 201 = .ok (.imul, 1) := by decide +kernel
theorem dX9_meet_202 : decode cX9_meet 202 = .ok (.iload 7, 2) := by decide +kernel
theorem dX9_meet_204 : decode cX9_meet 204 = .ok (.iadd, 1) := by decide +kernel
theorem dX9_meet_205 : decode cX9_meet 205 = .ok (.dup2, 1) := by decide +kernel
theorem dX9_meet_206 : decode cX9_meet 206 = .ok (.laload, 1) := by decide +kernel
theorem dX9_meet_207 : decode cX9_meet 207 = .ok (.lload 8, 2) := by decide +kernel
theorem dX9_meet_209 : decode cX9_meet 209 = .ok (.lload 12, 2) := by decide +kernel
theorem dX9_meet_211 : decode cX9_meet 211 = .ok (.lsub, 1) := by decide +kernel
theorem dX9_meet_212 : decode cX9_meet 212 = .ok (.lload 14, 2) := by decide +kernel
theorem dX9_meet_214 : decode cX9_meet 214 = .ok (.lsub, 1) := by decide +kernel
theorem dX9_meet_215 : decode cX9_meet 215 = .ok (.lload 16, 2) := by decide +kernel
theorem dX9_meet_217 : decode cX9_meet 217 = .ok (.lsub, 1) := by decide +kernel
theorem dX9_meet_218 : decode cX9_meet 218 = .ok (.lload 18, 2) := by decide +kernel
theorem dX9_meet_220 : decode cX9_meet 220 = .ok (.lsub, 1) := by decide +kernel
theorem dX9_meet_221 : decode cX9_meet 221 = .ok (.ladd, 1) := by decide +kernel
theorem dX9_meet_222 : decode cX9_meet 222 = .ok (.lastore, 1) := by decide +kernel
theorem dX9_meet_223 : decode cX9_meet 223 = .ok (.iload 10, 2) := by decide +kernel
theorem dX9_meet_225 : decode cX9_meet 225 = .ok (.ifCond .le 43, 3) := by decide +kernel
theorem dX9_meet_228 : decode cX9_meet 228 = .ok (.aload_n 0, 1) := by decide +kernel
theorem dX9_meet_229 : decode cX9_meet 229 = .ok (.getfield 38, 3) := by decide +kernel
theorem dX9_meet_232 : decode cX9_meet 232 = .ok (.bipush 9, 2) := by decide +kernel
theorem dX9_meet_234 : decode cX9_meet 234 = .ok (.iload 6, 2) := by decide +kernel
theorem dX9_meet_236 : decode cX9_meet 236 = .ok (.iconst 1, 1) := by decide +kernel
theorem dX9_meet_237 : decode cX9_meet 237 = .ok (.iadd, 1) := by decide +kernel
theorem dX9_meet_238 : decode cX9_meet 238 = .ok (.imul, 1) := by decide +kernel
theorem dX9_meet_239 : decode cX9_meet 239 = .ok (.iload 7, 2) := by decide +kernel
theorem dX9_meet_241 : decode cX9_meet 241 = .ok (.iadd, 1) := by decide +kernel
theorem dX9_meet_242 : decode cX9_meet 242 = .ok (.dup2, 1) := by decide +kernel
theorem dX9_meet_243 : decode cX9_meet 243 = .ok (.laload, 1) := by decide +kernel
theorem dX9_meet_244 : decode cX9_meet 244 = .ok (.lload 12, 2) := by decide +kernel
theorem dX9_meet_246 : decode cX9_meet 246 = .ok (.ladd, 1) := by decide +kernel
theorem dX9_meet_247 : decode cX9_meet 247 = .ok (.lastore, 1) := by decide +kernel
theorem dX9_meet_248 : decode cX9_meet 248 = .ok (.aload_n 0, 1) := by decide +kernel
theorem dX9_meet_249 : decode cX9_meet 249 = .ok (.getfield 38, 3) := by decide +kernel
theorem dX9_meet_252 : decode cX9_meet 252 = .ok (.bipush 9, 2) := by decide +kernel
theorem dX9_meet_254 : decode cX9_meet 254 = .ok (.iload 6, 2) := by decide +kernel
theorem dX9_meet_256 : decode cX9_meet 256 = .ok (.imul, 1) := by decide +kernel
theorem dX9_meet_257 : decode cX9_meet 257 = .ok (.iload 7, 2) := by decide +kernel
theorem dX9_meet_259 : decode cX9_meet 259 = .ok (.iadd, 1) := by decide +kernel
theorem dX9_meet_260 : decode cX9_meet 260 = .ok (.iconst 1, 1) := by decide +kernel
theorem dX9_meet_261 : decode cX9_meet 261 = .ok (.iadd, 1) := by decide +kernel
theorem dX9_meet_262 : decode cX9_meet 262 = .ok (.dup2, 1) := by decide +kernel
theorem dX9_meet_263 : decode cX9_meet 263 = .ok (.laload, 1) := by decide +kernel
theorem dX9_meet_264 : decode cX9_meet 264 = .ok (.lload 16, 2) := by decide +kernel
theorem dX9_meet_266 : decode cX9_meet 266 = .ok (.ladd, 1) := by decide +kernel
theorem dX9_meet_267 : decode cX9_meet 267 = .ok (.lastore, 1) := by decide +kernel
theorem dX9_meet_268 : decode cX9_meet 268 = .ok (.iload 11, 2) := by decide +kernel
theorem dX9_meet_270 : decode cX9_meet 270 = .ok (.ifCond .le 43, 3) := by decide +kernel
theorem dX9_meet_273 : decode cX9_meet 273 = .ok (.aload_n 0, 1) := by decide +kernel
theorem dX9_meet_274 : decode cX9_meet 274 = .ok (.getfield 38, 3) := by decide +kernel
theorem dX9_meet_277 : decode cX9_meet 277 = .ok (.bipush 9, 2) := by decide +kernel
theorem dX9_meet_279 : decode cX9_meet 279 = .ok (.iload 6, 2) := by decide +kernel
theorem dX9_meet_281 : decode cX9_meet 281 = .ok (.iconst 1, 1) := by decide +kernel
theorem dX9_meet_282 : decode cX9_meet 282 = .ok (.isub, 1) := by decide +kernel
theorem dX9_meet_283 : decode cX9_meet 283 = .ok (.imul, 1) := by decide +kernel
theorem dX9_meet_284 : decode cX9_meet 284 = .ok (.iload 7, 2) := by decide +kernel
theorem dX9_meet_286 : decode cX9_meet 286 = .ok (.iadd, 1) := by decide +kernel
theorem dX9_meet_287 : decode cX9_meet 287 = .ok (.dup2, 1) := by decide +kernel
theorem dX9_meet_288 : decode cX9_meet 288 = .ok (.laload, 1) := by decide +kernel
theorem dX9_meet_289 : decode cX9_meet 289 = .ok (.lload 14, 2) := by decide +kernel
theorem dX9_meet_291 : decode cX9_meet 291 = .ok (.ladd, 1) := by decide +kernel
theorem dX9_meet_292 : decode cX9_meet 292 = .ok (.lastore, 1) := by decide +kernel
theorem dX9_meet_293 : decode cX9_meet 293 = .ok (.aload_n 0, 1) := by decide +kernel
theorem dX9_meet_294 : decode cX9_meet 294 = .ok (.getfield 38, 3) := by decide +kernel
theorem dX9_meet_297 : decode cX9_meet 297 = .ok (.bipush 9, 2) := by decide +kernel
theorem dX9_meet_299 : decode cX9_meet 299 = .ok (.iload 6, 2) := by decide +kernel
theorem dX9_meet_301 : decode cX9_meet 301 = .ok (.imul, 1) := by decide +kernel
theorem dX9_meet_302 : decode cX9_meet 302 = .ok (.iload 7, 2) := by decide +kernel
theorem dX9_meet_304 : decode cX9_meet 304 = .ok (.iadd, 1) := by decide +kernel
theorem dX9_meet_305 : decode cX9_meet 305 = .ok (.iconst 1, 1) := by decide +kernel
theorem dX9_meet_306 : decode cX9_meet 306 = .ok (.isub, 1) := by decide +kernel
theorem dX9_meet_307 : decode cX9_meet 307 = .ok (.dup2, 1) := by decide +kernel
theorem dX9_meet_308 : decode cX9_meet 308 = .ok (.laload, 1) := by decide +kernel
theorem dX9_meet_309 : decode cX9_meet 309 = .ok (.lload 18, 2) := by decide +kernel
theorem dX9_meet_311 : decode cX9_meet 311 = .ok (.ladd, 1) := by decide +kernel
theorem dX9_meet_312 : decode cX9_meet 312 = .ok (.lastore, 1) := by decide +kernel
theorem dX9_meet_313 : decode cX9_meet 313 = .ok (.iinc 7 1, 3) := by decide +kernel
theorem dX9_meet_316 : decode cX9_meet 316 = .ok (.goto (-270), 3) := by decide +kernel
theorem dX9_meet_319 : decode cX9_meet 319 = .ok (.iinc 6 1, 3) := by decide +kernel
theorem dX9_meet_322 : decode cX9_meet 322 = .ok (.goto (-285), 3) := by decide +kernel
theorem dX9_meet_325 : decode cX9_meet 325 = .ok (.iconst 0, 1) := by decide +kernel
theorem dX9_meet_326 : decode cX9_meet 326 = .ok (.istore 6, 2) := by decide +kernel
theorem dX9_meet_328 : decode cX9_meet 328 = .ok (.iload 6, 2) := by decide +kernel
theorem dX9_meet_330 : decode cX9_meet 330 = .ok (.bipush 81, 2) := by decide +kernel
theorem dX9_meet_332 : decode cX9_meet 332 = .ok (.if_icmp .ge 23, 3) := by decide +kernel
theorem dX9_meet_335 : decode cX9_meet 335 = .ok (.aload_n 0, 1) := by decide +kernel
theorem dX9_meet_336 : decode cX9_meet 336 = .ok (.getfield 34, 3) := by decide +kernel
theorem dX9_meet_339 : decode cX9_meet 339 = .ok (.iload 6, 2) := by decide +kernel
theorem dX9_meet_341 : decode cX9_meet 341 = .ok (.aload_n 0, 1) := by decide +kernel
theorem dX9_meet_342 : decode cX9_meet 342 = .ok (.getfield 38, 3) := by decide +kernel
theorem dX9_meet_345 : decode cX9_meet 345 = .ok (.iload 6, 2) := by decide +kernel
theorem dX9_meet_347 : decode cX9_meet 347 = .ok (.laload, 1) := by decide +kernel
theorem dX9_meet_348 : decode cX9_meet 348 = .ok (.lastore, 1) := by decide +kernel
theorem dX9_meet_349 : decode cX9_meet 349 = .ok (.iinc 6 1, 3) := by decide +kernel
theorem dX9_meet_352 : decode cX9_meet 352 = .ok (.goto (-24), 3) := by decide +kernel
theorem dX9_meet_355 : decode cX9_meet 355 = .ok (.return_, 1) := by decide +kernel
set_option maxRecDepth 20000 in
theorem ggX9_goOn_X9_isAlike : GoodIn wsX9_goOn wsX9_isAlike := goodIn_r _ [5, 6, 7, 8, 9, 4, 10, 11, 12, 13, 14, 15, 16, 17, 18, 19, 20, 21, 22, 23, 24, 25, 26, 27, 28, 29, 30, 31, 32, 33, 34, 35, 36, 37, 38, 46, 47, 48, 49, 50, 51, 52, 53, 54, 55, 56, 57, 58] (by decide +kernel) (by decide +kernel)
set_option maxRecDepth 20000 in
theorem gX9_goOn_X9_isAlike : GoodIn wsX9_goOn (wsV RX9 170 RX9 yX9_isAlike wsX9_isAlike) := goodIn_app (goodIn_of _ (by decide +kernel)) ggX9_goOn_X9_isAlike
set_option maxRecDepth 20000 in
theorem ggX9_goOn_X9_meet : GoodIn wsX9_goOn wsX9_meet := goodIn_r _ [42, 43, 6, 44, 45, 46, 47, 48, 49, 50, 51, 52, 53, 54, 55, 56, 57, 58] (by decide +kernel) (by decide +kernel)
set_option maxRecDepth 20000 in
theorem gX9_goOn_X9_meet : GoodIn wsX9_goOn (wsV RX9 173 RX9 yX9_meet wsX9_meet) := goodIn_app (goodIn_of _ (by decide +kernel)) ggX9_goOn_X9_meet
theorem dX9_goOn_0 : decode cX9_goOn 0 = .ok (.aload_n 0, 1) := by decide +kernel
theorem dX9_goOn_1 : decode cX9_goOn 1 = .ok (.iload_n 1, 1) := by decide +kernel
theorem dX9_goOn_2 : decode cX9_goOn 2 = .ok (.invokevirtual 170, 3) := by decide +kernel
theorem dX9_goOn_5 : decode cX9_goOn 5 = .ok (.istore 7, 2) := by decide +kernel
theorem dX9_goOn_7 : decode cX9_goOn 7 = .ok (.iconst 0, 1) := by decide +kernel
theorem dX9_goOn_8 : decode cX9_goOn 8 = .ok (.istore 8, 2) := by decide +kernel
theorem dX9_goOn_10 : decode cX9_goOn 10 = .ok (.iload 8, 2) := by decide +kernel
theorem dX9_goOn_12 : decode cX9_goOn 12 = .ok (.iload_n 2, 1) := by decide +kernel
theorem dX9_goOn_13 : decode cX9_goOn 13 = .ok (.if_icmp .ge 25, 3) := by decide +kernel
theorem dX9_goOn_16 : decode cX9_goOn 16 = .ok (.iload 7, 2) := by decide +kernel
theorem dX9_goOn_18 : decode cX9_goOn 18 = .ok (.ifCond .ne 20, 3) := by decide +kernel
theorem dX9_goOn_21 : decode cX9_goOn 21 = .ok (.aload_n 0, 1) := by decide +kernel
theorem dX9_goOn_22 : decode cX9_goOn 22 = .ok (.iload_n 3, 1) := by decide +kernel
theorem dX9_goOn_23 : decode cX9_goOn 23 = .ok (.iload 4, 2) := by decide +kernel
theorem dX9_goOn_25 : decode cX9_goOn 25 = .ok (.iload 5, 2) := by decide +kernel
theorem dX9_goOn_27 : decode cX9_goOn 27 = .ok (.iload 6, 2) := by decide +kernel
theorem dX9_goOn_29 : decode cX9_goOn 29 = .ok (.invokevirtual 173, 3) := by decide +kernel
theorem dX9_goOn_32 : decode cX9_goOn 32 = .ok (.iinc 8 1, 3) := by decide +kernel
theorem dX9_goOn_35 : decode cX9_goOn 35 = .ok (.goto (-25), 3) := by decide +kernel
theorem dX9_goOn_38 : decode cX9_goOn 38 = .ok (.return_, 1) := by decide +kernel
set_option maxRecDepth 20000 in
theorem ggX9_goAsTold_X9_beginAt : GoodIn wsX9_goAsTold wsX9_beginAt := goodIn_r _ [7, 8, 9, 56, 57, 58, 59, 60, 61, 62, 63, 64, 65, 66, 67, 68] (by decide +kernel) (by decide +kernel)
set_option maxRecDepth 20000 in
theorem gX9_goAsTold_X9_beginAt : GoodIn wsX9_goAsTold (wsV RX9 177 RX9 yX9_beginAt wsX9_beginAt) := goodIn_app (goodIn_of _ (by decide +kernel)) ggX9_goAsTold_X9_beginAt
set_option maxRecDepth 20000 in
theorem ggX9_goAsTold_X9_goOn : GoodIn wsX9_goAsTold wsX9_goOn := goodIn_r _ [13, 14, 15, 16, 6, 17, 2, 18, 19, 20, 21, 22, 23, 24, 25, 26, 27, 28, 29, 30, 31, 32, 33, 34, 35, 36, 37, 38, 39, 40, 41, 42, 43, 44, 45, 46, 47, 48, 49, 50, 51, 52, 53, 54, 8, 55, 56, 57, 58, 59, 60, 61, 62, 63, 64, 65, 66, 67, 68] (by decide +kernel) (by decide +kernel)
set_option maxRecDepth 20000 in
theorem gX9_goAsTold_X9_goOn : GoodIn wsX9_goAsTold (wsV RX9 181 RX9 yX9_goOn wsX9_goOn) := goodIn_app (goodIn_of _ (by decide +kernel)) ggX9_goAsTold_X9_goOn
theorem dX9_goAsTold_0 : decode cX9_goAsTold 0 = .ok (.aload_n 0, 1) := by decide +kernel
theorem dX9_goAsTold_1 : decode cX9_goAsTold 1 = .ok (.aload_n 0, 1) := by decide +kernel
theorem dX9_goAsTold_2 : decode cX9_goAsTold 2 = .ok (.getfield 19, 3) := by decide +kernel
theorem dX9_goAsTold_5 : decode cX9_goAsTold 5 = .ok (.iconst 2, 1) := by decide +kernel
theorem dX9_goAsTold_6 : decode cX9_goAsTold 6 = .ok (.iload_n 1, 1) := by decide +kernel
theorem dX9_goAsTold_7 : decode cX9_goAsTold 7 = .ok (.imul, 1) := by decide +kernel
theorem dX9_goAsTold_8 : decode cX9_goAsTold 8 = .ok (.iaload, 1) := by decide +kernel
theorem dX9_goAsTold_9 : decode cX9_goAsTold 9 = .ok (.aload_n 0, 1) := by decide +kernel
theorem dX9_goAsTold_10 : decode cX9_goAsTold 10 = .ok (.getfield 19, 3) := by decide +kernel
theorem dX9_goAsTold_13 : decode cX9_goAsTold 13 = .ok (.iconst 2, 1) := by decide +kernel
theorem dX9_goAsTold_14 : decode cX9_goAsTold 14 = .ok (.iload_n 1, 1) := by decide +kernel
theorem dX9_goAsTold_15 : decode cX9_goAsTold 15 = .ok (.imul, 1) := by decide +kernel
theorem dX9_goAsTold_16 : decode cX9_goAsTold 16 = .ok (.iconst 1, 1) := by decide +kernel
theorem dX9_goAsTold_17 : decode cX9_goAsTold 17 = .ok (.iadd, 1) := by decide +kernel
theorem dX9_goAsTold_18 : decode cX9_goAsTold 18 = .ok (.iaload, 1) := by decide +kernel
theorem dX9_goAsTold_19 : decode cX9_goAsTold 19 = .ok (.invokevirtual 177, 3) := by decide +kernel
theorem dX9_goAsTold_22 : decode cX9_goAsTold 22 = .ok (.aload_n 0, 1) := by decide +kernel
theorem dX9_goAsTold_23 : decode cX9_goAsTold 23 = .ok (.iload_n 1, 1) := by decide +kernel
theorem dX9_goAsTold_24 : decode cX9_goAsTold 24 = .ok (.iload_n 2, 1) := by decide +kernel
theorem dX9_goAsTold_25 : decode cX9_goAsTold 25 = .ok (.aload_n 0, 1) := by decide +kernel
theorem dX9_goAsTold_26 : decode cX9_goAsTold 26 = .ok (.getfield 16, 3) := by decide +kernel
theorem dX9_goAsTold_29 : decode cX9_goAsTold 29 = .ok (.sipush 298, 3) := by decide +kernel
theorem dX9_goAsTold_32 : decode cX9_goAsTold 32 = .ok (.iaload, 1) := by decide +kernel
theorem dX9_goAsTold_33 : decode cX9_goAsTold 33 = .ok (.aload_n 0, 1) := by decide +kernel
theorem dX9_goAsTold_34 : decode cX9_goAsTold 34 = .ok (.getfield 16, 3) := by decide +kernel
theorem dX9_goAsTold_37 : decode cX9_goAsTold 37 = .ok (.sipush 299, 3) := by decide +kernel
theorem dX9_goAsTold_40 : decode cX9_goAsTold 40 = .ok (.iaload, 1) := by decide +kernel
theorem dX9_goAsTold_41 : decode cX9_goAsTold 41 = .ok (.aload_n 0, 1) := by decide +kernel
theorem dX9_goAsTold_42 : decode cX9_goAsTold 42 = .ok (.getfield 16, 3) := by decide +kernel
theorem dX9_goAsTold_45 : decode cX9_goAsTold 45 = .ok (.sipush 300, 3) := by decide +kernel
theorem dX9_goAsTold_48 : decode cX9_goAsTold 48 = .ok (.iaload, 1) := by decide +kernel
theorem dX9_goAsTold_49 : decode cX9_goAsTold 49 = .ok (.aload_n 0, 1) := by decide +kernel
theorem dX9_goAsTold_50 : decode cX9_goAsTold 50 = .ok (.getfield 16, 3) := by decide +kernel
theorem dX9_goAsTold_53 : decode cX9_goAsTold 53 = .ok (.sipush 301, 3) := by decide +kernel
theorem dX9_goAsTold_56 : decode cX9_goAsTold 56 = .ok (.iaload, 1) := by decide +kernel
theorem dX9_goAsTold_57 : decode cX9_goAsTold 57 = .ok (.invokevirtual 181, 3) := by decide +kernel
theorem dX9_goAsTold_60 : decode cX9_goAsTold 60 = .ok (.return_, 1) := by decide +kernel
theorem dX9_wonBy_0 : decode cX9_wonBy 0 = .ok (.iload_n 1, 1) := by decide +kernel
theorem dX9_wonBy_1 : decode cX9_wonBy 1 = .ok (.ifCond .ne 12, 3) := by decide +kernel
theorem dX9_wonBy_4 : decode cX9_wonBy 4 = .ok (.aload_n 0, 1) := by decide +kernel
theorem dX9_wonBy_5 : decode cX9_wonBy 5 = .ok (.getfield 34, 3) := by decide +kernel
theorem dX9_wonBy_8 : decode cX9_wonBy 8 = .ok (.iload_n 3, 1) := by decide +kernel
theorem dX9_wonBy_9 : decode cX9_wonBy 9 = .ok (.laload, 1) := by decide +kernel
theorem dX9_wonBy_10 : decode cX9_wonBy 10 = .ok (.goto 12, 3) := by decide +kernel
theorem dX9_wonBy_13 : decode cX9_wonBy 13 = .ok (.aload_n 0, 1) := by decide +kernel
theorem dX9_wonBy_14 : decode cX9_wonBy 14 = .ok (.getfield 34, 3) := by decide +kernel
theorem dX9_wonBy_17 : decode cX9_wonBy 17 = .ok (.bipush 9, 2) := by decide +kernel
theorem dX9_wonBy_19 : decode cX9_wonBy 19 = .ok (.iload_n 2, 1) := by decide +kernel
theorem dX9_wonBy_20 : decode cX9_wonBy 20 = .ok (.imul, 1) := by decide +kernel
theorem dX9_wonBy_21 : decode cX9_wonBy 21 = .ok (.laload, 1) := by decide +kernel
theorem dX9_wonBy_22 : decode cX9_wonBy 22 = .ok (.lreturn, 1) := by decide +kernel
set_option maxRecDepth 20000 in
theorem ggX9_stand_X9_isMeaning : GoodIn wsX9_stand wsX9_isMeaning := goodIn_r _ [5, 6, 7, 8, 4, 9] (by decide +kernel) (by decide +kernel)
set_option maxRecDepth 20000 in
theorem gX9_stand_X9_isMeaning : GoodIn wsX9_stand (va_wsS RX9 159 yX9_isMeaning wsX9_isMeaning) := goodIn_app (goodIn_of _ (by decide +kernel)) ggX9_stand_X9_isMeaning
set_option maxRecDepth 20000 in
theorem ggX9_stand_X9_in : GoodIn wsX9_stand wsX9_in := goodIn_r _ [9] (by decide +kernel) (by decide +kernel)
set_option maxRecDepth 20000 in
theorem gX9_stand_X9_in : GoodIn wsX9_stand (va_wsS RX9 49 yX9_in wsX9_in) := goodIn_app (goodIn_of _ (by decide +kernel)) ggX9_stand_X9_in
set_option maxRecDepth 20000 in
theorem ggX9_stand_X9_isTold : GoodIn wsX9_stand wsX9_isTold := goodIn_r _ [13, 14, 15, 16, 4, 17, 18, 19, 20, 21, 22, 23, 24, 25, 26, 27, 28, 29, 30] (by decide +kernel) (by decide +kernel)
set_option maxRecDepth 20000 in
theorem gX9_stand_X9_isTold : GoodIn wsX9_stand (wsV RX9 132 RX9 yX9_isTold wsX9_isTold) := goodIn_app (goodIn_of _ (by decide +kernel)) ggX9_stand_X9_isTold
theorem dX9_stand_0 : decode cX9_stand 0 = .ok (.iload_n 1, 1) := by decide +kernel
theorem dX9_stand_1 : decode cX9_stand 1 = .ok (.invokestatic 159, 3) := by decide +kernel
theorem dX9_stand_4 : decode cX9_stand 4 = .ok (.ifCond .eq 13, 3) := by decide +kernel
theorem dX9_stand_7 : decode cX9_stand 7 = .ok (.iload_n 2, 1) := by decide +kernel
theorem dX9_stand_8 : decode cX9_stand 8 = .ok (.i2l, 1) := by decide +kernel
theorem dX9_stand_9 : decode cX9_stand 9 = .ok (.lconst 0, 1) := by decide +kernel
theorem dX9_stand_10 : decode cX9_stand 10 = .ok (.lconst 1, 1) := by decide +kernel
theorem dX9_stand_11 : decode cX9_stand 11 = .ok (.invokestatic 49, 3) := by decide +kernel
theorem dX9_stand_14 : decode cX9_stand 14 = .ok (.ifCond .ne 7, 3) := by decide +kernel
theorem dX9_stand_17 : decode cX9_stand 17 = .ok (.iconst (-1), 1) := by decide +kernel
theorem dX9_stand_18 : decode cX9_stand 18 = .ok (.goto 26, 3) := by decide +kernel
theorem dX9_stand_21 : decode cX9_stand 21 = .ok (.aload_n 0, 1) := by decide +kernel
theorem dX9_stand_22 : decode cX9_stand 22 = .ok (.iload_n 1, 1) := by decide +kernel
theorem dX9_stand_23 : decode cX9_stand 23 = .ok (.invokevirtual 132, 3) := by decide +kernel
theorem dX9_stand_26 : decode cX9_stand 26 = .ok (.ifCond .eq 16, 3) := by decide +kernel
theorem dX9_stand_29 : decode cX9_stand 29 = .ok (.aload_n 0, 1) := by decide +kernel
theorem dX9_stand_30 : decode cX9_stand 30 = .ok (.getfield 19, 3) := by decide +kernel
theorem dX9_stand_33 : decode cX9_stand 33 = .ok (.iconst 2, 1) := by decide +kernel
theorem dX9_stand_34 : decode cX9_stand 34 = .ok (.iload_n 1, 1) := by decide +kernel
theorem dX9_stand_35 : decode cX9_stand 35 = .ok (.imul, 1) := by decide +kernel
theorem dX9_stand_36 : decode cX9_stand 36 = .ok (.iload_n 2, 1) := by decide +kernel
theorem dX9_stand_37 : decode cX9_stand 37 = .ok (.iadd, 1) := by decide +kernel
theorem dX9_stand_38 : decode cX9_stand 38 = .ok (.iaload, 1) := by decide +kernel
theorem dX9_stand_39 : decode cX9_stand 39 = .ok (.goto 5, 3) := by decide +kernel
theorem dX9_stand_42 : decode cX9_stand 42 = .ok (.bipush (-2), 2) := by decide +kernel
theorem dX9_stand_44 : decode cX9_stand 44 = .ok (.ireturn, 1) := by decide +kernel
set_option maxRecDepth 20000 in
theorem ggX9_isStand_X9_in : GoodIn wsX9_isStand wsX9_in := goodIn_r _ [5] (by decide +kernel) (by decide +kernel)
set_option maxRecDepth 20000 in
theorem gX9_isStand_X9_in : GoodIn wsX9_isStand (va_wsS RX9 49 yX9_in wsX9_in) := goodIn_app (goodIn_of _ (by decide +kernel)) ggX9_isStand_X9_in
theorem dX9_isStand_0 : decode cX9_isStand 0 = .ok (.iload_n 1, 1) := by decide +kernel
theorem dX9_isStand_1 : decode cX9_isStand 1 = .ok (.i2l, 1) := by decide +kernel
theorem dX9_isStand_2 : decode cX9_isStand 2 = .ok (.lconst 0, 1) := by decide +kernel
theorem dX9_isStand_3 : decode cX9_isStand 3 = .ok (.aload_n 0, 1) := by decide +kernel
theorem dX9_isStand_4 : decode cX9_isStand 4 = .ok (.getfield 16, 3) := by decide +kernel
theorem dX9_isStand_7 : decode cX9_isStand 7 = .ok (.sipush 298, 3) := by decide +kernel
theorem dX9_isStand_10 : decode cX9_isStand 10 = .ok (.iaload, 1) := by decide +kernel
theorem dX9_isStand_11 : decode cX9_isStand 11 = .ok (.i2l, 1) := by decide +kernel
theorem dX9_isStand_12 : decode cX9_isStand 12 = .ok (.invokestatic 49, 3) := by decide +kernel
theorem dX9_isStand_15 : decode cX9_isStand 15 = .ok (.ifCond .eq 25, 3) := by decide +kernel
theorem dX9_isStand_18 : decode cX9_isStand 18 = .ok (.iload_n 2, 1) := by decide +kernel
theorem dX9_isStand_19 : decode cX9_isStand 19 = .ok (.i2l, 1) := by decide +kernel
theorem dX9_isStand_20 : decode cX9_isStand 20 = .ok (.lconst 0, 1) := by decide +kernel
theorem dX9_isStand_21 : decode cX9_isStand 21 = .ok (.aload_n 0, 1) := by decide +kernel
theorem dX9_isStand_22 : decode cX9_isStand 22 = .ok (.getfield 16, 3) := by decide +kernel
theorem dX9_isStand_25 : decode cX9_isStand 25 = .ok (.sipush 299, 3) := by decide +kernel
theorem dX9_isStand_28 : decode cX9_isStand 28 = .ok (.iaload, 1) := by decide +kernel
theorem dX9_isStand_29 : decode cX9_isStand 29 = .ok (.i2l, 1) := by decide +kernel
theorem dX9_isStand_30 : decode cX9_isStand 30 = .ok (.invokestatic 49, 3) := by decide +kernel
theorem dX9_isStand_33 : decode cX9_isStand 33 = .ok (.ifCond .eq 7, 3) := by decide +kernel
theorem dX9_isStand_36 : decode cX9_isStand 36 = .ok (.iconst 1, 1) := by decide +kernel
theorem dX9_isStand_37 : decode cX9_isStand 37 = .ok (.goto 4, 3) := by decide +kernel
theorem dX9_isStand_40 : decode cX9_isStand 40 = .ok (.iconst 0, 1) := by decide +kernel
theorem dX9_isStand_41 : decode cX9_isStand 41 = .ok (.ireturn, 1) := by decide +kernel
set_option maxRecDepth 20000 in
theorem ggX9_set_X9_isMeaning : GoodIn wsX9_set wsX9_isMeaning := goodIn_r _ [5, 6, 7, 8, 4, 9] (by decide +kernel) (by decide +kernel)
set_option maxRecDepth 20000 in
theorem gX9_set_X9_isMeaning : GoodIn wsX9_set (va_wsS RX9 159 yX9_isMeaning wsX9_isMeaning) := goodIn_app (goodIn_of _ (by decide +kernel)) ggX9_set_X9_isMeaning
set_option maxRecDepth 20000 in
theorem ggX9_set_X9_isStand : GoodIn wsX9_set wsX9_isStand := goodIn_r _ [13, 14, 7, 8, 4, 9, 22, 23, 24, 25, 26, 27, 28, 29, 30, 31, 32, 33, 34] (by decide +kernel) (by decide +kernel)
set_option maxRecDepth 20000 in
theorem gX9_set_X9_isStand : GoodIn wsX9_set (wsV RX9 185 RX9 yX9_isStand wsX9_isStand) := goodIn_app (goodIn_of _ (by decide +kernel)) ggX9_set_X9_isStand
set_option maxRecDepth 20000 in
theorem ggX9_set_X9_isTold : GoodIn wsX9_set wsX9_isTold := goodIn_r _ [18, 14, 19, 20, 4, 21, 22, 23, 24, 25, 26, 27, 28, 29, 30, 31, 32, 33, 34] (by decide +kernel) (by decide +kernel)
set_option maxRecDepth 20000 in
theorem gX9_set_X9_isTold : GoodIn wsX9_set (wsV RX9 132 RX9 yX9_isTold wsX9_isTold) := goodIn_app (goodIn_of _ (by decide +kernel)) ggX9_set_X9_isTold
theorem dX9_set_0 : decode cX9_set 0 = .ok (.iload_n 1, 1) := by decide +kernel
theorem dX9_set_1 : decode cX9_set 1 = .ok (.invokestatic 159, 3) := by decide +kernel
theorem dX9_set_4 : decode cX9_set 4 = .ok (.ifCond .eq 12, 3) := by decide +kernel
theorem dX9_set_7 : decode cX9_set 7 = .ok (.aload_n 0, 1) := by decide +kernel
theorem dX9_set_8 : decode cX9_set 8 = .ok (.iload_n 2, 1) := by decide +kernel
theorem dX9_set_9 : decode cX9_set 9 = .ok (.iload_n 3, 1) := by decide +kernel
theorem dX9_set_10 : decode cX9_set 10 = .ok (.invokevirtual 185, 3) := by decide +kernel
theorem dX9_set_13 : decode cX9_set 13 = .ok (.ifCond .ne 5, 3) := by decide +kernel
theorem dX9_set_16 : decode cX9_set 16 = .ok (.iconst (-1), 1) := by decide +kernel
theorem dX9_set_17 : decode cX9_set 17 = .ok (.ireturn, 1) := by decide +kernel
theorem dX9_set_18 : decode cX9_set 18 = .ok (.aload_n 0, 1) := by decide +kernel
theorem dX9_set_19 : decode cX9_set 19 = .ok (.iload_n 1, 1) := by decide +kernel
theorem dX9_set_20 : decode cX9_set 20 = .ok (.invokevirtual 132, 3) := by decide +kernel
theorem dX9_set_23 : decode cX9_set 23 = .ok (.ifCond .ne 6, 3) := by decide +kernel
theorem dX9_set_26 : decode cX9_set 26 = .ok (.bipush (-2), 2) := by decide +kernel
theorem dX9_set_28 : decode cX9_set 28 = .ok (.ireturn, 1) := by decide +kernel
theorem dX9_set_29 : decode cX9_set 29 = .ok (.aload_n 0, 1) := by decide +kernel
theorem dX9_set_30 : decode cX9_set 30 = .ok (.getfield 19, 3) := by decide +kernel
theorem dX9_set_33 : decode cX9_set 33 = .ok (.iconst 2, 1) := by decide +kernel
theorem dX9_set_34 : decode cX9_set 34 = .ok (.iload_n 1, 1) := by decide +kernel
theorem dX9_set_35 : decode cX9_set 35 = .ok (.imul, 1) := by decide +kernel
theorem dX9_set_36 : decode cX9_set 36 = .ok (.iload_n 2, 1) := by decide +kernel
theorem dX9_set_37 : decode cX9_set 37 = .ok (.iastore, 1) := by decide +kernel
theorem dX9_set_38 : decode cX9_set 38 = .ok (.aload_n 0, 1) := by decide +kernel
theorem dX9_set_39 : decode cX9_set 39 = .ok (.getfield 19, 3) := by decide +kernel
theorem dX9_set_42 : decode cX9_set 42 = .ok (.iconst 2, 1) := by decide +kernel
theorem dX9_set_43 : decode cX9_set 43 = .ok (.iload_n 1, 1) := by decide +kernel
theorem dX9_set_44 : decode cX9_set 44 = .ok (.imul, 1) := by decide +kernel
theorem dX9_set_45 : decode cX9_set 45 = .ok (.iconst 1, 1) := by decide +kernel
theorem dX9_set_46 : decode cX9_set 46 = .ok (.iadd, 1) := by decide +kernel
theorem dX9_set_47 : decode cX9_set 47 = .ok (.iload_n 3, 1) := by decide +kernel
theorem dX9_set_48 : decode cX9_set 48 = .ok (.iastore, 1) := by decide +kernel
theorem dX9_set_49 : decode cX9_set 49 = .ok (.iconst 1, 1) := by decide +kernel
theorem dX9_set_50 : decode cX9_set 50 = .ok (.ireturn, 1) := by decide +kernel
set_option maxRecDepth 20000 in
theorem ggX9_million_X9_isMeaning : GoodIn wsX9_million wsX9_isMeaning := goodIn_r _ [6, 7, 8, 9, 5, 10] (by decide +kernel) (by decide +kernel)
set_option maxRecDepth 20000 in
theorem gX9_million_X9_isMeaning : GoodIn wsX9_million (va_wsS RX9 159 yX9_isMeaning wsX9_isMeaning) := goodIn_app (goodIn_of _ (by decide +kernel)) ggX9_million_X9_isMeaning
set_option maxRecDepth 20000 in
theorem ggX9_million_X9_in : GoodIn wsX9_million wsX9_in := goodIn_r _ [10] (by decide +kernel) (by decide +kernel)
set_option maxRecDepth 20000 in
theorem gX9_million_X9_in : GoodIn wsX9_million (va_wsS RX9 49 yX9_in wsX9_in) := goodIn_app (goodIn_of _ (by decide +kernel)) ggX9_million_X9_in
set_option maxRecDepth 20000 in
theorem ggX9_million_X9_isStand : GoodIn wsX9_million wsX9_isStand := goodIn_r _ [14, 15, 8, 9, 5, 10, 76, 77, 78, 79, 80, 81, 82, 83, 84, 85, 86, 87, 88] (by decide +kernel) (by decide +kernel)
set_option maxRecDepth 20000 in
theorem gX9_million_X9_isStand : GoodIn wsX9_million (wsV RX9 185 RX9 yX9_isStand wsX9_isStand) := goodIn_app (goodIn_of _ (by decide +kernel)) ggX9_million_X9_isStand
set_option maxRecDepth 20000 in
theorem ggX9_million_X9_isTold : GoodIn wsX9_million wsX9_isTold := goodIn_r _ [19, 15, 20, 21, 5, 22, 76, 77, 78, 79, 80, 81, 82, 83, 84, 85, 86, 87, 88] (by decide +kernel) (by decide +kernel)
set_option maxRecDepth 20000 in
theorem gX9_million_X9_isTold : GoodIn wsX9_million (wsV RX9 132 RX9 yX9_isTold wsX9_isTold) := goodIn_app (goodIn_of _ (by decide +kernel)) ggX9_million_X9_isTold
set_option maxRecDepth 20000 in
theorem ggX9_million_X9_goAsTold : GoodIn wsX9_million wsX9_goAsTold := goodIn_r _ [26, 27, 15, 28, 29, 30, 5, 31, 2, 32, 33, 34, 35, 36, 37, 38, 39, 40, 41, 42, 43, 44, 45, 46, 20, 21, 22, 47, 48, 49, 50, 51, 52, 53, 54, 55, 56, 57, 58, 59, 60, 61, 62, 63, 64, 65, 66, 67, 68, 69, 70, 71, 72, 73, 74, 75, 76, 77, 78, 79, 80, 81, 82, 83, 84, 85, 86, 87, 88] (by decide +kernel) (by decide +kernel)
set_option maxRecDepth 20000 in
theorem gX9_million_X9_goAsTold : GoodIn wsX9_million (wsV RX9 190 RX9 yX9_goAsTold wsX9_goAsTold) := goodIn_app (goodIn_of _ (by decide +kernel)) ggX9_million_X9_goAsTold
theorem dX9_million_0 : decode cX9_million 0 = .ok (.iload_n 1, 1) := by decide +kernel
theorem dX9_million_1 : decode cX9_million 1 = .ok (.invokestatic 159, 3) := by decide +kernel
theorem dX9_million_4 : decode cX9_million 4 = .ok (.ifCond .eq 25, 3) := by decide +kernel
theorem dX9_million_7 : decode cX9_million 7 = .ok (.iload_n 2, 1) := by decide +kernel
theorem dX9_million_8 : decode cX9_million 8 = .ok (.i2l, 1) := by decide +kernel
theorem dX9_million_9 : decode cX9_million 9 = .ok (.lconst 0, 1) := by decide +kernel
theorem dX9_million_10 : decode cX9_million 10 = .ok (.ldc2_w 188, 3) := by decide +kernel
theorem dX9_million_13 : decode cX9_million 13 = .ok (.invokestatic 49, 3) := by decide +kernel
theorem dX9_million_16 : decode cX9_million 16 = .ok (.ifCond .eq 13, 3) := by decide +kernel
theorem dX9_million_19 : decode cX9_million 19 = .ok (.aload_n 0, 1) := by decide +kernel
theorem dX9_million_20 : decode cX9_million 20 = .ok (.iload_n 3, 1) := by decide +kernel
theorem dX9_million_21 : decode cX9_million 21 = .ok (.iload 4, 2) := by decide +kernel
theorem dX9_million_23 : decode cX9_million 23 = .ok (.invokevirtual 185, 3) := by decide +kernel
theorem dX9_million_26 : decode cX9_million 26 = .ok (.ifCond .ne 5, 3) := by decide +kernel
theorem dX9_million_29 : decode cX9_million 29 = .ok (.iconst (-1), 1) := by decide +kernel
theorem dX9_million_30 : decode cX9_million 30 = .ok (.ireturn, 1) := by decide +kernel
theorem dX9_million_31 : decode cX9_million 31 = .ok (.aload_n 0, 1) := by decide +kernel
theorem dX9_million_32 : decode cX9_million 32 = .ok (.iload_n 1, 1) := by decide +kernel
theorem dX9_million_33 : decode cX9_million 33 = .ok (.invokevirtual 132, 3) := by decide +kernel
theorem dX9_million_36 : decode cX9_million 36 = .ok (.ifCond .ne 6, 3) := by decide +kernel
theorem dX9_million_39 : decode cX9_million 39 = .ok (.bipush (-2), 2) := by decide +kernel
theorem dX9_million_41 : decode cX9_million 41 = .ok (.ireturn, 1) := by decide +kernel
theorem dX9_million_42 : decode cX9_million 42 = .ok (.aload_n 0, 1) := by decide +kernel
theorem dX9_million_43 : decode cX9_million 43 = .ok (.iload_n 1, 1) := by decide +kernel
theorem dX9_million_44 : decode cX9_million 44 = .ok (.iload_n 2, 1) := by decide +kernel
theorem dX9_million_45 : decode cX9_million 45 = .ok (.invokevirtual 190, 3) := by decide +kernel
theorem dX9_million_48 : decode cX9_million 48 = .ok (.aload_n 0, 1) := by decide +kernel
theorem dX9_million_49 : decode cX9_million 49 = .ok (.getfield 34, 3) := by decide +kernel
theorem dX9_million_52 : decode cX9_million 52 = .ok (.bipush 9, 2) := by decide +kernel
theorem dX9_million_54 : decode cX9_million 54 = .ok (.iload_n 3, 1) := by decide +kernel
theorem dX9_million_55 : decode cX9_million 55 = .ok (.imul, 1) := by decide +kernel
theorem dX9_million_56 : decode cX9_million 56 = .ok (.iload 4, 2) := by decide +kernel
theorem dX9_million_58 : decode cX9_million 58 = .ok (.iadd, 1) := by decide +kernel
theorem dX9_million_59 : decode cX9_million 59 = .ok (.laload, 1) := by decide +kernel
theorem dX9_million_60 : decode cX9_million 60 = .ok (.l2i, 1) := by decide +kernel
theorem dX9_million_61 : decode cX9_million 61 = .ok (.ireturn, 1) := by decide +kernel
set_option maxRecDepth 20000 in
theorem ggX9_won_X9_isMeaning : GoodIn wsX9_won wsX9_isMeaning := goodIn_r _ [6, 7, 8, 9, 5, 10] (by decide +kernel) (by decide +kernel)
set_option maxRecDepth 20000 in
theorem gX9_won_X9_isMeaning : GoodIn wsX9_won (va_wsS RX9 159 yX9_isMeaning wsX9_isMeaning) := goodIn_app (goodIn_of _ (by decide +kernel)) ggX9_won_X9_isMeaning
set_option maxRecDepth 20000 in
theorem ggX9_won_X9_in : GoodIn wsX9_won wsX9_in := goodIn_r _ [10] (by decide +kernel) (by decide +kernel)
set_option maxRecDepth 20000 in
theorem gX9_won_X9_in : GoodIn wsX9_won (va_wsS RX9 49 yX9_in wsX9_in) := goodIn_app (goodIn_of _ (by decide +kernel)) ggX9_won_X9_in
set_option maxRecDepth 20000 in
theorem ggX9_won_X9_isTold : GoodIn wsX9_won wsX9_isTold := goodIn_r _ [14, 2, 15, 16, 5, 17, 76, 77, 78, 79, 80, 81, 82, 83, 84, 85, 86, 87, 88] (by decide +kernel) (by decide +kernel)
set_option maxRecDepth 20000 in
theorem gX9_won_X9_isTold : GoodIn wsX9_won (wsV RX9 132 RX9 yX9_isTold wsX9_isTold) := goodIn_app (goodIn_of _ (by decide +kernel)) ggX9_won_X9_isTold
set_option maxRecDepth 20000 in
theorem ggX9_won_X9_goAsTold : GoodIn wsX9_won wsX9_goAsTold := goodIn_r _ [21, 22, 2, 23, 24, 25, 5, 26, 27, 28, 29, 30, 31, 32, 33, 34, 35, 36, 37, 38, 39, 40, 41, 42, 15, 16, 17, 43, 44, 45, 46, 47, 48, 49, 50, 51, 52, 53, 54, 55, 56, 57, 58, 59, 60, 61, 62, 63, 64, 65, 66, 67, 68, 69, 70, 71, 76, 77, 78, 79, 80, 81, 82, 83, 84, 85, 86, 87, 88] (by decide +kernel) (by decide +kernel)
set_option maxRecDepth 20000 in
theorem gX9_won_X9_goAsTold : GoodIn wsX9_won (wsV RX9 190 RX9 yX9_goAsTold wsX9_goAsTold) := goodIn_app (goodIn_of _ (by decide +kernel)) ggX9_won_X9_goAsTold
set_option maxRecDepth 20000 in
theorem ggX9_won_X9_wonBy : GoodIn wsX9_won wsX9_wonBy := goodIn_r _ [75, 27, 76, 77, 78, 79, 80, 81, 82, 83, 84, 85, 86, 87, 88] (by decide +kernel) (by decide +kernel)
set_option maxRecDepth 20000 in
theorem gX9_won_X9_wonBy : GoodIn wsX9_won (wsV RX9 193 RX9 yX9_wonBy wsX9_wonBy) := goodIn_app (goodIn_of _ (by decide +kernel)) ggX9_won_X9_wonBy
theorem dX9_won_0 : decode cX9_won 0 = .ok (.iload_n 1, 1) := by decide +kernel
theorem dX9_won_1 : decode cX9_won 1 = .ok (.invokestatic 159, 3) := by decide +kernel
theorem dX9_won_4 : decode cX9_won 4 = .ok (.ifCond .eq 25, 3) := by decide +kernel
theorem dX9_won_7 : decode cX9_won 7 = .ok (.iload_n 2, 1) := by decide +kernel
theorem dX9_won_8 : decode cX9_won 8 = .ok (.i2l, 1) := by decide +kernel
theorem dX9_won_9 : decode cX9_won 9 = .ok (.lconst 0, 1) := by decide +kernel
theorem dX9_won_10 : decode cX9_won 10 = .ok (.ldc2_w 188, 3) := by decide +kernel
theorem dX9_won_13 : decode cX9_won 13 = .ok (.invokestatic 49, 3) := by decide +kernel
theorem dX9_won_16 : decode cX9_won 16 = .ok (.ifCond .eq 13, 3) := by decide +kernel
theorem dX9_won_19 : decode cX9_won 19 = .ok (.iload_n 3, 1) := by decide +kernel
theorem dX9_won_20 : decode cX9_won 20 = .ok (.i2l, 1) := by decide +kernel
theorem dX9_won_21 : decode cX9_won 21 = .ok (.lconst 0, 1) := by decide +kernel
theorem dX9_won_22 : decode cX9_won 22 = .ok (.lconst 1, 1) := by decide +kernel
theorem dX9_won_23 : decode cX9_won 23 = .ok (.invokestatic 49, 3) := by decide +kernel
theorem dX9_won_26 : decode cX9_won 26 = .ok (.ifCond .ne 5, 3) := by decide +kernel
theorem dX9_won_29 : decode cX9_won 29 = .ok (.iconst (-1), 1) := by decide +kernel
theorem dX9_won_30 : decode cX9_won 30 = .ok (.ireturn, 1) := by decide +kernel
theorem dX9_won_31 : decode cX9_won 31 = .ok (.aload_n 0, 1) := by decide +kernel
theorem dX9_won_32 : decode cX9_won 32 = .ok (.iload_n 1, 1) := by decide +kernel
theorem dX9_won_33 : decode cX9_won 33 = .ok (.invokevirtual 132, 3) := by decide +kernel
theorem dX9_won_36 : decode cX9_won 36 = .ok (.ifCond .ne 6, 3) := by decide +kernel
theorem dX9_won_39 : decode cX9_won 39 = .ok (.bipush (-2), 2) := by decide +kernel
theorem dX9_won_41 : decode cX9_won 41 = .ok (.ireturn, 1) := by decide +kernel
theorem dX9_won_42 : decode cX9_won 42 = .ok (.aload_n 0, 1) := by decide +kernel
theorem dX9_won_43 : decode cX9_won 43 = .ok (.iload_n 1, 1) := by decide +kernel
theorem dX9_won_44 : decode cX9_won 44 = .ok (.iload_n 2, 1) := by decide +kernel
theorem dX9_won_45 : decode cX9_won 45 = .ok (.invokevirtual 190, 3) := by decide +kernel
theorem dX9_won_48 : decode cX9_won 48 = .ok (.aload_n 0, 1) := by decide +kernel
theorem dX9_won_49 : decode cX9_won 49 = .ok (.iload_n 3, 1) := by decide +kernel
theorem dX9_won_50 : decode cX9_won 50 = .ok (.aload_n 0, 1) := by decide +kernel
theorem dX9_won_51 : decode cX9_won 51 = .ok (.getfield 16, 3) := by decide +kernel
theorem dX9_won_54 : decode cX9_won 54 = .ok (.sipush 298, 3) := by decide +kernel
theorem dX9_won_57 : decode cX9_won 57 = .ok (.iaload, 1) := by decide +kernel
theorem dX9_won_58 : decode cX9_won 58 = .ok (.aload_n 0, 1) := by decide +kernel
theorem dX9_won_59 : decode cX9_won 59 = .ok (.getfield 16, 3) := by decide +kernel
theorem dX9_won_62 : decode cX9_won 62 = .ok (.sipush 299, 3) := by decide +kernel
theorem dX9_won_65 : decode cX9_won 65 = .ok (.iaload, 1) := by decide +kernel
theorem dX9_won_66 : decode cX9_won 66 = .ok (.invokevirtual 193, 3) := by decide +kernel
theorem dX9_won_69 : decode cX9_won 69 = .ok (.l2i, 1) := by decide +kernel
theorem dX9_won_70 : decode cX9_won 70 = .ok (.ireturn, 1) := by decide +kernel
theorem dX9_isEnough_0 : decode cX9_isEnough 0 = .ok (.lload_n 0, 1) := by decide +kernel
theorem dX9_isEnough_1 : decode cX9_isEnough 1 = .ok (.ldc2_w 168, 3) := by decide +kernel
theorem dX9_isEnough_4 : decode cX9_isEnough 4 = .ok (.lmul, 1) := by decide +kernel
theorem dX9_isEnough_5 : decode cX9_isEnough 5 = .ok (.iload_n 2, 1) := by decide +kernel
theorem dX9_isEnough_6 : decode cX9_isEnough 6 = .ok (.i2l, 1) := by decide +kernel
theorem dX9_isEnough_7 : decode cX9_isEnough 7 = .ok (.ldc2_w 166, 3) := by decide +kernel
theorem dX9_isEnough_10 : decode cX9_isEnough 10 = .ok (.lmul, 1) := by decide +kernel
theorem dX9_isEnough_11 : decode cX9_isEnough 11 = .ok (.lcmp, 1) := by decide +kernel
theorem dX9_isEnough_12 : decode cX9_isEnough 12 = .ok (.ifCond .lt 7, 3) := by decide +kernel
theorem dX9_isEnough_15 : decode cX9_isEnough 15 = .ok (.iconst 1, 1) := by decide +kernel
theorem dX9_isEnough_16 : decode cX9_isEnough 16 = .ok (.goto 4, 3) := by decide +kernel
theorem dX9_isEnough_19 : decode cX9_isEnough 19 = .ok (.iconst 0, 1) := by decide +kernel
theorem dX9_isEnough_20 : decode cX9_isEnough 20 = .ok (.ireturn, 1) := by decide +kernel
set_option maxRecDepth 20000 in
theorem ggX9_soon_X9_isMeaning : GoodIn wsX9_soon wsX9_isMeaning := goodIn_r _ [6, 7, 8, 9, 5, 10] (by decide +kernel) (by decide +kernel)
set_option maxRecDepth 20000 in
theorem gX9_soon_X9_isMeaning : GoodIn wsX9_soon (va_wsS RX9 159 yX9_isMeaning wsX9_isMeaning) := goodIn_app (goodIn_of _ (by decide +kernel)) ggX9_soon_X9_isMeaning
set_option maxRecDepth 20000 in
theorem ggX9_soon_X9_in : GoodIn wsX9_soon wsX9_in := goodIn_r _ [10] (by decide +kernel) (by decide +kernel)
set_option maxRecDepth 20000 in
theorem gX9_soon_X9_in : GoodIn wsX9_soon (va_wsS RX9 49 yX9_in wsX9_in) := goodIn_app (goodIn_of _ (by decide +kernel)) ggX9_soon_X9_in
set_option maxRecDepth 20000 in
theorem ggX9_soon_X9_isTold : GoodIn wsX9_soon wsX9_isTold := goodIn_r _ [14, 2, 15, 16, 5, 17, 78, 79, 80, 81, 82, 83, 84, 85, 86, 87, 88, 89, 90] (by decide +kernel) (by decide +kernel)
set_option maxRecDepth 20000 in
theorem gX9_soon_X9_isTold : GoodIn wsX9_soon (wsV RX9 132 RX9 yX9_isTold wsX9_isTold) := goodIn_app (goodIn_of _ (by decide +kernel)) ggX9_soon_X9_isTold
set_option maxRecDepth 20000 in
theorem ggX9_soon_X9_goAsTold : GoodIn wsX9_soon wsX9_goAsTold := goodIn_r _ [21, 22, 2, 23, 24, 25, 5, 26, 27, 28, 29, 30, 31, 32, 33, 34, 35, 36, 37, 38, 39, 40, 41, 42, 15, 16, 17, 43, 44, 45, 46, 47, 48, 49, 50, 51, 52, 53, 54, 55, 56, 57, 58, 59, 60, 61, 62, 63, 64, 65, 66, 67, 68, 69, 70, 1, 78, 79, 80, 81, 82, 83, 84, 85, 86, 87, 88, 89, 90] (by decide +kernel) (by decide +kernel)
set_option maxRecDepth 20000 in
theorem gX9_soon_X9_goAsTold : GoodIn wsX9_soon (wsV RX9 190 RX9 yX9_goAsTold wsX9_goAsTold) := goodIn_app (goodIn_of _ (by decide +kernel)) ggX9_soon_X9_goAsTold
set_option maxRecDepth 20000 in
theorem ggX9_soon_X9_wonBy : GoodIn wsX9_soon wsX9_wonBy := goodIn_r _ [74, 27, 78, 79, 80, 81, 82, 83, 84, 85, 86, 87, 88, 89, 90] (by decide +kernel) (by decide +kernel)
set_option maxRecDepth 20000 in
theorem gX9_soon_X9_wonBy : GoodIn wsX9_soon (wsV RX9 193 RX9 yX9_wonBy wsX9_wonBy) := goodIn_app (goodIn_of _ (by decide +kernel)) ggX9_soon_X9_wonBy
set_option maxRecDepth 20000 in
theorem ggX9_soon_X9_isEnough : GoodIn wsX9_soon wsX9_isEnough := goodIn_r _ [77, 1, 28] (by decide +kernel) (by decide +kernel)
set_option maxRecDepth 20000 in
theorem gX9_soon_X9_isEnough : GoodIn wsX9_soon (va_wsS RX9 197 yX9_isEnough wsX9_isEnough) := goodIn_app (goodIn_of _ (by decide +kernel)) ggX9_soon_X9_isEnough
set_option maxRecDepth 20000 in
theorem ggX9_soon_X9_goOn : GoodIn wsX9_soon wsX9_goOn := goodIn_r _ [32, 33, 34, 35, 5, 36, 2, 37, 38, 39, 40, 41, 42, 15, 16, 17, 43, 44, 45, 46, 47, 48, 49, 50, 51, 52, 53, 54, 55, 56, 57, 58, 59, 60, 61, 62, 63, 64, 65, 66, 67, 68, 69, 70, 27, 1, 78, 79, 80, 81, 82, 83, 84, 85, 86, 87, 88, 89, 90] (by decide +kernel) (by decide +kernel)
set_option maxRecDepth 20000 in
theorem gX9_soon_X9_goOn : GoodIn wsX9_soon (wsV RX9 181 RX9 yX9_goOn wsX9_goOn) := goodIn_app (goodIn_of _ (by decide +kernel)) ggX9_soon_X9_goOn
theorem dX9_soon_0 : decode cX9_soon 0 = .ok (.iload_n 1, 1) := by decide +kernel
theorem dX9_soon_1 : decode cX9_soon 1 = .ok (.invokestatic 159, 3) := by decide +kernel
theorem dX9_soon_4 : decode cX9_soon 4 = .ok (.ifCond .eq 15, 3) := by decide +kernel
theorem dX9_soon_7 : decode cX9_soon 7 = .ok (.iload_n 2, 1) := by decide +kernel
theorem dX9_soon_8 : decode cX9_soon 8 = .ok (.i2l, 1) := by decide +kernel
theorem dX9_soon_9 : decode cX9_soon 9 = .ok (.lconst 1, 1) := by decide +kernel
theorem dX9_soon_10 : decode cX9_soon 10 = .ok (.ldc2_w 168, 3) := by decide +kernel
theorem dX9_soon_13 : decode cX9_soon 13 = .ok (.invokestatic 49, 3) := by decide +kernel
theorem dX9_soon_16 : decode cX9_soon 16 = .ok (.ifCond .ne 5, 3) := by decide +kernel
theorem dX9_soon_19 : decode cX9_soon 19 = .ok (.iconst (-1), 1) := by decide +kernel
theorem dX9_soon_20 : decode cX9_soon 20 = .ok (.ireturn, 1) := by decide +kernel
theorem dX9_soon_21 : decode cX9_soon 21 = .ok (.aload_n 0, 1) := by decide +kernel
theorem dX9_soon_22 : decode cX9_soon 22 = .ok (.iload_n 1, 1) := by decide +kernel
theorem dX9_soon_23 : decode cX9_soon 23 = .ok (.invokevirtual 132, 3) := by decide +kernel
theorem dX9_soon_26 : decode cX9_soon 26 = .ok (.ifCond .ne 6, 3) := by decide +kernel
theorem dX9_soon_29 : decode cX9_soon 29 = .ok (.bipush (-2), 2) := by decide +kernel
theorem dX9_soon_31 : decode cX9_soon 31 = .ok (.ireturn, 1) := by decide +kernel
theorem dX9_soon_32 : decode cX9_soon 32 = .ok (.aload_n 0, 1) := by decide +kernel
theorem dX9_soon_33 : decode cX9_soon 33 = .ok (.iload_n 1, 1) := by decide +kernel
theorem dX9_soon_34 : decode cX9_soon 34 = .ok (.iconst 0, 1) := by decide +kernel
theorem dX9_soon_35 : decode cX9_soon 35 = .ok (.invokevirtual 190, 3) := by decide +kernel
theorem dX9_soon_38 : decode cX9_soon 38 = .ok (.iconst 0, 1) := by decide +kernel
theorem dX9_soon_39 : decode cX9_soon 39 = .ok (.istore_n 3, 1) := by decide +kernel
theorem dX9_soon_40 : decode cX9_soon 40 = .ok (.iload_n 3, 1) := by decide +kernel
theorem dX9_soon_41 : decode cX9_soon 41 = .ok (.sipush 200, 3) := by decide +kernel
theorem dX9_soon_44 : decode cX9_soon 44 = .ok (.if_icmp .gt 99, 3) := by decide +kernel
theorem dX9_soon_47 : decode cX9_soon 47 = .ok (.aload_n 0, 1) := by decide +kernel
theorem dX9_soon_48 : decode cX9_soon 48 = .ok (.iconst 0, 1) := by decide +kernel
theorem dX9_soon_49 : decode cX9_soon 49 = .ok (.aload_n 0, 1) := by decide +kernel
theorem dX9_soon_50 : decode cX9_soon 50 = .ok (.getfield 16, 3) := by decide +kernel
theorem dX9_soon_53 : decode cX9_soon 53 = .ok (.sipush 298, 3) := by decide +kernel
theorem dX9_soon_56 : decode cX9_soon 56 = .ok (.iaload, 1) := by decide +kernel
theorem dX9_soon_57 : decode cX9_soon 57 = .ok (.aload_n 0, 1) := by decide +kernel
theorem dX9_soon_58 : decode cX9_soon 58 = .ok (.getfield 16, 3) := by decide +kernel
theorem dX9_soon_61 : decode cX9_soon 61 = .ok (.sipush 299, 3) := by decide +kernel
theorem dX9_soon_64 : decode cX9_soon 64 = .ok (.iaload, 1) := by decide +kernel
theorem dX9_soon_65 : decode cX9_soon 65 = .ok (.invokevirtual 193, 3) := by decide +kernel
theorem dX9_soon_68 : decode cX9_soon 68 = .ok (.aload_n 0, 1) := by decide +kernel
theorem dX9_soon_69 : decode cX9_soon 69 = .ok (.iconst 1, 1) := by decide +kernel
theorem dX9_soon_70 : decode cX9_soon 70 = .ok (.aload_n 0, 1) := by decide +kernel
theorem dX9_soon_71 : decode cX9_soon 71 = .ok (.getfield 16, 3) := by decide +kernel
theorem dX9_soon_74 : decode cX9_soon 74 = .ok (.sipush 298, 3) := by decide +kernel
theorem dX9_soon_77 : decode cX9_soon 77 = .ok (.iaload, 1) := by decide +kernel
theorem dX9_soon_78 : decode cX9_soon 78 = .ok (.aload_n 0, 1) := by decide +kernel
theorem dX9_soon_79 : decode cX9_soon 79 = .ok (.getfield 16, 3) := by decide +kernel
theorem dX9_soon_82 : decode cX9_soon 82 = .ok (.sipush 299, 3) := by decide +kernel
theorem dX9_soon_85 : decode cX9_soon 85 = .ok (.iaload, 1) := by decide +kernel
theorem dX9_soon_86 : decode cX9_soon 86 = .ok (.invokevirtual 193, 3) := by decide +kernel
theorem dX9_soon_89 : decode cX9_soon 89 = .ok (.ladd, 1) := by decide +kernel
theorem dX9_soon_90 : decode cX9_soon 90 = .ok (.iload_n 2, 1) := by decide +kernel
theorem dX9_soon_91 : decode cX9_soon 91 = .ok (.invokestatic 197, 3) := by decide +kernel
theorem dX9_soon_94 : decode cX9_soon 94 = .ok (.ifCond .eq 5, 3) := by decide +kernel
theorem dX9_soon_97 : decode cX9_soon 97 = .ok (.iload_n 3, 1) := by decide +kernel
theorem dX9_soon_98 : decode cX9_soon 98 = .ok (.ireturn, 1) := by decide +kernel
theorem dX9_soon_99 : decode cX9_soon 99 = .ok (.aload_n 0, 1) := by decide +kernel
theorem dX9_soon_100 : decode cX9_soon 100 = .ok (.iload_n 1, 1) := by decide +kernel
theorem dX9_soon_101 : decode cX9_soon 101 = .ok (.iconst 1, 1) := by decide +kernel
theorem dX9_soon_102 : decode cX9_soon 102 = .ok (.aload_n 0, 1) := by decide +kernel
theorem dX9_soon_103 : decode cX9_soon 103 = .ok (.getfield 16, 3) := by decide +kernel
theorem dX9_soon_106 : decode cX9_soon 106 = .ok (.sipush 298, 3) := by decide +kernel
theorem dX9_soon_109 : decode cX9_soon 109 = .ok (.iaload, 1) := by decide +kernel
theorem dX9_soon_110 : decode cX9_soon 110 = .ok (.aload_n 0, 1) := by decide +kernel
theorem dX9_soon_111 : decode cX9_soon 111 = .ok (.getfield 16, 3) := by decide +kernel
theorem dX9_soon_114 : decode cX9_soon 114 = .ok (.sipush 299, 3) := by decide +kernel
theorem dX9_soon_117 : decode cX9_soon 117 = .ok (.iaload, 1) := by decide +kernel
theorem dX9_soon_118 : decode cX9_soon 118 = .ok (.aload_n 0, 1) := by decide +kernel
theorem dX9_soon_119 : decode cX9_soon 119 = .ok (.getfield 16, 3) := by decide +kernel
theorem dX9_soon_122 : decode cX9_soon 122 = .ok (.sipush 300, 3) := by decide +kernel
theorem dX9_soon_125 : decode cX9_soon 125 = .ok (.iaload, 1) := by decide +kernel
theorem dX9_soon_126 : decode cX9_soon 126 = .ok (.aload_n 0, 1) := by decide +kernel
theorem dX9_soon_127 : decode cX9_soon 127 = .ok (.getfield 16, 3) := by decide +kernel
theorem dX9_soon_130 : decode cX9_soon 130 = .ok (.sipush 301, 3) := by decide +kernel
theorem dX9_soon_133 : decode cX9_soon 133 = .ok (.iaload, 1) := by decide +kernel
theorem dX9_soon_134 : decode cX9_soon 134 = .ok (.invokevirtual 181, 3) := by decide +kernel
theorem dX9_soon_137 : decode cX9_soon 137 = .ok (.iinc 3 1, 3) := by decide +kernel
theorem dX9_soon_140 : decode cX9_soon 140 = .ok (.goto (-100), 3) := by decide +kernel
theorem dX9_soon_143 : decode cX9_soon 143 = .ok (.bipush (-4), 2) := by decide +kernel
theorem dX9_soon_145 : decode cX9_soon 145 = .ok (.ireturn, 1) := by decide +kernel
set_option maxRecDepth 20000 in
theorem ggX9_use_X9_isMeaning : GoodIn wsX9_use wsX9_isMeaning := goodIn_r _ [8, 9, 10, 11, 7, 12] (by decide +kernel) (by decide +kernel)
set_option maxRecDepth 20000 in
theorem gX9_use_X9_isMeaning : GoodIn wsX9_use (va_wsS RX9 159 yX9_isMeaning wsX9_isMeaning) := goodIn_app (goodIn_of _ (by decide +kernel)) ggX9_use_X9_isMeaning
set_option maxRecDepth 20000 in
theorem ggX9_use_X9_in : GoodIn wsX9_use wsX9_in := goodIn_r _ [12] (by decide +kernel) (by decide +kernel)
set_option maxRecDepth 20000 in
theorem gX9_use_X9_in : GoodIn wsX9_use (va_wsS RX9 49 yX9_in wsX9_in) := goodIn_app (goodIn_of _ (by decide +kernel)) ggX9_use_X9_in
set_option maxRecDepth 20000 in
theorem ggX9_use_X9_isTold : GoodIn wsX9_use wsX9_isTold := goodIn_r _ [16, 2, 17, 18, 7, 19, 73, 74, 75, 76, 77, 78, 79, 80, 81, 82, 83, 84, 85] (by decide +kernel) (by decide +kernel)
set_option maxRecDepth 20000 in
theorem gX9_use_X9_isTold : GoodIn wsX9_use (wsV RX9 132 RX9 yX9_isTold wsX9_isTold) := goodIn_app (goodIn_of _ (by decide +kernel)) ggX9_use_X9_isTold
set_option maxRecDepth 20000 in
theorem ggX9_use_X9_goAsTold : GoodIn wsX9_use wsX9_goAsTold := goodIn_r _ [23, 24, 2, 25, 26, 27, 7, 28, 3, 29, 30, 31, 32, 33, 34, 35, 36, 37, 38, 39, 40, 41, 42, 43, 17, 18, 19, 44, 45, 46, 47, 48, 49, 50, 51, 52, 53, 54, 55, 56, 57, 58, 59, 60, 61, 62, 63, 64, 65, 66, 67, 68, 69, 70, 71, 72, 73, 74, 75, 76, 77, 78, 79, 80, 81, 82, 83, 84, 85] (by decide +kernel) (by decide +kernel)
set_option maxRecDepth 20000 in
theorem gX9_use_X9_goAsTold : GoodIn wsX9_use (wsV RX9 190 RX9 yX9_goAsTold wsX9_goAsTold) := goodIn_app (goodIn_of _ (by decide +kernel)) ggX9_use_X9_goAsTold
theorem dX9_use_0 : decode cX9_use 0 = .ok (.iload_n 1, 1) := by decide +kernel
theorem dX9_use_1 : decode cX9_use 1 = .ok (.invokestatic 159, 3) := by decide +kernel
theorem dX9_use_4 : decode cX9_use 4 = .ok (.ifCond .eq 15, 3) := by decide +kernel
theorem dX9_use_7 : decode cX9_use 7 = .ok (.iload_n 2, 1) := by decide +kernel
theorem dX9_use_8 : decode cX9_use 8 = .ok (.i2l, 1) := by decide +kernel
theorem dX9_use_9 : decode cX9_use 9 = .ok (.lconst 0, 1) := by decide +kernel
theorem dX9_use_10 : decode cX9_use 10 = .ok (.ldc2_w 188, 3) := by decide +kernel
theorem dX9_use_13 : decode cX9_use 13 = .ok (.invokestatic 49, 3) := by decide +kernel
theorem dX9_use_16 : decode cX9_use 16 = .ok (.ifCond .ne 5, 3) := by decide +kernel
theorem dX9_use_19 : decode cX9_use 19 = .ok (.iconst (-1), 1) := by decide +kernel
theorem dX9_use_20 : decode cX9_use 20 = .ok (.ireturn, 1) := by decide +kernel
theorem dX9_use_21 : decode cX9_use 21 = .ok (.aload_n 0, 1) := by decide +kernel
theorem dX9_use_22 : decode cX9_use 22 = .ok (.iload_n 1, 1) := by decide +kernel
theorem dX9_use_23 : decode cX9_use 23 = .ok (.invokevirtual 132, 3) := by decide +kernel
theorem dX9_use_26 : decode cX9_use 26 = .ok (.ifCond .ne 6, 3) := by decide +kernel
theorem dX9_use_29 : decode cX9_use 29 = .ok (.bipush (-2), 2) := by decide +kernel
theorem dX9_use_31 : decode cX9_use 31 = .ok (.ireturn, 1) := by decide +kernel
theorem dX9_use_32 : decode cX9_use 32 = .ok (.aload_n 0, 1) := by decide +kernel
theorem dX9_use_33 : decode cX9_use 33 = .ok (.iload_n 1, 1) := by decide +kernel
theorem dX9_use_34 : decode cX9_use 34 = .ok (.iload_n 2, 1) := by decide +kernel
theorem dX9_use_35 : decode cX9_use 35 = .ok (.invokevirtual 190, 3) := by decide +kernel
theorem dX9_use_38 : decode cX9_use 38 = .ok (.lconst 0, 1) := by decide +kernel
theorem dX9_use_39 : decode cX9_use 39 = .ok (.lstore_n 3, 1) := by decide +kernel
theorem dX9_use_40 : decode cX9_use 40 = .ok (.iconst 0, 1) := by decide +kernel
theorem dX9_use_41 : decode cX9_use 41 = .ok (.istore 5, 2) := by decide +kernel
theorem dX9_use_43 : decode cX9_use 43 = .ok (.iload 5, 2) := by decide +kernel
theorem dX9_use_45 : decode cX9_use 45 = .ok (.aload_n 0, 1) := by decide +kernel
theorem dX9_use_46 : decode cX9_use 46 = .ok (.getfield 16, 3) := by decide +kernel
theorem dX9_use_49 : decode cX9_use 49 = .ok (.sipush 298, 3) := by decide +kernel
theorem dX9_use_52 : decode cX9_use 52 = .ok (.iaload, 1) := by decide +kernel
theorem dX9_use_53 : decode cX9_use 53 = .ok (.if_icmp .gt 63, 3) := by decide +kernel
theorem dX9_use_56 : decode cX9_use 56 = .ok (.iconst 0, 1) := by decide +kernel
theorem dX9_use_57 : decode cX9_use 57 = .ok (.istore 6, 2) := by decide +kernel
theorem dX9_use_59 : decode cX9_use 59 = .ok (.iload 6, 2) := by decide +kernel
theorem dX9_use_61 : decode cX9_use 61 = .ok (.aload_n 0, 1) := by decide +kernel
theorem dX9_use_62 : decode cX9_use 62 = .ok (.getfield 16, 3) := by decide +kernel
theorem dX9_use_65 : decode cX9_use 65 = .ok (.sipush 299, 3) := by decide +kernel
theorem dX9_use_68 : decode cX9_use 68 = .ok (.iaload, 1) := by decide +kernel
theorem dX9_use_69 : decode cX9_use 69 = .ok (.if_icmp .gt 41, 3) := by decide +kernel
theorem dX9_use_72 : decode cX9_use 72 = .ok (.lload_n 3, 1) := by decide +kernel
theorem dX9_use_73 : decode cX9_use 73 = .ok (.aload_n 0, 1) := by decide +kernel
theorem dX9_use_74 : decode cX9_use 74 = .ok (.getfield 16, 3) := by decide +kernel
theorem dX9_use_77 : decode cX9_use 77 = .ok (.sipush 298, 3) := by decide +kernel
theorem dX9_use_80 : decode cX9_use 80 = .ok (.iaload, 1) := by decide +kernel
theorem dX9_use_81 : decode cX9_use 81 = .ok (.iload 5, 2) := by decide +kernel
theorem dX9_use_83 : decode cX9_use 83 = .ok (.isub, 1) := by decide +kernel
theorem dX9_use_84 : decode cX9_use 84 = .ok (.iload 6, 2) := by decide +kernel
theorem dX9_use_86 : decode cX9_use 86 = .ok (.iadd, 1) := by decide +kernel
theorem dX9_use_87 : decode cX9_use 87 = .ok (.i2l, 1) := by decide +kernel
theorem dX9_use_88 : decode cX9_use 88 = .ok (.aload_n 0, 1) := by decide +kernel
theorem dX9_use_89 : decode cX9_use 89 = .ok (.getfield 34, 3) := by decide +kernel
theorem dX9_use_92 : decode cX9_use 92 = .ok (.bipush 9, 2) := by decide +kernel
theorem dX9_use_94 : decode cX9_use 94 = .ok (.iload 5, 2) := by decide +kernel
theorem dX9_use_96 : decode cX9_use 96 = .ok (.imul, 1) := by decide +kernel
theorem dX9_use_97 : decode cX9_use 97 = .ok (.iload 6, 2) := by decide +kernel
theorem dX9_use_99 : decode cX9_use 99 = .ok (.iadd, 1) := by decide +kernel
theorem dX9_use_100 : decode cX9_use 100 = .ok (.laload, 1) := by decide +kernel
theorem dX9_use_101 : decode cX9_use 101 = .ok (.lmul, 1) := by decide +kernel
theorem dX9_use_102 : decode cX9_use 102 = .ok (.ladd, 1) := by decide +kernel
theorem dX9_use_103 : decode cX9_use 103 = .ok (.lstore_n 3, 1) := by decide +kernel
theorem dX9_use_104 : decode cX9_use 104 = .ok (.iinc 6 1, 3) := by decide +kernel
theorem dX9_use_107 : decode cX9_use 107 = .ok (.goto (-48), 3) := by decide +kernel
theorem dX9_use_110 : decode cX9_use 110 = .ok (.iinc 5 1, 3) := by decide +kernel
theorem dX9_use_113 : decode cX9_use 113 = .ok (.goto (-70), 3) := by decide +kernel
theorem dX9_use_116 : decode cX9_use 116 = .ok (.lload_n 3, 1) := by decide +kernel
theorem dX9_use_117 : decode cX9_use 117 = .ok (.ldc2_w 201, 3) := by decide +kernel
theorem dX9_use_120 : decode cX9_use 120 = .ok (.ldiv, 1) := by decide +kernel
theorem dX9_use_121 : decode cX9_use 121 = .ok (.l2i, 1) := by decide +kernel
theorem dX9_use_122 : decode cX9_use 122 = .ok (.ireturn, 1) := by decide +kernel
set_option maxRecDepth 20000 in
theorem ggX9_traders_X9_isMeaning : GoodIn wsX9_traders wsX9_isMeaning := goodIn_r _ [7, 8, 9, 10, 6, 11] (by decide +kernel) (by decide +kernel)
set_option maxRecDepth 20000 in
theorem gX9_traders_X9_isMeaning : GoodIn wsX9_traders (va_wsS RX9 159 yX9_isMeaning wsX9_isMeaning) := goodIn_app (goodIn_of _ (by decide +kernel)) ggX9_traders_X9_isMeaning
set_option maxRecDepth 20000 in
theorem ggX9_traders_X9_in : GoodIn wsX9_traders wsX9_in := goodIn_r _ [11] (by decide +kernel) (by decide +kernel)
set_option maxRecDepth 20000 in
theorem gX9_traders_X9_in : GoodIn wsX9_traders (va_wsS RX9 49 yX9_in wsX9_in) := goodIn_app (goodIn_of _ (by decide +kernel)) ggX9_traders_X9_in
set_option maxRecDepth 20000 in
theorem ggX9_traders_X9_isTold : GoodIn wsX9_traders wsX9_isTold := goodIn_r _ [15, 3, 16, 17, 6, 18, 74, 75, 76, 77, 78, 79, 80, 81, 82, 83, 84, 85, 86] (by decide +kernel) (by decide +kernel)
set_option maxRecDepth 20000 in
theorem gX9_traders_X9_isTold : GoodIn wsX9_traders (wsV RX9 132 RX9 yX9_isTold wsX9_isTold) := goodIn_app (goodIn_of _ (by decide +kernel)) ggX9_traders_X9_isTold
set_option maxRecDepth 20000 in
theorem ggX9_traders_X9_beginAt : GoodIn wsX9_traders wsX9_beginAt := goodIn_r _ [22, 23, 24, 74, 75, 76, 77, 78, 79, 80, 81, 82, 83, 84, 85, 86] (by decide +kernel) (by decide +kernel)
set_option maxRecDepth 20000 in
theorem gX9_traders_X9_beginAt : GoodIn wsX9_traders (wsV RX9 177 RX9 yX9_beginAt wsX9_beginAt) := goodIn_app (goodIn_of _ (by decide +kernel)) ggX9_traders_X9_beginAt
set_option maxRecDepth 20000 in
theorem ggX9_traders_X9_goOn : GoodIn wsX9_traders wsX9_goOn := goodIn_r _ [28, 29, 30, 31, 6, 32, 3, 33, 34, 35, 36, 37, 38, 16, 17, 18, 39, 40, 41, 42, 43, 44, 45, 46, 47, 48, 49, 50, 51, 52, 53, 54, 55, 56, 57, 58, 59, 60, 61, 62, 63, 64, 65, 66, 23, 2, 74, 75, 76, 77, 78, 79, 80, 81, 82, 83, 84, 85, 86] (by decide +kernel) (by decide +kernel)
set_option maxRecDepth 20000 in
theorem gX9_traders_X9_goOn : GoodIn wsX9_traders (wsV RX9 181 RX9 yX9_goOn wsX9_goOn) := goodIn_app (goodIn_of _ (by decide +kernel)) ggX9_traders_X9_goOn
set_option maxRecDepth 20000 in
theorem ggX9_traders_X9_wonBy : GoodIn wsX9_traders wsX9_wonBy := goodIn_r _ [70, 23, 74, 75, 76, 77, 78, 79, 80, 81, 82, 83, 84, 85, 86] (by decide +kernel) (by decide +kernel)
set_option maxRecDepth 20000 in
theorem gX9_traders_X9_wonBy : GoodIn wsX9_traders (wsV RX9 193 RX9 yX9_wonBy wsX9_wonBy) := goodIn_app (goodIn_of _ (by decide +kernel)) ggX9_traders_X9_wonBy
set_option maxRecDepth 20000 in
theorem ggX9_traders_X9_isEnough : GoodIn wsX9_traders wsX9_isEnough := goodIn_r _ [73, 2, 24] (by decide +kernel) (by decide +kernel)
set_option maxRecDepth 20000 in
theorem gX9_traders_X9_isEnough : GoodIn wsX9_traders (va_wsS RX9 197 yX9_isEnough wsX9_isEnough) := goodIn_app (goodIn_of _ (by decide +kernel)) ggX9_traders_X9_isEnough
theorem dX9_traders_0 : decode cX9_traders 0 = .ok (.iload_n 1, 1) := by decide +kernel
theorem dX9_traders_1 : decode cX9_traders 1 = .ok (.invokestatic 159, 3) := by decide +kernel
theorem dX9_traders_4 : decode cX9_traders 4 = .ok (.ifCond .eq 38, 3) := by decide +kernel
theorem dX9_traders_7 : decode cX9_traders 7 = .ok (.iload_n 2, 1) := by decide +kernel
theorem dX9_traders_8 : decode cX9_traders 8 = .ok (.i2l, 1) := by decide +kernel
theorem dX9_traders_9 : decode cX9_traders 9 = .ok (.lconst 0, 1) := by decide +kernel
theorem dX9_traders_10 : decode cX9_traders 10 = .ok (.ldc2_w 188, 3) := by decide +kernel
theorem dX9_traders_13 : decode cX9_traders 13 = .ok (.invokestatic 49, 3) := by decide +kernel
theorem dX9_traders_16 : decode cX9_traders 16 = .ok (.ifCond .eq 26, 3) := by decide +kernel
theorem dX9_traders_19 : decode cX9_traders 19 = .ok (.iload_n 3, 1) := by decide +kernel
theorem dX9_traders_20 : decode cX9_traders 20 = .ok (.i2l, 1) := by decide +kernel
theorem dX9_traders_21 : decode cX9_traders 21 = .ok (.lconst 0, 1) := by decide +kernel
theorem dX9_traders_22 : decode cX9_traders 22 = .ok (.lconst 1, 1) := by decide +kernel
theorem dX9_traders_23 : decode cX9_traders 23 = .ok (.invokestatic 49, 3) := by decide +kernel
theorem dX9_traders_26 : decode cX9_traders 26 = .ok (.ifCond .eq 16, 3) := by decide +kernel
theorem dX9_traders_29 : decode cX9_traders 29 = .ok (.iload 4, 2) := by decide +kernel
theorem dX9_traders_31 : decode cX9_traders 31 = .ok (.i2l, 1) := by decide +kernel
theorem dX9_traders_32 : decode cX9_traders 32 = .ok (.lconst 1, 1) := by decide +kernel
theorem dX9_traders_33 : decode cX9_traders 33 = .ok (.ldc2_w 168, 3) := by decide +kernel
theorem dX9_traders_36 : decode cX9_traders 36 = .ok (.invokestatic 49, 3) := by decide +kernel
theorem dX9_traders_39 : decode cX9_traders 39 = .ok (.ifCond .ne 5, 3) := by decide +kernel
theorem dX9_traders_42 : decode cX9_traders 42 = .ok (.iconst (-1), 1) := by decide +kernel
theorem dX9_traders_43 : decode cX9_traders 43 = .ok (.ireturn, 1) := by decide +kernel
theorem dX9_traders_44 : decode cX9_traders 44 = .ok (.aload_n 0, 1) := by decide +kernel
theorem dX9_traders_45 : decode cX9_traders 45 = .ok (.iload_n 1, 1) := by decide +kernel
theorem dX9_traders_46 : decode cX9_traders 46 = .ok (.invokevirtual 132, 3) := by decide +kernel
theorem dX9_traders_49 : decode cX9_traders 49 = .ok (.ifCond .ne 6, 3) := by decide +kernel
theorem dX9_traders_52 : decode cX9_traders 52 = .ok (.bipush (-2), 2) := by decide +kernel
theorem dX9_traders_54 : decode cX9_traders 54 = .ok (.ireturn, 1) := by decide +kernel
theorem dX9_traders_55 : decode cX9_traders 55 = .ok (.iconst 1, 1) := by decide +kernel
theorem dX9_traders_56 : decode cX9_traders 56 = .ok (.istore 5, 2) := by decide +kernel
theorem dX9_traders_58 : decode cX9_traders 58 = .ok (.iload 5, 2) := by decide +kernel
theorem dX9_traders_60 : decode cX9_traders 60 = .ok (.bipush 8, 2) := by decide +kernel
theorem dX9_traders_62 : decode cX9_traders 62 = .ok (.if_icmp .gt 61, 3) := by decide +kernel
theorem dX9_traders_65 : decode cX9_traders 65 = .ok (.aload_n 0, 1) := by decide +kernel
theorem dX9_traders_66 : decode cX9_traders 66 = .ok (.iconst 0, 1) := by decide +kernel
theorem dX9_traders_67 : decode cX9_traders 67 = .ok (.iconst 0, 1) := by decide +kernel
theorem dX9_traders_68 : decode cX9_traders 68 = .ok (.invokevirtual 177, 3) := by decide +kernel
theorem dX9_traders_71 : decode cX9_traders 71 = .ok (.aload_n 0, 1) := by decide +kernel
theorem dX9_traders_72 : decode cX9_traders 72 = .ok (.iload_n 1, 1) := by decide +kernel
theorem dX9_traders_73 : decode cX9_traders 73 = .ok (.iload_n 2, 1) := by decide +kernel
theorem dX9_traders_74 : decode cX9_traders 74 = .ok (.iload 5, 2) := by decide +kernel
theorem dX9_traders_76 : decode cX9_traders 76 = .ok (.iload 5, 2) := by decide +kernel
theorem dX9_traders_78 : decode cX9_traders 78 = .ok (.aload_n 0, 1) := by decide +kernel
theorem dX9_traders_79 : decode cX9_traders 79 = .ok (.getfield 16, 3) := by decide +kernel
theorem dX9_traders_82 : decode cX9_traders 82 = .ok (.sipush 300, 3) := by decide +kernel
theorem dX9_traders_85 : decode cX9_traders 85 = .ok (.iaload, 1) := by decide +kernel
theorem dX9_traders_86 : decode cX9_traders 86 = .ok (.aload_n 0, 1) := by decide +kernel
theorem dX9_traders_87 : decode cX9_traders 87 = .ok (.getfield 16, 3) := by decide +kernel
theorem dX9_traders_90 : decode cX9_traders 90 = .ok (.sipush 301, 3) := by decide +kernel
theorem dX9_traders_93 : decode cX9_traders 93 = .ok (.iaload, 1) := by decide +kernel
theorem dX9_traders_94 : decode cX9_traders 94 = .ok (.invokevirtual 181, 3) := by decide +kernel
theorem dX9_traders_97 : decode cX9_traders 97 = .ok (.aload_n 0, 1) := by decide +kernel
theorem dX9_traders_98 : decode cX9_traders 98 = .ok (.iload_n 3, 1) := by decide +kernel
theorem dX9_traders_99 : decode cX9_traders 99 = .ok (.iload 5, 2) := by decide +kernel
theorem dX9_traders_101 : decode cX9_traders 101 = .ok (.iload 5, 2) := by decide +kernel
theorem dX9_traders_103 : decode cX9_traders 103 = .ok (.invokevirtual 193, 3) := by decide +kernel
theorem dX9_traders_106 : decode cX9_traders 106 = .ok (.iload 4, 2) := by decide +kernel
theorem dX9_traders_108 : decode cX9_traders 108 = .ok (.invokestatic 197, 3) := by decide +kernel
theorem dX9_traders_111 : decode cX9_traders 111 = .ok (.ifCond .eq 6, 3) := by decide +kernel
theorem dX9_traders_114 : decode cX9_traders 114 = .ok (.iload 5, 2) := by decide +kernel
theorem dX9_traders_116 : decode cX9_traders 116 = .ok (.ireturn, 1) := by decide +kernel
theorem dX9_traders_117 : decode cX9_traders 117 = .ok (.iinc 5 1, 3) := by decide +kernel
theorem dX9_traders_120 : decode cX9_traders 120 = .ok (.goto (-62), 3) := by decide +kernel
theorem dX9_traders_123 : decode cX9_traders 123 = .ok (.bipush (-4), 2) := by decide +kernel
theorem dX9_traders_125 : decode cX9_traders 125 = .ok (.ireturn, 1) := by decide +kernel
set_option maxRecDepth 20000 in
theorem ggX9_ready_X9_isMeaning : GoodIn wsX9_ready wsX9_isMeaning := goodIn_r _ [8, 9, 10, 11, 7, 12] (by decide +kernel) (by decide +kernel)
set_option maxRecDepth 20000 in
theorem gX9_ready_X9_isMeaning : GoodIn wsX9_ready (va_wsS RX9 159 yX9_isMeaning wsX9_isMeaning) := goodIn_app (goodIn_of _ (by decide +kernel)) ggX9_ready_X9_isMeaning
set_option maxRecDepth 20000 in
theorem ggX9_ready_X9_in : GoodIn wsX9_ready wsX9_in := goodIn_r _ [12] (by decide +kernel) (by decide +kernel)
set_option maxRecDepth 20000 in
theorem gX9_ready_X9_in : GoodIn wsX9_ready (va_wsS RX9 49 yX9_in wsX9_in) := goodIn_app (goodIn_of _ (by decide +kernel)) ggX9_ready_X9_in
set_option maxRecDepth 20000 in
theorem ggX9_ready_X9_isTold : GoodIn wsX9_ready wsX9_isTold := goodIn_r _ [16, 4, 17, 18, 7, 19, 75, 76, 77, 78, 79, 80, 81, 82, 83, 84, 85, 86, 87] (by decide +kernel) (by decide +kernel)
set_option maxRecDepth 20000 in
theorem gX9_ready_X9_isTold : GoodIn wsX9_ready (wsV RX9 132 RX9 yX9_isTold wsX9_isTold) := goodIn_app (goodIn_of _ (by decide +kernel)) ggX9_ready_X9_isTold
set_option maxRecDepth 20000 in
theorem ggX9_ready_X9_beginAt : GoodIn wsX9_ready wsX9_beginAt := goodIn_r _ [23, 24, 25, 75, 76, 77, 78, 79, 80, 81, 82, 83, 84, 85, 86, 87] (by decide +kernel) (by decide +kernel)
set_option maxRecDepth 20000 in
theorem gX9_ready_X9_beginAt : GoodIn wsX9_ready (wsV RX9 177 RX9 yX9_beginAt wsX9_beginAt) := goodIn_app (goodIn_of _ (by decide +kernel)) ggX9_ready_X9_beginAt
set_option maxRecDepth 20000 in
theorem ggX9_ready_X9_goOn : GoodIn wsX9_ready wsX9_goOn := goodIn_r _ [29, 30, 31, 32, 7, 33, 4, 34, 35, 36, 37, 38, 39, 17, 18, 19, 40, 41, 42, 43, 44, 45, 46, 47, 48, 49, 50, 51, 52, 53, 54, 55, 56, 57, 58, 59, 60, 61, 62, 63, 64, 65, 66, 67, 24, 2, 75, 76, 77, 78, 79, 80, 81, 82, 83, 84, 85, 86, 87] (by decide +kernel) (by decide +kernel)
set_option maxRecDepth 20000 in
theorem gX9_ready_X9_goOn : GoodIn wsX9_ready (wsV RX9 181 RX9 yX9_goOn wsX9_goOn) := goodIn_app (goodIn_of _ (by decide +kernel)) ggX9_ready_X9_goOn
set_option maxRecDepth 20000 in
theorem ggX9_ready_X9_wonBy : GoodIn wsX9_ready wsX9_wonBy := goodIn_r _ [71, 24, 75, 76, 77, 78, 79, 80, 81, 82, 83, 84, 85, 86, 87] (by decide +kernel) (by decide +kernel)
set_option maxRecDepth 20000 in
theorem gX9_ready_X9_wonBy : GoodIn wsX9_ready (wsV RX9 193 RX9 yX9_wonBy wsX9_wonBy) := goodIn_app (goodIn_of _ (by decide +kernel)) ggX9_ready_X9_wonBy
set_option maxRecDepth 20000 in
theorem ggX9_ready_X9_isEnough : GoodIn wsX9_ready wsX9_isEnough := goodIn_r _ [74, 2, 25] (by decide +kernel) (by decide +kernel)
set_option maxRecDepth 20000 in
theorem gX9_ready_X9_isEnough : GoodIn wsX9_ready (va_wsS RX9 197 yX9_isEnough wsX9_isEnough) := goodIn_app (goodIn_of _ (by decide +kernel)) ggX9_ready_X9_isEnough
theorem dX9_ready_0 : decode cX9_ready 0 = .ok (.iload_n 1, 1) := by decide +kernel
theorem dX9_ready_1 : decode cX9_ready 1 = .ok (.invokestatic 159, 3) := by decide +kernel
theorem dX9_ready_4 : decode cX9_ready 4 = .ok (.ifCond .eq 38, 3) := by decide +kernel
theorem dX9_ready_7 : decode cX9_ready 7 = .ok (.iload_n 2, 1) := by decide +kernel
theorem dX9_ready_8 : decode cX9_ready 8 = .ok (.i2l, 1) := by decide +kernel
theorem dX9_ready_9 : decode cX9_ready 9 = .ok (.lconst 0, 1) := by decide +kernel
theorem dX9_ready_10 : decode cX9_ready 10 = .ok (.ldc2_w 188, 3) := by decide +kernel
theorem dX9_ready_13 : decode cX9_ready 13 = .ok (.invokestatic 49, 3) := by decide +kernel
theorem dX9_ready_16 : decode cX9_ready 16 = .ok (.ifCond .eq 26, 3) := by decide +kernel
theorem dX9_ready_19 : decode cX9_ready 19 = .ok (.iload_n 3, 1) := by decide +kernel
theorem dX9_ready_20 : decode cX9_ready 20 = .ok (.i2l, 1) := by decide +kernel
theorem dX9_ready_21 : decode cX9_ready 21 = .ok (.lconst 0, 1) := by decide +kernel
theorem dX9_ready_22 : decode cX9_ready 22 = .ok (.lconst 1, 1) := by decide +kernel
theorem dX9_ready_23 : decode cX9_ready 23 = .ok (.invokestatic 49, 3) := by decide +kernel
theorem dX9_ready_26 : decode cX9_ready 26 = .ok (.ifCond .eq 16, 3) := by decide +kernel
theorem dX9_ready_29 : decode cX9_ready 29 = .ok (.iload 4, 2) := by decide +kernel
theorem dX9_ready_31 : decode cX9_ready 31 = .ok (.i2l, 1) := by decide +kernel
theorem dX9_ready_32 : decode cX9_ready 32 = .ok (.lconst 1, 1) := by decide +kernel
theorem dX9_ready_33 : decode cX9_ready 33 = .ok (.ldc2_w 168, 3) := by decide +kernel
theorem dX9_ready_36 : decode cX9_ready 36 = .ok (.invokestatic 49, 3) := by decide +kernel
theorem dX9_ready_39 : decode cX9_ready 39 = .ok (.ifCond .ne 5, 3) := by decide +kernel
theorem dX9_ready_42 : decode cX9_ready 42 = .ok (.iconst (-1), 1) := by decide +kernel
theorem dX9_ready_43 : decode cX9_ready 43 = .ok (.ireturn, 1) := by decide +kernel
theorem dX9_ready_44 : decode cX9_ready 44 = .ok (.aload_n 0, 1) := by decide +kernel
theorem dX9_ready_45 : decode cX9_ready 45 = .ok (.iload_n 1, 1) := by decide +kernel
theorem dX9_ready_46 : decode cX9_ready 46 = .ok (.invokevirtual 132, 3) := by decide +kernel
theorem dX9_ready_49 : decode cX9_ready 49 = .ok (.ifCond .ne 6, 3) := by decide +kernel
theorem dX9_ready_52 : decode cX9_ready 52 = .ok (.bipush (-2), 2) := by decide +kernel
theorem dX9_ready_54 : decode cX9_ready 54 = .ok (.ireturn, 1) := by decide +kernel
theorem dX9_ready_55 : decode cX9_ready 55 = .ok (.iconst 0, 1) := by decide +kernel
theorem dX9_ready_56 : decode cX9_ready 56 = .ok (.istore 5, 2) := by decide +kernel
theorem dX9_ready_58 : decode cX9_ready 58 = .ok (.iload 5, 2) := by decide +kernel
theorem dX9_ready_60 : decode cX9_ready 60 = .ok (.bipush 10, 2) := by decide +kernel
theorem dX9_ready_62 : decode cX9_ready 62 = .ok (.if_icmp .gt 89, 3) := by decide +kernel
theorem dX9_ready_65 : decode cX9_ready 65 = .ok (.aload_n 0, 1) := by decide +kernel
theorem dX9_ready_66 : decode cX9_ready 66 = .ok (.aload_n 0, 1) := by decide +kernel
theorem dX9_ready_67 : decode cX9_ready 67 = .ok (.getfield 19, 3) := by decide +kernel
theorem dX9_ready_70 : decode cX9_ready 70 = .ok (.iconst 2, 1) := by decide +kernel
theorem dX9_ready_71 : decode cX9_ready 71 = .ok (.iload_n 1, 1) := by decide +kernel
theorem dX9_ready_72 : decode cX9_ready 72 = .ok (.imul, 1) := by decide +kernel
theorem dX9_ready_73 : decode cX9_ready 73 = .ok (.iaload, 1) := by decide +kernel
theorem dX9_ready_74 : decode cX9_ready 74 = .ok (.aload_n 0, 1) := by decide +kernel
theorem dX9_ready_75 : decode cX9_ready 75 = .ok (.getfield 19, 3) := by decide +kernel
theorem dX9_ready_78 : decode cX9_ready 78 = .ok (.iconst 2, 1) := by decide +kernel
theorem dX9_ready_79 : decode cX9_ready 79 = .ok (.iload_n 1, 1) := by decide +kernel
theorem dX9_ready_80 : decode cX9_ready 80 = .ok (.imul, 1) := by decide +kernel
theorem dX9_ready_81 : decode cX9_ready 81 = .ok (.iconst 1, 1) := by decide +kernel
theorem dX9_ready_82 : decode cX9_ready 82 = .ok (.iadd, 1) := by decide +kernel
theorem dX9_ready_83 : decode cX9_ready 83 = .ok (.iaload, 1) := by decide +kernel
theorem dX9_ready_84 : decode cX9_ready 84 = .ok (.invokevirtual 177, 3) := by decide +kernel
theorem dX9_ready_87 : decode cX9_ready 87 = .ok (.aload_n 0, 1) := by decide +kernel
theorem dX9_ready_88 : decode cX9_ready 88 = .ok (.iload_n 1, 1) := by decide +kernel
theorem dX9_ready_89 : decode cX9_ready 89 = .ok (.iload_n 2, 1) := by decide +kernel
theorem dX9_ready_90 : decode cX9_ready 90 = .ok (.aload_n 0, 1) := by decide +kernel
theorem dX9_ready_91 : decode cX9_ready 91 = .ok (.getfield 16, 3) := by decide +kernel
theorem dX9_ready_94 : decode cX9_ready 94 = .ok (.sipush 298, 3) := by decide +kernel
theorem dX9_ready_97 : decode cX9_ready 97 = .ok (.iaload, 1) := by decide +kernel
theorem dX9_ready_98 : decode cX9_ready 98 = .ok (.aload_n 0, 1) := by decide +kernel
theorem dX9_ready_99 : decode cX9_ready 99 = .ok (.getfield 16, 3) := by decide +kernel
theorem dX9_ready_102 : decode cX9_ready 102 = .ok (.sipush 299, 3) := by decide +kernel
theorem dX9_ready_105 : decode cX9_ready 105 = .ok (.iaload, 1) := by decide +kernel
theorem dX9_ready_106 : decode cX9_ready 106 = .ok (.iload 5, 2) := by decide +kernel
theorem dX9_ready_108 : decode cX9_ready 108 = .ok (.iload 5, 2) := by decide +kernel
theorem dX9_ready_110 : decode cX9_ready 110 = .ok (.invokevirtual 181, 3) := by decide +kernel
theorem dX9_ready_113 : decode cX9_ready 113 = .ok (.aload_n 0, 1) := by decide +kernel
theorem dX9_ready_114 : decode cX9_ready 114 = .ok (.iload_n 3, 1) := by decide +kernel
theorem dX9_ready_115 : decode cX9_ready 115 = .ok (.aload_n 0, 1) := by decide +kernel
theorem dX9_ready_116 : decode cX9_ready 116 = .ok (.getfield 16, 3) := by decide +kernel
theorem dX9_ready_119 : decode cX9_ready 119 = .ok (.sipush 298, 3) := by decide +kernel
theorem dX9_ready_122 : decode cX9_ready 122 = .ok (.iaload, 1) := by decide +kernel
theorem dX9_ready_123 : decode cX9_ready 123 = .ok (.aload_n 0, 1) := by decide +kernel
theorem dX9_ready_124 : decode cX9_ready 124 = .ok (.getfield 16, 3) := by decide +kernel
theorem dX9_ready_127 : decode cX9_ready 127 = .ok (.sipush 299, 3) := by decide +kernel
theorem dX9_ready_130 : decode cX9_ready 130 = .ok (.iaload, 1) := by decide +kernel
theorem dX9_ready_131 : decode cX9_ready 131 = .ok (.invokevirtual 193, 3) := by decide +kernel
theorem dX9_ready_134 : decode cX9_ready 134 = .ok (.iload 4, 2) := by decide +kernel
theorem dX9_ready_136 : decode cX9_ready 136 = .ok (.invokestatic 197, 3) := by decide +kernel
theorem dX9_ready_139 : decode cX9_ready 139 = .ok (.ifCond .eq 6, 3) := by decide +kernel
theorem dX9_ready_142 : decode cX9_ready 142 = .ok (.iload 5, 2) := by decide +kernel
theorem dX9_ready_144 : decode cX9_ready 144 = .ok (.ireturn, 1) := by decide +kernel
theorem dX9_ready_145 : decode cX9_ready 145 = .ok (.iinc 5 1, 3) := by decide +kernel
theorem dX9_ready_148 : decode cX9_ready 148 = .ok (.goto (-90), 3) := by decide +kernel
theorem dX9_ready_151 : decode cX9_ready 151 = .ok (.bipush (-4), 2) := by decide +kernel
theorem dX9_ready_153 : decode cX9_ready 153 = .ok (.ireturn, 1) := by decide +kernel
theorem dX9_draw_0 : decode cX9_draw 0 = .ok (.ldc2_w 203, 3) := by decide +kernel
theorem dX9_draw_3 : decode cX9_draw 3 = .ok (.iload_n 0, 1) := by decide +kernel
theorem dX9_draw_4 : decode cX9_draw 4 = .ok (.i2l, 1) := by decide +kernel
theorem dX9_draw_5 : decode cX9_draw 5 = .ok (.lmul, 1) := by decide +kernel
theorem dX9_draw_6 : decode cX9_draw 6 = .ok (.ldc2_w 205, 3) := by decide +kernel
theorem dX9_draw_9 : decode cX9_draw 9 = .ok (.iload_n 2, 1) := by decide +kernel
theorem dX9_draw_10 : decode cX9_draw 10 = .ok (.i2l, 1) := by decide +kernel
theorem dX9_draw_11 : decode cX9_draw 11 = .ok (.lmul, 1) := by decide +kernel
theorem dX9_draw_12 : decode cX9_draw 12 = .ok (.ladd, 1) := by decide +kernel
theorem dX9_draw_13 : decode cX9_draw 13 = .ok (.ldc2_w 207, 3) := by decide +kernel
theorem dX9_draw_16 : decode cX9_draw 16 = .ok (.iload_n 3, 1) := by decide +kernel
theorem dX9_draw_17 : decode cX9_draw 17 = .ok (.i2l, 1) := by decide +kernel
theorem dX9_draw_18 : decode cX9_draw 18 = .ok (.lmul, 1) := by decide +kernel
theorem dX9_draw_19 : decode cX9_draw 19 = .ok (.ladd, 1) := by decide +kernel
theorem dX9_draw_20 : decode cX9_draw 20 = .ok (.ldc2_w 209, 3) := by decide +kernel
theorem dX9_draw_23 : decode cX9_draw 23 = .ok (.iload_n 1, 1) := by decide +kernel
theorem dX9_draw_24 : decode cX9_draw 24 = .ok (.i2l, 1) := by decide +kernel
theorem dX9_draw_25 : decode cX9_draw 25 = .ok (.lmul, 1) := by decide +kernel
theorem dX9_draw_26 : decode cX9_draw 26 = .ok (.ladd, 1) := by decide +kernel
theorem dX9_draw_27 : decode cX9_draw 27 = .ok (.lconst 1, 1) := by decide +kernel
theorem dX9_draw_28 : decode cX9_draw 28 = .ok (.ladd, 1) := by decide +kernel
theorem dX9_draw_29 : decode cX9_draw 29 = .ok (.lstore 4, 2) := by decide +kernel
theorem dX9_draw_31 : decode cX9_draw 31 = .ok (.lload 4, 2) := by decide +kernel
theorem dX9_draw_33 : decode cX9_draw 33 = .ok (.lload 4, 2) := by decide +kernel
theorem dX9_draw_35 : decode cX9_draw 35 = .ok (.lmul, 1) := by decide +kernel
theorem dX9_draw_36 : decode cX9_draw 36 = .ok (.ldc2_w 211, 3) := by decide +kernel
theorem dX9_draw_39 : decode cX9_draw 39 = .ok (.lrem, 1) := by decide +kernel
theorem dX9_draw_40 : decode cX9_draw 40 = .ok (.l2i, 1) := by decide +kernel
theorem dX9_draw_41 : decode cX9_draw 41 = .ok (.ireturn, 1) := by decide +kernel
set_option maxRecDepth 20000 in
theorem ggX9_meetBy_X9_draw : GoodIn wsX9_meetBy wsX9_draw := goodIn_r _ [6, 7, 8, 9, 10, 11] (by decide +kernel) (by decide +kernel)
set_option maxRecDepth 20000 in
theorem gX9_meetBy_X9_draw : GoodIn wsX9_meetBy (va_wsS RX9 213 yX9_draw wsX9_draw) := goodIn_app (goodIn_of _ (by decide +kernel)) ggX9_meetBy_X9_draw
theorem dX9_meetBy_0 : decode cX9_meetBy 0 = .ok (.aload_n 0, 1) := by decide +kernel
theorem dX9_meetBy_1 : decode cX9_meetBy 1 = .ok (.getfield 19, 3) := by decide +kernel
theorem dX9_meetBy_4 : decode cX9_meetBy 4 = .ok (.iconst 2, 1) := by decide +kernel
theorem dX9_meetBy_5 : decode cX9_meetBy 5 = .ok (.iload_n 2, 1) := by decide +kernel
theorem dX9_meetBy_6 : decode cX9_meetBy 6 = .ok (.imul, 1) := by decide +kernel
theorem dX9_meetBy_7 : decode cX9_meetBy 7 = .ok (.iaload, 1) := by decide +kernel
theorem dX9_meetBy_8 : decode cX9_meetBy 8 = .ok (.istore 4, 2) := by decide +kernel
theorem dX9_meetBy_10 : decode cX9_meetBy 10 = .ok (.aload_n 0, 1) := by decide +kernel
theorem dX9_meetBy_11 : decode cX9_meetBy 11 = .ok (.getfield 19, 3) := by decide +kernel
theorem dX9_meetBy_14 : decode cX9_meetBy 14 = .ok (.iconst 2, 1) := by decide +kernel
theorem dX9_meetBy_15 : decode cX9_meetBy 15 = .ok (.iload_n 2, 1) := by decide +kernel
theorem dX9_meetBy_16 : decode cX9_meetBy 16 = .ok (.imul, 1) := by decide +kernel
theorem dX9_meetBy_17 : decode cX9_meetBy 17 = .ok (.iconst 1, 1) := by decide +kernel
theorem dX9_meetBy_18 : decode cX9_meetBy 18 = .ok (.iadd, 1) := by decide +kernel
theorem dX9_meetBy_19 : decode cX9_meetBy 19 = .ok (.iaload, 1) := by decide +kernel
theorem dX9_meetBy_20 : decode cX9_meetBy 20 = .ok (.istore 5, 2) := by decide +kernel
theorem dX9_meetBy_22 : decode cX9_meetBy 22 = .ok (.iload_n 1, 1) := by decide +kernel
theorem dX9_meetBy_23 : decode cX9_meetBy 23 = .ok (.iload_n 2, 1) := by decide +kernel
theorem dX9_meetBy_24 : decode cX9_meetBy 24 = .ok (.iload_n 3, 1) := by decide +kernel
theorem dX9_meetBy_25 : decode cX9_meetBy 25 = .ok (.iconst 1, 1) := by decide +kernel
theorem dX9_meetBy_26 : decode cX9_meetBy 26 = .ok (.invokestatic 213, 3) := by decide +kernel
theorem dX9_meetBy_29 : decode cX9_meetBy 29 = .ok (.bipush 10, 2) := by decide +kernel
theorem dX9_meetBy_31 : decode cX9_meetBy 31 = .ok (.irem, 1) := by decide +kernel
theorem dX9_meetBy_32 : decode cX9_meetBy 32 = .ok (.aload_n 0, 1) := by decide +kernel
theorem dX9_meetBy_33 : decode cX9_meetBy 33 = .ok (.getfield 16, 3) := by decide +kernel
theorem dX9_meetBy_36 : decode cX9_meetBy 36 = .ok (.sipush 302, 3) := by decide +kernel
theorem dX9_meetBy_39 : decode cX9_meetBy 39 = .ok (.iaload, 1) := by decide +kernel
theorem dX9_meetBy_40 : decode cX9_meetBy 40 = .ok (.if_icmp .ge 7, 3) := by decide +kernel
theorem dX9_meetBy_43 : decode cX9_meetBy 43 = .ok (.iconst 1, 1) := by decide +kernel
theorem dX9_meetBy_44 : decode cX9_meetBy 44 = .ok (.goto 4, 3) := by decide +kernel
theorem dX9_meetBy_47 : decode cX9_meetBy 47 = .ok (.iconst 0, 1) := by decide +kernel
theorem dX9_meetBy_48 : decode cX9_meetBy 48 = .ok (.istore 6, 2) := by decide +kernel
theorem dX9_meetBy_50 : decode cX9_meetBy 50 = .ok (.iload_n 1, 1) := by decide +kernel
theorem dX9_meetBy_51 : decode cX9_meetBy 51 = .ok (.iload_n 2, 1) := by decide +kernel
theorem dX9_meetBy_52 : decode cX9_meetBy 52 = .ok (.iload_n 3, 1) := by decide +kernel
theorem dX9_meetBy_53 : decode cX9_meetBy 53 = .ok (.iconst 2, 1) := by decide +kernel
theorem dX9_meetBy_54 : decode cX9_meetBy 54 = .ok (.invokestatic 213, 3) := by decide +kernel
theorem dX9_meetBy_57 : decode cX9_meetBy 57 = .ok (.aload_n 0, 1) := by decide +kernel
theorem dX9_meetBy_58 : decode cX9_meetBy 58 = .ok (.getfield 16, 3) := by decide +kernel
theorem dX9_meetBy_61 : decode cX9_meetBy 61 = .ok (.sipush 298, 3) := by decide +kernel
theorem dX9_meetBy_64 : decode cX9_meetBy 64 = .ok (.iaload, 1) := by decide +kernel
theorem dX9_meetBy_65 : decode cX9_meetBy 65 = .ok (.irem, 1) := by decide +kernel
theorem dX9_meetBy_66 : decode cX9_meetBy 66 = .ok (.iload 4, 2) := by decide +kernel
theorem dX9_meetBy_68 : decode cX9_meetBy 68 = .ok (.if_icmp .ge 7, 3) := by decide +kernel
theorem dX9_meetBy_71 : decode cX9_meetBy 71 = .ok (.iconst 1, 1) := by decide +kernel
theorem dX9_meetBy_72 : decode cX9_meetBy 72 = .ok (.goto 4, 3) := by decide +kernel
theorem dX9_meetBy_75 : decode cX9_meetBy 75 = .ok (.iconst 0, 1) := by decide +kernel
theorem dX9_meetBy_76 : decode cX9_meetBy 76 = .ok (.istore 7, 2) := by decide +kernel
theorem dX9_meetBy_78 : decode cX9_meetBy 78 = .ok (.iload_n 1, 1) := by decide +kernel
theorem dX9_meetBy_79 : decode cX9_meetBy 79 = .ok (.iload_n 2, 1) := by decide +kernel
theorem dX9_meetBy_80 : decode cX9_meetBy 80 = .ok (.iload_n 3, 1) := by decide +kernel
theorem dX9_meetBy_81 : decode cX9_meetBy 81 = .ok (.iconst 3, 1) := by decide +kernel
theorem dX9_meetBy_82 : decode cX9_meetBy 82 = .ok (.invokestatic 213, 3) := by decide +kernel
theorem dX9_meetBy_85 : decode cX9_meetBy 85 = .ok (.aload_n 0, 1) := by decide +kernel
theorem dX9_meetBy_86 : decode cX9_meetBy 86 = .ok (.getfield 16, 3) := by decide +kernel
theorem dX9_meetBy_89 : decode cX9_meetBy 89 = .ok (.sipush 299, 3) := by decide +kernel
theorem dX9_meetBy_92 : decode cX9_meetBy 92 = .ok (.iaload, 1) := by decide +kernel
theorem dX9_meetBy_93 : decode cX9_meetBy 93 = .ok (.irem, 1) := by decide +kernel
theorem dX9_meetBy_94 : decode cX9_meetBy 94 = .ok (.iload 5, 2) := by decide +kernel
theorem dX9_meetBy_96 : decode cX9_meetBy 96 = .ok (.if_icmp .ge 7, 3) := by decide +kernel
theorem dX9_meetBy_99 : decode cX9_meetBy 99 = .ok (.iconst 0, 1) := by decide +kernel
theorem dX9_meetBy_100 : decode cX9_meetBy 100 = .ok (.goto 4, 3) := by decide +kernel
theorem dX9_meetBy_103 : decode cX9_meetBy 103 = .ok (.iconst 1, 1) := by decide +kernel
theorem dX9_meetBy_104 : decode cX9_meetBy 104 = .ok (.istore 8, 2) := by decide +kernel
theorem dX9_meetBy_106 : decode cX9_meetBy 106 = .ok (.iload 7, 2) := by decide +kernel
theorem dX9_meetBy_108 : decode cX9_meetBy 108 = .ok (.iload 8, 2) := by decide +kernel
theorem dX9_meetBy_110 : decode cX9_meetBy 110 = .ok (.if_icmp .eq 39, 3) := by decide +kernel
theorem dX9_meetBy_113 : decode cX9_meetBy 113 = .ok (.iload_n 1, 1) := by decide +kernel
theorem dX9_meetBy_114 : decode cX9_meetBy 114 = .ok (.iload_n 2, 1) := by decide +kernel
theorem dX9_meetBy_115 : decode cX9_meetBy 115 = .ok (.iload_n 3, 1) := by decide +kernel
theorem dX9_meetBy_116 : decode cX9_meetBy 116 = .ok (.iconst 4, 1) := by decide +kernel
theorem dX9_meetBy_117 : decode cX9_meetBy 117 = .ok (.invokestatic 213, 3) := by decide +kernel
theorem dX9_meetBy_120 : decode cX9_meetBy 120 = .ok (.bipush 10, 2) := by decide +kernel
theorem dX9_meetBy_122 : decode cX9_meetBy 122 = .ok (.irem, 1) := by decide +kernel
theorem dX9_meetBy_123 : decode cX9_meetBy 123 = .ok (.aload_n 0, 1) := by decide +kernel
theorem dX9_meetBy_124 : decode cX9_meetBy 124 = .ok (.getfield 16, 3) := by decide +kernel
theorem dX9_meetBy_127 : decode cX9_meetBy 127 = .ok (.sipush 300, 3) := by decide +kernel
theorem dX9_meetBy_130 : decode cX9_meetBy 130 = .ok (.iload 6, 2) := by decide +kernel
theorem dX9_meetBy_132 : decode cX9_meetBy 132 = .ok (.ifCond .eq 7, 3) := by decide +kernel
theorem dX9_meetBy_135 : decode cX9_meetBy 135 = .ok (.iconst 1, 1) := by decide +kernel
theorem dX9_meetBy_136 : decode cX9_meetBy 136 = .ok (.goto 4, 3) := by decide +kernel
theorem dX9_meetBy_139 : decode cX9_meetBy 139 = .ok (.iconst 0, 1) := by decide +kernel
theorem dX9_meetBy_140 : decode cX9_meetBy 140 = .ok (.iadd, 1) := by decide +kernel
theorem dX9_meetBy_141 : decode cX9_meetBy 141 = .ok (.iaload, 1) := by decide +kernel
theorem dX9_meetBy_142 : decode cX9_meetBy 142 = .ok (.if_icmp .ge 7, 3) := by decide +kernel
theorem dX9_meetBy_145 : decode cX9_meetBy 145 = .ok (.iconst 1, 1) := by decide +kernel
theorem dX9_meetBy_146 : decode cX9_meetBy 146 = .ok (.goto 4, 3) := by decide +kernel
theorem dX9_meetBy_149 : decode cX9_meetBy 149 = .ok (.iconst 0, 1) := by decide +kernel
theorem dX9_meetBy_150 : decode cX9_meetBy 150 = .ok (.istore 9, 2) := by decide +kernel
theorem dX9_meetBy_152 : decode cX9_meetBy 152 = .ok (.iload 9, 2) := by decide +kernel
theorem dX9_meetBy_154 : decode cX9_meetBy 154 = .ok (.ifCond .eq 31, 3) := by decide +kernel
theorem dX9_meetBy_157 : decode cX9_meetBy 157 = .ok (.iload 6, 2) := by decide +kernel
theorem dX9_meetBy_159 : decode cX9_meetBy 159 = .ok (.ifCond .eq 26, 3) := by decide +kernel
theorem dX9_meetBy_162 : decode cX9_meetBy 162 = .ok (.aload_n 0, 1) := by decide +kernel
theorem dX9_meetBy_163 : decode cX9_meetBy 163 = .ok (.getfield 19, 3) := by decide +kernel
theorem dX9_meetBy_166 : decode cX9_meetBy 166 = .ok (.iconst 2, 1) := by decide +kernel
theorem dX9_meetBy_167 : decode cX9_meetBy 167 = .ok (.iload_n 2, 1) := by decide +kernel
theorem dX9_meetBy_168 : decode cX9_meetBy 168 = .ok (.imul, 1) := by decide +kernel
theorem dX9_meetBy_169 : decode cX9_meetBy 169 = .ok (.iconst 1, 1) := by decide +kernel
theorem dX9_meetBy_170 : decode cX9_meetBy 170 = .ok (.iadd, 1) := by decide +kernel
theorem dX9_meetBy_171 : decode cX9_meetBy 171 = .ok (.iload 5, 2) := by decide +kernel
theorem dX9_meetBy_173 : decode cX9_meetBy 173 = .ok (.iload 7, 2) := by decide +kernel
theorem dX9_meetBy_175 : decode cX9_meetBy 175 = .ok (.ifCond .ne 7, 3) := by decide +kernel
theorem dX9_meetBy_178 : decode cX9_meetBy 178 = .ok (.iconst 1, 1) := by decide +kernel
theorem dX9_meetBy_179 : decode cX9_meetBy 179 = .ok (.goto 4, 3) := by decide +kernel
theorem dX9_meetBy_182 : decode cX9_meetBy 182 = .ok (.iconst (-1), 1) := by decide +kernel
theorem dX9_meetBy_183 : decode cX9_meetBy 183 = .ok (.iadd, 1) := by decide +kernel
theorem dX9_meetBy_184 : decode cX9_meetBy 184 = .ok (.iastore, 1) := by decide +kernel
theorem dX9_meetBy_185 : decode cX9_meetBy 185 = .ok (.iload 9, 2) := by decide +kernel
theorem dX9_meetBy_187 : decode cX9_meetBy 187 = .ok (.ifCond .eq 30, 3) := by decide +kernel
theorem dX9_meetBy_190 : decode cX9_meetBy 190 = .ok (.iload 6, 2) := by decide +kernel
theorem dX9_meetBy_192 : decode cX9_meetBy 192 = .ok (.ifCond .ne 25, 3) := by decide +kernel
theorem dX9_meetBy_195 : decode cX9_meetBy 195 = .ok (.aload_n 0, 1) := by decide +kernel
theorem dX9_meetBy_196 : decode cX9_meetBy 196 = .ok (.getfield 19, 3) := by decide +kernel
theorem dX9_meetBy_199 : decode cX9_meetBy 199 = .ok (.iconst 2, 1) := by decide +kernel
theorem dX9_meetBy_200 : decode cX9_meetBy 200 = .ok (.iload_n 2, 1) := by decide +kernel
theorem dX9_meetBy_201 : decode cX9_meetBy 201 = .ok (.imul, 1) := by decide +kernel
theorem dX9_meetBy_202 : decode cX9_meetBy 202 = .ok (.iload 4, 2) := by decide +kernel
theorem dX9_meetBy_204 : decode cX9_meetBy 204 = .ok (.iload 8, 2) := by decide +kernel
theorem dX9_meetBy_206 : decode cX9_meetBy 206 = .ok (.iconst 1, 1) := by decide +kernel
theorem dX9_meetBy_207 : decode cX9_meetBy 207 = .ok (.if_icmp .ne 7, 3) := by decide +kernel
theorem dX9_meetBy_210 : decode cX9_meetBy 210 = .ok (.iconst 1, 1) := by decide +kernel
theorem dX9_meetBy_211 : decode cX9_meetBy 211 = .ok (.goto 4, 3) := by decide +kernel
theorem dX9_meetBy_214 : decode cX9_meetBy 214 = .ok (.iconst (-1), 1) := by decide +kernel
theorem dX9_meetBy_215 : decode cX9_meetBy 215 = .ok (.iadd, 1) := by decide +kernel
theorem dX9_meetBy_216 : decode cX9_meetBy 216 = .ok (.iastore, 1) := by decide +kernel
theorem dX9_meetBy_217 : decode cX9_meetBy 217 = .ok (.return_, 1) := by decide +kernel
set_option maxRecDepth 20000 in
theorem ggX9_tongueBy_X9_isTold : GoodIn wsX9_tongueBy wsX9_isTold := goodIn_r _ [7, 2, 8, 9, 6, 10, 44, 45, 46, 47, 48, 49, 50, 51, 52, 53, 54, 55, 56] (by decide +kernel) (by decide +kernel)
set_option maxRecDepth 20000 in
theorem gX9_tongueBy_X9_isTold : GoodIn wsX9_tongueBy (wsV RX9 132 RX9 yX9_isTold wsX9_isTold) := goodIn_app (goodIn_of _ (by decide +kernel)) ggX9_tongueBy_X9_isTold
set_option maxRecDepth 20000 in
theorem ggX9_tongueBy_X9_isAlike : GoodIn wsX9_tongueBy wsX9_isAlike := goodIn_r _ [14, 2, 15, 16, 17, 6, 18, 19, 20, 8, 9, 10, 21, 22, 23, 24, 25, 26, 27, 28, 29, 30, 31, 32, 33, 34, 35, 36, 37, 38, 39, 40, 41, 42, 43, 44, 45, 46, 47, 48, 49, 50, 51, 52, 53, 54, 55, 56] (by decide +kernel) (by decide +kernel)
set_option maxRecDepth 20000 in
theorem gX9_tongueBy_X9_isAlike : GoodIn wsX9_tongueBy (wsV RX9 170 RX9 yX9_isAlike wsX9_isAlike) := goodIn_app (goodIn_of _ (by decide +kernel)) ggX9_tongueBy_X9_isAlike
theorem dX9_tongueBy_0 : decode cX9_tongueBy 0 = .ok (.iconst 0, 1) := by decide +kernel
theorem dX9_tongueBy_1 : decode cX9_tongueBy 1 = .ok (.istore_n 2, 1) := by decide +kernel
theorem dX9_tongueBy_2 : decode cX9_tongueBy 2 = .ok (.iconst 0, 1) := by decide +kernel
theorem dX9_tongueBy_3 : decode cX9_tongueBy 3 = .ok (.istore_n 3, 1) := by decide +kernel
theorem dX9_tongueBy_4 : decode cX9_tongueBy 4 = .ok (.iload_n 3, 1) := by decide +kernel
theorem dX9_tongueBy_5 : decode cX9_tongueBy 5 = .ok (.bipush 8, 2) := by decide +kernel
theorem dX9_tongueBy_7 : decode cX9_tongueBy 7 = .ok (.if_icmp .ge 117, 3) := by decide +kernel
theorem dX9_tongueBy_10 : decode cX9_tongueBy 10 = .ok (.aload_n 0, 1) := by decide +kernel
theorem dX9_tongueBy_11 : decode cX9_tongueBy 11 = .ok (.getfield 19, 3) := by decide +kernel
theorem dX9_tongueBy_14 : decode cX9_tongueBy 14 = .ok (.iconst 2, 1) := by decide +kernel
theorem dX9_tongueBy_15 : decode cX9_tongueBy 15 = .ok (.iload_n 3, 1) := by decide +kernel
theorem dX9_tongueBy_16 : decode cX9_tongueBy 16 = .ok (.imul, 1) := by decide +kernel
theorem dX9_tongueBy_17 : decode cX9_tongueBy 17 = .ok (.iaload, 1) := by decide +kernel
theorem dX9_tongueBy_18 : decode cX9_tongueBy 18 = .ok (.istore 4, 2) := by decide +kernel
theorem dX9_tongueBy_20 : decode cX9_tongueBy 20 = .ok (.aload_n 0, 1) := by decide +kernel
theorem dX9_tongueBy_21 : decode cX9_tongueBy 21 = .ok (.getfield 19, 3) := by decide +kernel
theorem dX9_tongueBy_24 : decode cX9_tongueBy 24 = .ok (.iconst 2, 1) := by decide +kernel
theorem dX9_tongueBy_25 : decode cX9_tongueBy 25 = .ok (.iload_n 3, 1) := by decide +kernel
theorem dX9_tongueBy_26 : decode cX9_tongueBy 26 = .ok (.imul, 1) := by decide +kernel
theorem dX9_tongueBy_27 : decode cX9_tongueBy 27 = .ok (.iconst 1, 1) := by decide +kernel
theorem dX9_tongueBy_28 : decode cX9_tongueBy 28 = .ok (.iadd, 1) := by decide +kernel
theorem dX9_tongueBy_29 : decode cX9_tongueBy 29 = .ok (.iaload, 1) := by decide +kernel
theorem dX9_tongueBy_30 : decode cX9_tongueBy 30 = .ok (.istore 5, 2) := by decide +kernel
theorem dX9_tongueBy_32 : decode cX9_tongueBy 32 = .ok (.iload_n 1, 1) := by decide +kernel
theorem dX9_tongueBy_33 : decode cX9_tongueBy 33 = .ok (.ifCond .ne 29, 3) := by decide +kernel
theorem dX9_tongueBy_36 : decode cX9_tongueBy 36 = .ok (.iload 4, 2) := by decide +kernel
theorem dX9_tongueBy_38 : decode cX9_tongueBy 38 = .ok (.ifCond .ne 20, 3) := by decide +kernel
theorem dX9_tongueBy_41 : decode cX9_tongueBy 41 = .ok (.iload 5, 2) := by decide +kernel
theorem dX9_tongueBy_43 : decode cX9_tongueBy 43 = .ok (.aload_n 0, 1) := by decide +kernel
theorem dX9_tongueBy_44 : decode cX9_tongueBy 44 = .ok (.getfield 16, 3) := by decide +kernel
theorem dX9_tongueBy_47 : decode cX9_tongueBy 47 = .ok (.sipush 299, 3) := by decide +kernel
theorem dX9_tongueBy_50 : decode cX9_tongueBy 50 = .ok (.iaload, 1) := by decide +kernel
theorem dX9_tongueBy_51 : decode cX9_tongueBy 51 = .ok (.if_icmp .ne 7, 3) := by decide +kernel
theorem dX9_tongueBy_54 : decode cX9_tongueBy 54 = .ok (.iconst 1, 1) := by decide +kernel
theorem dX9_tongueBy_55 : decode cX9_tongueBy 55 = .ok (.goto 30, 3) := by decide +kernel
theorem dX9_tongueBy_58 : decode cX9_tongueBy 58 = .ok (.iconst 0, 1) := by decide +kernel
theorem dX9_tongueBy_59 : decode cX9_tongueBy 59 = .ok (.goto 26, 3) := by decide +kernel
theorem dX9_tongueBy_62 : decode cX9_tongueBy 62 = .ok (.iload 4, 2) := by decide +kernel
theorem dX9_tongueBy_64 : decode cX9_tongueBy 64 = .ok (.aload_n 0, 1) := by decide +kernel
theorem dX9_tongueBy_65 : decode cX9_tongueBy 65 = .ok (.getfield 16, 3) := by decide +kernel
theorem dX9_tongueBy_68 : decode cX9_tongueBy 68 = .ok (.sipush 298, 3) := by decide +kernel
theorem dX9_tongueBy_71 : decode cX9_tongueBy 71 = .ok (.iaload, 1) := by decide +kernel
theorem dX9_tongueBy_72 : decode cX9_tongueBy 72 = .ok (.if_icmp .ne 12, 3) := by decide +kernel
theorem dX9_tongueBy_75 : decode cX9_tongueBy 75 = .ok (.iload 5, 2) := by decide +kernel
theorem dX9_tongueBy_77 : decode cX9_tongueBy 77 = .ok (.ifCond .ne 7, 3) := by decide +kernel
theorem dX9_tongueBy_80 : decode cX9_tongueBy 80 = .ok (.iconst 1, 1) := by decide +kernel
theorem dX9_tongueBy_81 : decode cX9_tongueBy 81 = .ok (.goto 4, 3) := by decide +kernel
theorem dX9_tongueBy_84 : decode cX9_tongueBy 84 = .ok (.iconst 0, 1) := by decide +kernel
theorem dX9_tongueBy_85 : decode cX9_tongueBy 85 = .ok (.istore 6, 2) := by decide +kernel
theorem dX9_tongueBy_87 : decode cX9_tongueBy 87 = .ok (.iload_n 2, 1) := by decide +kernel
theorem dX9_tongueBy_88 : decode cX9_tongueBy 88 = .ok (.aload_n 0, 1) := by decide +kernel
theorem dX9_tongueBy_89 : decode cX9_tongueBy 89 = .ok (.iload_n 3, 1) := by decide +kernel
theorem dX9_tongueBy_90 : decode cX9_tongueBy 90 = .ok (.invokevirtual 132, 3) := by decide +kernel
theorem dX9_tongueBy_93 : decode cX9_tongueBy 93 = .ok (.ifCond .eq 22, 3) := by decide +kernel
theorem dX9_tongueBy_96 : decode cX9_tongueBy 96 = .ok (.iload 6, 2) := by decide +kernel
theorem dX9_tongueBy_98 : decode cX9_tongueBy 98 = .ok (.ifCond .ne 11, 3) := by decide +kernel
theorem dX9_tongueBy_101 : decode cX9_tongueBy 101 = .ok (.aload_n 0, 1) := by decide +kernel
theorem dX9_tongueBy_102 : decode cX9_tongueBy 102 = .ok (.iload_n 3, 1) := by decide +kernel
theorem dX9_tongueBy_103 : decode cX9_tongueBy 103 = .ok (.invokevirtual 170, 3) := by decide +kernel
theorem dX9_tongueBy_106 : decode cX9_tongueBy 106 = .ok (.ifCond .eq 9, 3) := by decide +kernel
theorem dX9_tongueBy_109 : decode cX9_tongueBy 109 = .ok (.iconst 1, 1) := by decide +kernel
theorem dX9_tongueBy_110 : decode cX9_tongueBy 110 = .ok (.iload_n 3, 1) := by decide +kernel
theorem dX9_tongueBy_111 : decode cX9_tongueBy 111 = .ok (.ishl, 1) := by decide +kernel
theorem dX9_tongueBy_112 : decode cX9_tongueBy 112 = .ok (.goto 4, 3) := by decide +kernel
theorem dX9_tongueBy_115 : decode cX9_tongueBy 115 = .ok (.iconst 0, 1) := by decide +kernel
theorem dX9_tongueBy_116 : decode cX9_tongueBy 116 = .ok (.ior, 1) := by decide +kernel
theorem dX9_tongueBy_117 : decode cX9_tongueBy 117 = .ok (.istore_n 2, 1) := by decide +kernel
theorem dX9_tongueBy_118 : decode cX9_tongueBy 118 = .ok (.iinc 3 1, 3) := by decide +kernel
theorem dX9_tongueBy_121 : decode cX9_tongueBy 121 = .ok (.goto (-117), 3) := by decide +kernel
theorem dX9_tongueBy_124 : decode cX9_tongueBy 124 = .ok (.iload_n 2, 1) := by decide +kernel
theorem dX9_tongueBy_125 : decode cX9_tongueBy 125 = .ok (.ireturn, 1) := by decide +kernel
set_option maxRecDepth 20000 in
theorem ggX9_summer_X9_in : GoodIn wsX9_summer wsX9_in := goodIn_r _ [6] (by decide +kernel) (by decide +kernel)
set_option maxRecDepth 20000 in
theorem gX9_summer_X9_in : GoodIn wsX9_summer (va_wsS RX9 49 yX9_in wsX9_in) := goodIn_app (goodIn_of _ (by decide +kernel)) ggX9_summer_X9_in
set_option maxRecDepth 20000 in
theorem ggX9_summer_X9_isTold : GoodIn wsX9_summer wsX9_isTold := goodIn_r _ [10, 11, 12, 13, 5, 14, 68, 69, 70, 71, 72, 73, 74, 75, 76, 77, 78, 79, 80] (by decide +kernel) (by decide +kernel)
set_option maxRecDepth 20000 in
theorem gX9_summer_X9_isTold : GoodIn wsX9_summer (wsV RX9 132 RX9 yX9_isTold wsX9_isTold) := goodIn_app (goodIn_of _ (by decide +kernel)) ggX9_summer_X9_isTold
set_option maxRecDepth 20000 in
theorem ggX9_summer_X9_isAlike : GoodIn wsX9_summer wsX9_isAlike := goodIn_r _ [18, 11, 19, 20, 21, 5, 22, 23, 24, 12, 13, 14, 25, 26, 27, 28, 29, 30, 31, 32, 33, 34, 35, 36, 37, 38, 39, 40, 41, 42, 43, 44, 45, 46, 47, 68, 69, 70, 71, 72, 73, 74, 75, 76, 77, 78, 79, 80] (by decide +kernel) (by decide +kernel)
set_option maxRecDepth 20000 in
theorem gX9_summer_X9_isAlike : GoodIn wsX9_summer (wsV RX9 170 RX9 yX9_isAlike wsX9_isAlike) := goodIn_app (goodIn_of _ (by decide +kernel)) ggX9_summer_X9_isAlike
set_option maxRecDepth 20000 in
theorem ggX9_summer_X9_meetBy : GoodIn wsX9_summer wsX9_meetBy := goodIn_r _ [51, 52, 11, 53, 54, 5, 55, 56, 57, 58, 59, 60, 68, 69, 70, 71, 72, 73, 74, 75, 76, 77, 78, 79, 80] (by decide +kernel) (by decide +kernel)
set_option maxRecDepth 20000 in
theorem gX9_summer_X9_meetBy : GoodIn wsX9_summer (wsV RX9 221 RX9 yX9_meetBy wsX9_meetBy) := goodIn_app (goodIn_of _ (by decide +kernel)) ggX9_summer_X9_meetBy
set_option maxRecDepth 20000 in
theorem ggX9_summer_X9_tongueBy : GoodIn wsX9_summer wsX9_tongueBy := goodIn_r _ [64, 52, 11, 7, 8, 9, 5, 10, 12, 13, 14, 15, 16, 17, 18, 19, 20, 21, 22, 23, 24, 25, 26, 27, 28, 29, 30, 31, 32, 33, 34, 35, 36, 37, 38, 39, 40, 41, 42, 43, 44, 45, 46, 47, 68, 69, 70, 71, 72, 73, 74, 75, 76, 77, 78, 79, 80] (by decide +kernel) (by decide +kernel)
set_option maxRecDepth 20000 in
theorem gX9_summer_X9_tongueBy : GoodIn wsX9_summer (wsV RX9 225 RX9 yX9_tongueBy wsX9_tongueBy) := goodIn_app (goodIn_of _ (by decide +kernel)) ggX9_summer_X9_tongueBy
set_option maxRecDepth 20000 in
theorem ggX9_summer_X9_ones : GoodIn wsX9_summer wsX9_ones := goodIn_r _ [67] (by decide +kernel) (by decide +kernel)
set_option maxRecDepth 20000 in
theorem gX9_summer_X9_ones : GoodIn wsX9_summer (va_wsS RX9 125 yX9_ones wsX9_ones) := goodIn_app (goodIn_of _ (by decide +kernel)) ggX9_summer_X9_ones
theorem dX9_summer_0 : decode cX9_summer 0 = .ok (.iload_n 1, 1) := by decide +kernel
theorem dX9_summer_1 : decode cX9_summer 1 = .ok (.i2l, 1) := by decide +kernel
theorem dX9_summer_2 : decode cX9_summer 2 = .ok (.lconst 0, 1) := by decide +kernel
theorem dX9_summer_3 : decode cX9_summer 3 = .ok (.ldc2_w 217, 3) := by decide +kernel
theorem dX9_summer_6 : decode cX9_summer 6 = .ok (.invokestatic 49, 3) := by decide +kernel
theorem dX9_summer_9 : decode cX9_summer 9 = .ok (.ifCond .eq 15, 3) := by decide +kernel
theorem dX9_summer_12 : decode cX9_summer 12 = .ok (.iload_n 2, 1) := by decide +kernel
theorem dX9_summer_13 : decode cX9_summer 13 = .ok (.i2l, 1) := by decide +kernel
theorem dX9_summer_14 : decode cX9_summer 14 = .ok (.lconst 1, 1) := by decide +kernel
theorem dX9_summer_15 : decode cX9_summer 15 = .ok (.ldc2_w 219, 3) := by decide +kernel
theorem dX9_summer_18 : decode cX9_summer 18 = .ok (.invokestatic 49, 3) := by decide +kernel
theorem dX9_summer_21 : decode cX9_summer 21 = .ok (.ifCond .ne 5, 3) := by decide +kernel
theorem dX9_summer_24 : decode cX9_summer 24 = .ok (.iconst (-1), 1) := by decide +kernel
theorem dX9_summer_25 : decode cX9_summer 25 = .ok (.ireturn, 1) := by decide +kernel
theorem dX9_summer_26 : decode cX9_summer 26 = .ok (.iconst 0, 1) := by decide +kernel
theorem dX9_summer_27 : decode cX9_summer 27 = .ok (.istore_n 3, 1) := by decide +kernel
theorem dX9_summer_28 : decode cX9_summer 28 = .ok (.iload_n 3, 1) := by decide +kernel
theorem dX9_summer_29 : decode cX9_summer 29 = .ok (.bipush 8, 2) := by decide +kernel
theorem dX9_summer_31 : decode cX9_summer 31 = .ok (.if_icmp .ge 60, 3) := by decide +kernel
theorem dX9_summer_34 : decode cX9_summer 34 = .ok (.aload_n 0, 1) := by decide +kernel
theorem dX9_summer_35 : decode cX9_summer 35 = .ok (.iload_n 3, 1) := by decide +kernel
theorem dX9_summer_36 : decode cX9_summer 36 = .ok (.invokevirtual 132, 3) := by decide +kernel
theorem dX9_summer_39 : decode cX9_summer 39 = .ok (.ifCond .eq 15, 3) := by decide +kernel
theorem dX9_summer_42 : decode cX9_summer 42 = .ok (.aload_n 0, 1) := by decide +kernel
theorem dX9_summer_43 : decode cX9_summer 43 = .ok (.iload_n 3, 1) := by decide +kernel
theorem dX9_summer_44 : decode cX9_summer 44 = .ok (.invokevirtual 170, 3) := by decide +kernel
theorem dX9_summer_47 : decode cX9_summer 47 = .ok (.ifCond .ne 7, 3) := by decide +kernel
theorem dX9_summer_50 : decode cX9_summer 50 = .ok (.iconst 1, 1) := by decide +kernel
theorem dX9_summer_51 : decode cX9_summer 51 = .ok (.goto 4, 3) := by decide +kernel
theorem dX9_summer_54 : decode cX9_summer 54 = .ok (.iconst 0, 1) := by decide +kernel
theorem dX9_summer_55 : decode cX9_summer 55 = .ok (.istore 4, 2) := by decide +kernel
theorem dX9_summer_57 : decode cX9_summer 57 = .ok (.iconst 0, 1) := by decide +kernel
theorem dX9_summer_58 : decode cX9_summer 58 = .ok (.istore 5, 2) := by decide +kernel
theorem dX9_summer_60 : decode cX9_summer 60 = .ok (.iload 5, 2) := by decide +kernel
theorem dX9_summer_62 : decode cX9_summer 62 = .ok (.iload_n 2, 1) := by decide +kernel
theorem dX9_summer_63 : decode cX9_summer 63 = .ok (.if_icmp .ge 22, 3) := by decide +kernel
theorem dX9_summer_66 : decode cX9_summer 66 = .ok (.iload 4, 2) := by decide +kernel
theorem dX9_summer_68 : decode cX9_summer 68 = .ok (.ifCond .eq 17, 3) := by decide +kernel
theorem dX9_summer_71 : decode cX9_summer 71 = .ok (.aload_n 0, 1) := by decide +kernel
theorem dX9_summer_72 : decode cX9_summer 72 = .ok (.iload_n 1, 1) := by decide +kernel
theorem dX9_summer_73 : decode cX9_summer 73 = .ok (.iload_n 3, 1) := by decide +kernel
theorem dX9_summer_74 : decode cX9_summer 74 = .ok (.iload 5, 2) := by decide +kernel
theorem dX9_summer_76 : decode cX9_summer 76 = .ok (.invokevirtual 221, 3) := by decide +kernel
theorem dX9_summer_79 : decode cX9_summer 79 = .ok (.iinc 5 1, 3) := by decide +kernel
theorem dX9_summer_82 : decode cX9_summer 82 = .ok (.goto (-22), 3) := by decide +kernel
theorem dX9_summer_85 : decode cX9_summer 85 = .ok (.iinc 3 1, 3) := by decide +kernel
theorem dX9_summer_88 : decode cX9_summer 88 = .ok (.goto (-60), 3) := by decide +kernel
theorem dX9_summer_91 : decode cX9_summer 91 = .ok (.aload_n 0, 1) := by decide +kernel
theorem dX9_summer_92 : decode cX9_summer 92 = .ok (.iconst 0, 1) := by decide +kernel
theorem dX9_summer_93 : decode cX9_summer 93 = .ok (.invokevirtual 225, 3) := by decide +kernel
theorem dX9_summer_96 : decode cX9_summer 96 = .ok (.aload_n 0, 1) := by decide +kernel
theorem dX9_summer_97 : decode cX9_summer 97 = .ok (.iconst 1, 1) := by decide +kernel
theorem dX9_summer_98 : decode cX9_summer 98 = .ok (.invokevirtual 225, 3) := by decide +kernel
theorem dX9_summer_101 : decode cX9_summer 101 = .ok (.ior, 1) := by decide +kernel
theorem dX9_summer_102 : decode cX9_summer 102 = .ok (.invokestatic 125, 3) := by decide +kernel
theorem dX9_summer_105 : decode cX9_summer 105 = .ok (.ireturn, 1) := by decide +kernel
set_option maxRecDepth 20000 in
theorem ggX9_tongue_X9_in : GoodIn wsX9_tongue wsX9_in := goodIn_r _ [4] (by decide +kernel) (by decide +kernel)
set_option maxRecDepth 20000 in
theorem gX9_tongue_X9_in : GoodIn wsX9_tongue (va_wsS RX9 49 yX9_in wsX9_in) := goodIn_app (goodIn_of _ (by decide +kernel)) ggX9_tongue_X9_in
set_option maxRecDepth 20000 in
theorem ggX9_tongue_X9_tongueBy : GoodIn wsX9_tongue wsX9_tongueBy := goodIn_r _ [8, 9, 10, 11, 12, 13, 3, 14, 15, 16, 17, 18, 19, 20, 21, 22, 23, 24, 25, 26, 27, 28, 29, 30, 31, 32, 33, 34, 35, 36, 37, 38, 39, 40, 41, 42, 43, 44, 45, 46, 47, 48, 49, 50, 51, 52, 53, 54, 55, 56, 57, 58, 59, 60, 61, 62, 63] (by decide +kernel) (by decide +kernel)
set_option maxRecDepth 20000 in
theorem gX9_tongue_X9_tongueBy : GoodIn wsX9_tongue (wsV RX9 225 RX9 yX9_tongueBy wsX9_tongueBy) := goodIn_app (goodIn_of _ (by decide +kernel)) ggX9_tongue_X9_tongueBy
theorem dX9_tongue_0 : decode cX9_tongue 0 = .ok (.iload_n 1, 1) := by decide +kernel
theorem dX9_tongue_1 : decode cX9_tongue 1 = .ok (.i2l, 1) := by decide +kernel
theorem dX9_tongue_2 : decode cX9_tongue 2 = .ok (.lconst 0, 1) := by decide +kernel
theorem dX9_tongue_3 : decode cX9_tongue 3 = .ok (.lconst 1, 1) := by decide +kernel
theorem dX9_tongue_4 : decode cX9_tongue 4 = .ok (.invokestatic 49, 3) := by decide +kernel
theorem dX9_tongue_7 : decode cX9_tongue 7 = .ok (.ifCond .eq 11, 3) := by decide +kernel
theorem dX9_tongue_10 : decode cX9_tongue 10 = .ok (.aload_n 0, 1) := by decide +kernel
theorem dX9_tongue_11 : decode cX9_tongue 11 = .ok (.iload_n 1, 1) := by decide +kernel
theorem dX9_tongue_12 : decode cX9_tongue 12 = .ok (.invokevirtual 225, 3) := by decide +kernel
theorem dX9_tongue_15 : decode cX9_tongue 15 = .ok (.goto 4, 3) := by decide +kernel
theorem dX9_tongue_18 : decode cX9_tongue 18 = .ok (.iconst (-1), 1) := by decide +kernel
theorem dX9_tongue_19 : decode cX9_tongue 19 = .ok (.ireturn, 1) := by decide +kernel
