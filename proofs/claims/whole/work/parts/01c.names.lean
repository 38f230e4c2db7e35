set_option maxRecDepth 20000 in
theorem ggX9_count_X9_toldMeanings : GoodIn wsX9_count wsX9_toldMeanings := goodIn_r _ [8, 2, 9, 10, 11, 12, 13, 14, 15, 16, 17, 18, 19, 20, 21, 22, 23, 24, 25, 59, 60, 61, 62, 63, 64, 65, 66, 67, 68, 69, 70, 71, 72, 73, 74] (by decide +kernel) (by decide +kernel)
set_option maxRecDepth 20000 in
theorem gX9_count_X9_toldMeanings : GoodIn wsX9_count (wsV RX9 71 RX9 yX9_toldMeanings wsX9_toldMeanings) := goodIn_app (goodIn_of _ (by decide +kernel)) ggX9_count_X9_toldMeanings
set_option maxRecDepth 20000 in
theorem ggX9_count_X7_length : GoodIn wsX9_count wsX7_length := goodIn_r _ [30, 31, 75, 76] (by decide +kernel) (by decide +kernel)
set_option maxRecDepth 20000 in
theorem gX9_count_X7_length : GoodIn wsX9_count (wsV RX9 56 RX7 yX7_length wsX7_length) := goodIn_app (goodIn_of _ (by decide +kernel)) ggX9_count_X7_length
set_option maxRecDepth 20000 in
theorem ggX9_count_X0_needs : GoodIn wsX9_count wsX0_needs := goodIn_r _ [35, 36, 66, 67, 68, 69, 70, 71, 72, 73, 74] (by decide +kernel) (by decide +kernel)
set_option maxRecDepth 20000 in
theorem gX9_count_X0_needs : GoodIn wsX9_count (wsV RX9 214 RX0 yX0_needs wsX0_needs) := goodIn_app (goodIn_of _ (by decide +kernel)) ggX9_count_X0_needs
set_option maxRecDepth 20000 in
theorem ggX9_count_X4_needsTold : GoodIn wsX9_count wsX4_needsTold := goodIn_r _ [41, 42, 77, 78, 79, 80, 81] (by decide +kernel) (by decide +kernel)
set_option maxRecDepth 20000 in
theorem gX9_count_X4_needsTold : GoodIn wsX9_count (wsV RX9 238 RX4 yX4_needsTold wsX4_needsTold) := goodIn_app (goodIn_of _ (by decide +kernel)) ggX9_count_X4_needsTold
set_option maxRecDepth 20000 in
theorem ggX9_count_X4_joinedTold : GoodIn wsX9_count wsX4_joinedTold := goodIn_r _ [46, 47, 77, 78, 79, 80, 81] (by decide +kernel) (by decide +kernel)
set_option maxRecDepth 20000 in
theorem gX9_count_X4_joinedTold : GoodIn wsX9_count (wsV RX9 241 RX4 yX4_joinedTold wsX4_joinedTold) := goodIn_app (goodIn_of _ (by decide +kernel)) ggX9_count_X4_joinedTold
set_option maxRecDepth 20000 in
theorem ggX9_count_X6_kept : GoodIn wsX9_count wsX6_kept := goodIn_r _ [52, 53, 82, 83, 84] (by decide +kernel) (by decide +kernel)
set_option maxRecDepth 20000 in
theorem gX9_count_X6_kept : GoodIn wsX9_count (wsV RX9 232 RX6 yX6_kept wsX6_kept) := goodIn_app (goodIn_of _ (by decide +kernel)) ggX9_count_X6_kept
set_option maxRecDepth 20000 in
theorem ggX9_count_X0_tradersOf : GoodIn wsX9_count wsX0_tradersOf := goodIn_r _ [57, 58, 22, 23, 24, 25, 66, 67, 68, 69, 70, 71, 72, 73, 74] (by decide +kernel) (by decide +kernel)
set_option maxRecDepth 20000 in
theorem gX9_count_X0_tradersOf : GoodIn wsX9_count (wsV RX9 168 RX0 yX0_tradersOf wsX0_tradersOf) := goodIn_app (goodIn_of _ (by decide +kernel)) ggX9_count_X0_tradersOf
theorem dX9_count_0 : decode cX9_count 0 = .ok (.iload_n 1, 1) := by decide +kernel
theorem dX9_count_1 : decode cX9_count 1 = .ok (.tableswitch 104 0 6 #[43, 48, 56, 67, 78, 86, 95], 43) := by decide +kernel
theorem dX9_count_44 : decode cX9_count 44 = .ok (.aload_n 0, 1) := by decide +kernel
theorem dX9_count_45 : decode cX9_count 45 = .ok (.invokevirtual 71, 3) := by decide +kernel
theorem dX9_count_48 : decode cX9_count 48 = .ok (.ireturn, 1) := by decide +kernel
theorem dX9_count_49 : decode cX9_count 49 = .ok (.aload_n 0, 1) := by decide +kernel
theorem dX9_count_50 : decode cX9_count 50 = .ok (.getfield 10, 3) := by decide +kernel
theorem dX9_count_53 : decode cX9_count 53 = .ok (.invokevirtual 56, 3) := by decide +kernel
theorem dX9_count_56 : decode cX9_count 56 = .ok (.ireturn, 1) := by decide +kernel
theorem dX9_count_57 : decode cX9_count 57 = .ok (.aload_n 0, 1) := by decide +kernel
theorem dX9_count_58 : decode cX9_count 58 = .ok (.getfield 49, 3) := by decide +kernel
theorem dX9_count_61 : decode cX9_count 61 = .ok (.invokevirtual 214, 3) := by decide +kernel
theorem dX9_count_64 : decode cX9_count 64 = .ok (.invokevirtual 238, 3) := by decide +kernel
theorem dX9_count_67 : decode cX9_count 67 = .ok (.ireturn, 1) := by decide +kernel
theorem dX9_count_68 : decode cX9_count 68 = .ok (.aload_n 0, 1) := by decide +kernel
theorem dX9_count_69 : decode cX9_count 69 = .ok (.getfield 49, 3) := by decide +kernel
theorem dX9_count_72 : decode cX9_count 72 = .ok (.invokevirtual 214, 3) := by decide +kernel
theorem dX9_count_75 : decode cX9_count 75 = .ok (.invokevirtual 241, 3) := by decide +kernel
theorem dX9_count_78 : decode cX9_count 78 = .ok (.ireturn, 1) := by decide +kernel
theorem dX9_count_79 : decode cX9_count 79 = .ok (.aload_n 0, 1) := by decide +kernel
theorem dX9_count_80 : decode cX9_count 80 = .ok (.getfield 28, 3) := by decide +kernel
theorem dX9_count_83 : decode cX9_count 83 = .ok (.invokevirtual 232, 3) := by decide +kernel
theorem dX9_count_86 : decode cX9_count 86 = .ok (.ireturn, 1) := by decide +kernel
theorem dX9_count_87 : decode cX9_count 87 = .ok (.aload_n 0, 1) := by decide +kernel
theorem dX9_count_88 : decode cX9_count 88 = .ok (.getfield 49, 3) := by decide +kernel
theorem dX9_count_91 : decode cX9_count 91 = .ok (.iconst 0, 1) := by decide +kernel
theorem dX9_count_92 : decode cX9_count 92 = .ok (.invokevirtual 168, 3) := by decide +kernel
theorem dX9_count_95 : decode cX9_count 95 = .ok (.ireturn, 1) := by decide +kernel
theorem dX9_count_96 : decode cX9_count 96 = .ok (.aload_n 0, 1) := by decide +kernel
theorem dX9_count_97 : decode cX9_count 97 = .ok (.getfield 49, 3) := by decide +kernel
theorem dX9_count_100 : decode cX9_count 100 = .ok (.iconst 1, 1) := by decide +kernel
theorem dX9_count_101 : decode cX9_count 101 = .ok (.invokevirtual 168, 3) := by decide +kernel
theorem dX9_count_104 : decode cX9_count 104 = .ok (.ireturn, 1) := by decide +kernel
theorem dX9_count_105 : decode cX9_count 105 = .ok (.iconst (-1), 1) := by decide +kernel
theorem dX9_count_106 : decode cX9_count 106 = .ok (.ireturn, 1) := by decide +kernel
theorem dX9_isPeople_0 : decode cX9_isPeople 0 = .ok (.iload_n 0, 1) := by decide +kernel
theorem dX9_isPeople_1 : decode cX9_isPeople 1 = .ok (.ifCond .lt 12, 3) := by decide +kernel
theorem dX9_isPeople_4 : decode cX9_isPeople 4 = .ok (.iload_n 0, 1) := by decide +kernel
theorem dX9_isPeople_5 : decode cX9_isPeople 5 = .ok (.iconst 2, 1) := by decide +kernel
theorem dX9_isPeople_6 : decode cX9_isPeople 6 = .ok (.if_icmp .ge 7, 3) := by decide +kernel
theorem dX9_isPeople_9 : decode cX9_isPeople 9 = .ok (.iconst 1, 1) := by decide +kernel
theorem dX9_isPeople_10 : decode cX9_isPeople 10 = .ok (.goto 4, 3) := by decide +kernel
theorem dX9_isPeople_13 : decode cX9_isPeople 13 = .ok (.iconst 0, 1) := by decide +kernel
theorem dX9_isPeople_14 : decode cX9_isPeople 14 = .ok (.ireturn, 1) := by decide +kernel
theorem dX9_isMeaning_0 : decode cX9_isMeaning 0 = .ok (.iload_n 0, 1) := by decide +kernel
theorem dX9_isMeaning_1 : decode cX9_isMeaning 1 = .ok (.ifCond .lt 13, 3) := by decide +kernel
theorem dX9_isMeaning_4 : decode cX9_isMeaning 4 = .ok (.iload_n 0, 1) := by decide +kernel
theorem dX9_isMeaning_5 : decode cX9_isMeaning 5 = .ok (.bipush 8, 2) := by decide +kernel
theorem dX9_isMeaning_7 : decode cX9_isMeaning 7 = .ok (.if_icmp .ge 7, 3) := by decide +kernel
theorem dX9_isMeaning_10 : decode cX9_isMeaning 10 = .ok (.iconst 1, 1) := by decide +kernel
theorem dX9_isMeaning_11 : decode cX9_isMeaning 11 = .ok (.goto 4, 3) := by decide +kernel
theorem dX9_isMeaning_14 : decode cX9_isMeaning 14 = .ok (.iconst 0, 1) := by decide +kernel
theorem dX9_isMeaning_15 : decode cX9_isMeaning 15 = .ok (.ireturn, 1) := by decide +kernel
theorem dX9_isEar_0 : decode cX9_isEar 0 = .ok (.iload_n 0, 1) := by decide +kernel
theorem dX9_isEar_1 : decode cX9_isEar 1 = .ok (.ifCond .lt 12, 3) := by decide +kernel
theorem dX9_isEar_4 : decode cX9_isEar 4 = .ok (.iload_n 0, 1) := by decide +kernel
theorem dX9_isEar_5 : decode cX9_isEar 5 = .ok (.iconst 3, 1) := by decide +kernel
theorem dX9_isEar_6 : decode cX9_isEar 6 = .ok (.if_icmp .ge 7, 3) := by decide +kernel
theorem dX9_isEar_9 : decode cX9_isEar 9 = .ok (.iconst 1, 1) := by decide +kernel
theorem dX9_isEar_10 : decode cX9_isEar 10 = .ok (.goto 4, 3) := by decide +kernel
theorem dX9_isEar_13 : decode cX9_isEar 13 = .ok (.iconst 0, 1) := by decide +kernel
theorem dX9_isEar_14 : decode cX9_isEar 14 = .ok (.ireturn, 1) := by decide +kernel
theorem dX9_isMeetings_0 : decode cX9_isMeetings 0 = .ok (.iload_n 0, 1) := by decide +kernel
theorem dX9_isMeetings_1 : decode cX9_isMeetings 1 = .ok (.ifCond .lt 14, 3) := by decide +kernel
theorem dX9_isMeetings_4 : decode cX9_isMeetings 4 = .ok (.iload_n 0, 1) := by decide +kernel
theorem dX9_isMeetings_5 : decode cX9_isMeetings 5 = .ok (.sipush 200, 3) := by decide +kernel
theorem dX9_isMeetings_8 : decode cX9_isMeetings 8 = .ok (.if_icmp .gt 7, 3) := by decide +kernel
theorem dX9_isMeetings_11 : decode cX9_isMeetings 11 = .ok (.iconst 1, 1) := by decide +kernel
theorem dX9_isMeetings_12 : decode cX9_isMeetings 12 = .ok (.goto 4, 3) := by decide +kernel
theorem dX9_isMeetings_15 : decode cX9_isMeetings 15 = .ok (.iconst 0, 1) := by decide +kernel
theorem dX9_isMeetings_16 : decode cX9_isMeetings 16 = .ok (.ireturn, 1) := by decide +kernel
theorem dX9_isHundredths_0 : decode cX9_isHundredths 0 = .ok (.iload_n 0, 1) := by decide +kernel
theorem dX9_isHundredths_1 : decode cX9_isHundredths 1 = .ok (.iconst 1, 1) := by decide +kernel
theorem dX9_isHundredths_2 : decode cX9_isHundredths 2 = .ok (.if_icmp .lt 13, 3) := by decide +kernel
theorem dX9_isHundredths_5 : decode cX9_isHundredths 5 = .ok (.iload_n 0, 1) := by decide +kernel
theorem dX9_isHundredths_6 : decode cX9_isHundredths 6 = .ok (.bipush 100, 2) := by decide +kernel
theorem dX9_isHundredths_8 : decode cX9_isHundredths 8 = .ok (.if_icmp .gt 7, 3) := by decide +kernel
theorem dX9_isHundredths_11 : decode cX9_isHundredths 11 = .ok (.iconst 1, 1) := by decide +kernel
theorem dX9_isHundredths_12 : decode cX9_isHundredths 12 = .ok (.goto 4, 3) := by decide +kernel
theorem dX9_isHundredths_15 : decode cX9_isHundredths 15 = .ok (.iconst 0, 1) := by decide +kernel
theorem dX9_isHundredths_16 : decode cX9_isHundredths 16 = .ok (.ireturn, 1) := by decide +kernel
theorem dX9_isOfThousand_0 : decode cX9_isOfThousand 0 = .ok (.iload_n 0, 1) := by decide +kernel
theorem dX9_isOfThousand_1 : decode cX9_isOfThousand 1 = .ok (.ifCond .lt 14, 3) := by decide +kernel
theorem dX9_isOfThousand_4 : decode cX9_isOfThousand 4 = .ok (.iload_n 0, 1) := by decide +kernel
theorem dX9_isOfThousand_5 : decode cX9_isOfThousand 5 = .ok (.sipush 1000, 3) := by decide +kernel
theorem dX9_isOfThousand_8 : decode cX9_isOfThousand 8 = .ok (.if_icmp .gt 7, 3) := by decide +kernel
theorem dX9_isOfThousand_11 : decode cX9_isOfThousand 11 = .ok (.iconst 1, 1) := by decide +kernel
theorem dX9_isOfThousand_12 : decode cX9_isOfThousand 12 = .ok (.goto 4, 3) := by decide +kernel
theorem dX9_isOfThousand_15 : decode cX9_isOfThousand 15 = .ok (.iconst 0, 1) := by decide +kernel
theorem dX9_isOfThousand_16 : decode cX9_isOfThousand 16 = .ok (.ireturn, 1) := by decide +kernel
theorem dX9_isBent_0 : decode cX9_isBent 0 = .ok (.iload_n 0, 1) := by decide +kernel
theorem dX9_isBent_1 : decode cX9_isBent 1 = .ok (.iconst 1, 1) := by decide +kernel
theorem dX9_isBent_2 : decode cX9_isBent 2 = .ok (.if_icmp .lt 12, 3) := by decide +kernel
theorem dX9_isBent_5 : decode cX9_isBent 5 = .ok (.iload_n 0, 1) := by decide +kernel
theorem dX9_isBent_6 : decode cX9_isBent 6 = .ok (.iconst 3, 1) := by decide +kernel
theorem dX9_isBent_7 : decode cX9_isBent 7 = .ok (.if_icmp .gt 7, 3) := by decide +kernel
theorem dX9_isBent_10 : decode cX9_isBent 10 = .ok (.iconst 1, 1) := by decide +kernel
theorem dX9_isBent_11 : decode cX9_isBent 11 = .ok (.goto 4, 3) := by decide +kernel
theorem dX9_isBent_14 : decode cX9_isBent 14 = .ok (.iconst 0, 1) := by decide +kernel
theorem dX9_isBent_15 : decode cX9_isBent 15 = .ok (.ireturn, 1) := by decide +kernel
set_option maxRecDepth 20000 in
theorem ggX9_isStand_X0_tradersOf : GoodIn wsX9_isStand wsX0_tradersOf := goodIn_r _ [6, 7, 8, 9, 10, 11, 19, 20, 21, 22, 23, 24, 25, 26, 27] (by decide +kernel) (by decide +kernel)
set_option maxRecDepth 20000 in
theorem gX9_isStand_X0_tradersOf : GoodIn wsX9_isStand (wsV RX9 168 RX0 yX0_tradersOf wsX0_tradersOf) := goodIn_app (goodIn_of _ (by decide +kernel)) ggX9_isStand_X0_tradersOf
theorem dX9_isStand_0 : decode cX9_isStand 0 = .ok (.iload_n 1, 1) := by decide +kernel
theorem dX9_isStand_1 : decode cX9_isStand 1 = .ok (.ifCond .lt 35, 3) := by decide +kernel
theorem dX9_isStand_4 : decode cX9_isStand 4 = .ok (.iload_n 1, 1) := by decide +kernel
theorem dX9_isStand_5 : decode cX9_isStand 5 = .ok (.aload_n 0, 1) := by decide +kernel
theorem dX9_isStand_6 : decode cX9_isStand 6 = .ok (.getfield 49, 3) := by decide +kernel
theorem dX9_isStand_9 : decode cX9_isStand 9 = .ok (.iconst 0, 1) := by decide +kernel
theorem dX9_isStand_10 : decode cX9_isStand 10 = .ok (.invokevirtual 168, 3) := by decide +kernel
theorem dX9_isStand_13 : decode cX9_isStand 13 = .ok (.if_icmp .gt 23, 3) := by decide +kernel
theorem dX9_isStand_16 : decode cX9_isStand 16 = .ok (.iload_n 2, 1) := by decide +kernel
theorem dX9_isStand_17 : decode cX9_isStand 17 = .ok (.ifCond .lt 19, 3) := by decide +kernel
theorem dX9_isStand_20 : decode cX9_isStand 20 = .ok (.iload_n 2, 1) := by decide +kernel
theorem dX9_isStand_21 : decode cX9_isStand 21 = .ok (.aload_n 0, 1) := by decide +kernel
theorem dX9_isStand_22 : decode cX9_isStand 22 = .ok (.getfield 49, 3) := by decide +kernel
theorem dX9_isStand_25 : decode cX9_isStand 25 = .ok (.iconst 1, 1) := by decide +kernel
theorem dX9_isStand_26 : decode cX9_isStand 26 = .ok (.invokevirtual 168, 3) := by decide +kernel
theorem dX9_isStand_29 : decode cX9_isStand 29 = .ok (.if_icmp .gt 7, 3) := by decide +kernel
theorem dX9_isStand_32 : decode cX9_isStand 32 = .ok (.iconst 1, 1) := by decide +kernel
theorem dX9_isStand_33 : decode cX9_isStand 33 = .ok (.goto 4, 3) := by decide +kernel
theorem dX9_isStand_36 : decode cX9_isStand 36 = .ok (.iconst 0, 1) := by decide +kernel
theorem dX9_isStand_37 : decode cX9_isStand 37 = .ok (.ireturn, 1) := by decide +kernel
set_option maxRecDepth 20000 in
theorem ggX9_tryText_X0_clear : GoodIn wsX9_tryText wsX0_clear := goodIn_r _ [8, 9, 10, 11, 12, 13, 14, 15, 16, 17, 18, 19, 20, 21, 22, 23, 24, 25, 26, 27, 28, 29, 30, 160, 161, 162, 163, 164, 165, 166, 167, 168, 169, 170, 171, 172, 173] (by decide +kernel) (by decide +kernel)
set_option maxRecDepth 20000 in
theorem gX9_tryText_X0_clear : GoodIn wsX9_tryText (wsV RX9 244 RX0 yX0_clear wsX0_clear) := goodIn_app (goodIn_of _ (by decide +kernel)) ggX9_tryText_X0_clear
set_option maxRecDepth 20000 in
theorem ggX9_tryText_X7_length : GoodIn wsX9_tryText wsX7_length := goodIn_r _ [35, 36, 174, 175] (by decide +kernel) (by decide +kernel)
set_option maxRecDepth 20000 in
theorem gX9_tryText_X7_length : GoodIn wsX9_tryText (wsV RX9 56 RX7 yX7_length wsX7_length) := goodIn_app (goodIn_of _ (by decide +kernel)) ggX9_tryText_X7_length
set_option maxRecDepth 20000 in
theorem ggX9_tryText_X2_readAt : GoodIn wsX9_tryText wsX2_readAt := goodIn_r _ [41, 42, 43, 44, 45, 46, 47, 34, 48, 36, 49, 50, 51, 52, 40, 53, 54, 55, 56, 57, 58, 59, 60, 61, 62, 63, 64, 65, 66, 67, 68, 69, 70, 71, 72, 73, 74, 75, 76, 77, 78, 79, 80, 81, 82, 83, 84, 85, 86, 87, 88, 89, 90, 91, 92, 93, 94, 95, 96, 97, 98, 99, 100, 101, 102, 103, 104, 105, 176, 177, 178, 179, 180, 181, 174, 175] (by decide +kernel) (by decide +kernel)
set_option maxRecDepth 20000 in
theorem gX9_tryText_X2_readAt : GoodIn wsX9_tryText (wsV RX9 245 RX2 yX2_readAt wsX2_readAt) := goodIn_app (goodIn_of _ (by decide +kernel)) ggX9_tryText_X2_readAt
set_option maxRecDepth 20000 in
theorem ggX9_tryText_X0_accepts : GoodIn wsX9_tryText wsX0_accepts := goodIn_r _ [109, 9, 10, 11, 14, 15, 17, 18, 16, 110, 100, 101, 40, 102, 63, 103, 104, 69, 105, 111, 112, 113, 114, 44, 115, 116, 7, 117, 118, 119, 120, 121, 54, 122, 68, 70, 123, 124, 125, 126, 127, 128, 129, 90, 130, 131, 132, 133, 13, 134, 93, 81, 94, 135, 136, 137, 138, 139, 140, 26, 141, 28, 142, 143, 144, 145, 146, 147, 148, 29, 30, 160, 161, 162, 163, 164, 165, 166, 167, 168, 176, 177, 178, 179, 180, 181, 169, 170, 171, 172, 173] (by decide +kernel) (by decide +kernel)
set_option maxRecDepth 20000 in
theorem gX9_tryText_X0_accepts : GoodIn wsX9_tryText (wsV RX9 248 RX0 yX0_accepts wsX0_accepts) := goodIn_app (goodIn_of _ (by decide +kernel)) ggX9_tryText_X0_accepts
set_option maxRecDepth 20000 in
theorem ggX9_tryText_X2_behind : GoodIn wsX9_tryText wsX2_behind := goodIn_r _ [152, 42, 176, 177, 178, 179, 180, 181] (by decide +kernel) (by decide +kernel)
set_option maxRecDepth 20000 in
theorem gX9_tryText_X2_behind : GoodIn wsX9_tryText (wsV RX9 252 RX2 yX2_behind wsX2_behind) := goodIn_app (goodIn_of _ (by decide +kernel)) ggX9_tryText_X2_behind
theorem dX9_tryText_0 : decode cX9_tryText 0 = .ok (.aload_n 0, 1) := by decide +kernel
theorem dX9_tryText_1 : decode cX9_tryText 1 = .ok (.getfield 53, 3) := by decide +kernel
theorem dX9_tryText_4 : decode cX9_tryText 4 = .ok (.invokevirtual 244, 3) := by decide +kernel
theorem dX9_tryText_7 : decode cX9_tryText 7 = .ok (.iconst 0, 1) := by decide +kernel
theorem dX9_tryText_8 : decode cX9_tryText 8 = .ok (.istore_n 1, 1) := by decide +kernel
theorem dX9_tryText_9 : decode cX9_tryText 9 = .ok (.iconst 0, 1) := by decide +kernel
theorem dX9_tryText_10 : decode cX9_tryText 10 = .ok (.istore_n 2, 1) := by decide +kernel
theorem dX9_tryText_11 : decode cX9_tryText 11 = .ok (.iload_n 2, 1) := by decide +kernel
theorem dX9_tryText_12 : decode cX9_tryText 12 = .ok (.sipush 500, 3) := by decide +kernel
theorem dX9_tryText_15 : decode cX9_tryText 15 = .ok (.if_icmp .ge 55, 3) := by decide +kernel
theorem dX9_tryText_18 : decode cX9_tryText 18 = .ok (.iload_n 1, 1) := by decide +kernel
theorem dX9_tryText_19 : decode cX9_tryText 19 = .ok (.aload_n 0, 1) := by decide +kernel
theorem dX9_tryText_20 : decode cX9_tryText 20 = .ok (.getfield 10, 3) := by decide +kernel
theorem dX9_tryText_23 : decode cX9_tryText 23 = .ok (.invokevirtual 56, 3) := by decide +kernel
theorem dX9_tryText_26 : decode cX9_tryText 26 = .ok (.if_icmp .ge 44, 3) := by decide +kernel
theorem dX9_tryText_29 : decode cX9_tryText 29 = .ok (.aload_n 0, 1) := by decide +kernel
theorem dX9_tryText_30 : decode cX9_tryText 30 = .ok (.getfield 21, 3) := by decide +kernel
theorem dX9_tryText_33 : decode cX9_tryText 33 = .ok (.iload_n 1, 1) := by decide +kernel
theorem dX9_tryText_34 : decode cX9_tryText 34 = .ok (.invokevirtual 245, 3) := by decide +kernel
theorem dX9_tryText_37 : decode cX9_tryText 37 = .ok (.ifCond .eq 17, 3) := by decide +kernel
theorem dX9_tryText_40 : decode cX9_tryText 40 = .ok (.aload_n 0, 1) := by decide +kernel
theorem dX9_tryText_41 : decode cX9_tryText 41 = .ok (.getfield 53, 3) := by decide +kernel
theorem dX9_tryText_44 : decode cX9_tryText 44 = .ok (.aload_n 0, 1) := by decide +kernel
theorem dX9_tryText_45 : decode cX9_tryText 45 = .ok (.getfield 21, 3) := by decide +kernel
theorem dX9_tryText_48 : decode cX9_tryText 48 = .ok (.invokevirtual 248, 3) := by decide +kernel
theorem dX9_tryText_51 : decode cX9_tryText 51 = .ok (.ifCond .ne 5, 3) := by decide +kernel
theorem dX9_tryText_54 : decode cX9_tryText 54 = .ok (.iload_n 1, 1) := by decide +kernel
theorem dX9_tryText_55 : decode cX9_tryText 55 = .ok (.ireturn, 1) := by decide +kernel
theorem dX9_tryText_56 : decode cX9_tryText 56 = .ok (.aload_n 0, 1) := by decide +kernel
theorem dX9_tryText_57 : decode cX9_tryText 57 = .ok (.getfield 21, 3) := by decide +kernel
theorem dX9_tryText_60 : decode cX9_tryText 60 = .ok (.invokevirtual 252, 3) := by decide +kernel
theorem dX9_tryText_63 : decode cX9_tryText 63 = .ok (.istore_n 1, 1) := by decide +kernel
theorem dX9_tryText_64 : decode cX9_tryText 64 = .ok (.iinc 2 1, 3) := by decide +kernel
theorem dX9_tryText_67 : decode cX9_tryText 67 = .ok (.goto (-56), 3) := by decide +kernel
theorem dX9_tryText_70 : decode cX9_tryText 70 = .ok (.bipush (-4), 2) := by decide +kernel
theorem dX9_tryText_72 : decode cX9_tryText 72 = .ok (.ireturn, 1) := by decide +kernel
set_option maxRecDepth 20000 in
theorem ggX9_toldMeanings_X0_isTold : GoodIn wsX9_toldMeanings wsX0_isTold := goodIn_r _ [6, 7, 8, 9, 5, 10, 11, 12, 13, 14, 15, 16, 17, 18, 26, 27, 28, 29, 30, 31, 32, 33, 34] (by decide +kernel) (by decide +kernel)
set_option maxRecDepth 20000 in
theorem gX9_toldMeanings_X0_isTold : GoodIn wsX9_toldMeanings (wsV RX9 99 RX0 yX0_isTold wsX0_isTold) := goodIn_app (goodIn_of _ (by decide +kernel)) ggX9_toldMeanings_X0_isTold
theorem dX9_toldMeanings_0 : decode cX9_toldMeanings 0 = .ok (.iconst 0, 1) := by decide +kernel
theorem dX9_toldMeanings_1 : decode cX9_toldMeanings 1 = .ok (.istore_n 1, 1) := by decide +kernel
theorem dX9_toldMeanings_2 : decode cX9_toldMeanings 2 = .ok (.iconst 0, 1) := by decide +kernel
theorem dX9_toldMeanings_3 : decode cX9_toldMeanings 3 = .ok (.istore_n 2, 1) := by decide +kernel
theorem dX9_toldMeanings_4 : decode cX9_toldMeanings 4 = .ok (.iload_n 2, 1) := by decide +kernel
theorem dX9_toldMeanings_5 : decode cX9_toldMeanings 5 = .ok (.bipush 8, 2) := by decide +kernel
theorem dX9_toldMeanings_7 : decode cX9_toldMeanings 7 = .ok (.if_icmp .ge 23, 3) := by decide +kernel
theorem dX9_toldMeanings_10 : decode cX9_toldMeanings 10 = .ok (.aload_n 0, 1) := by decide +kernel
theorem dX9_toldMeanings_11 : decode cX9_toldMeanings 11 = .ok (.getfield 49, 3) := by decide +kernel
theorem dX9_toldMeanings_14 : decode cX9_toldMeanings 14 = .ok (.iload_n 2, 1) := by decide +kernel
theorem dX9_toldMeanings_15 : decode cX9_toldMeanings 15 = .ok (.invokevirtual 99, 3) := by decide +kernel
theorem dX9_toldMeanings_18 : decode cX9_toldMeanings 18 = .ok (.ifCond .eq 6, 3) := by decide +kernel
theorem dX9_toldMeanings_21 : decode cX9_toldMeanings 21 = .ok (.iinc 1 1, 3) := by decide +kernel
theorem dX9_toldMeanings_24 : decode cX9_toldMeanings 24 = .ok (.iinc 2 1, 3) := by decide +kernel
theorem dX9_toldMeanings_27 : decode cX9_toldMeanings 27 = .ok (.goto (-23), 3) := by decide +kernel
theorem dX9_toldMeanings_30 : decode cX9_toldMeanings 30 = .ok (.iload_n 1, 1) := by decide +kernel
theorem dX9_toldMeanings_31 : decode cX9_toldMeanings 31 = .ok (.ireturn, 1) := by decide +kernel
set_option maxRecDepth 20000 in
theorem ggX9_likeOfMeaning_X0_wordOf : GoodIn wsX9_likeOfMeaning wsX0_wordOf := goodIn_r _ [7, 8, 9, 10, 6, 11, 12, 13, 14, 15, 63, 64, 65, 66, 67, 68, 69, 70, 71] (by decide +kernel) (by decide +kernel)
set_option maxRecDepth 20000 in
theorem gX9_likeOfMeaning_X0_wordOf : GoodIn wsX9_likeOfMeaning (wsV RX9 81 RX0 yX0_wordOf wsX0_wordOf) := goodIn_app (goodIn_of _ (by decide +kernel)) ggX9_likeOfMeaning_X0_wordOf
set_option maxRecDepth 20000 in
theorem ggX9_likeOfMeaning_X0_saidBy : GoodIn wsX9_likeOfMeaning wsX0_saidBy := goodIn_r _ [19, 20, 21, 22, 23, 24, 25, 26, 27, 28, 29, 6, 30, 31, 32, 12, 13, 14, 15, 33, 34, 35, 36, 63, 64, 65, 66, 67, 68, 69, 70, 71] (by decide +kernel) (by decide +kernel)
set_option maxRecDepth 20000 in
theorem gX9_likeOfMeaning_X0_saidBy : GoodIn wsX9_likeOfMeaning (wsV RX9 85 RX0 yX0_saidBy wsX0_saidBy) := goodIn_app (goodIn_of _ (by decide +kernel)) ggX9_likeOfMeaning_X0_saidBy
set_option maxRecDepth 20000 in
theorem ggX9_likeOfMeaning_X3_likeness : GoodIn wsX9_likeOfMeaning wsX3_likeness := goodIn_r _ [41, 42, 43, 44, 45, 46, 21, 22, 23, 47, 48, 49, 40, 50, 51, 52, 53, 54, 55, 25, 26, 72] (by decide +kernel) (by decide +kernel)
set_option maxRecDepth 20000 in
theorem gX9_likeOfMeaning_X3_likeness : GoodIn wsX9_likeOfMeaning (wsV RX9 199 RX3 yX3_likeness wsX3_likeness) := goodIn_app (goodIn_of _ (by decide +kernel)) ggX9_likeOfMeaning_X3_likeness
theorem dX9_likeOfMeaning_0 : decode cX9_likeOfMeaning 0 = .ok (.aload_n 0, 1) := by decide +kernel
theorem dX9_likeOfMeaning_1 : decode cX9_likeOfMeaning 1 = .ok (.getfield 42, 3) := by decide +kernel
theorem dX9_likeOfMeaning_4 : decode cX9_likeOfMeaning 4 = .ok (.aload_n 0, 1) := by decide +kernel
theorem dX9_likeOfMeaning_5 : decode cX9_likeOfMeaning 5 = .ok (.getfield 49, 3) := by decide +kernel
theorem dX9_likeOfMeaning_8 : decode cX9_likeOfMeaning 8 = .ok (.iconst 1, 1) := by decide +kernel
theorem dX9_likeOfMeaning_9 : decode cX9_likeOfMeaning 9 = .ok (.aload_n 0, 1) := by decide +kernel
theorem dX9_likeOfMeaning_10 : decode cX9_likeOfMeaning 10 = .ok (.getfield 49, 3) := by decide +kernel
theorem dX9_likeOfMeaning_13 : decode cX9_likeOfMeaning 13 = .ok (.iconst 0, 1) := by decide +kernel
theorem dX9_likeOfMeaning_14 : decode cX9_likeOfMeaning 14 = .ok (.iload_n 1, 1) := by decide +kernel
theorem dX9_likeOfMeaning_15 : decode cX9_likeOfMeaning 15 = .ok (.invokevirtual 81, 3) := by decide +kernel
theorem dX9_likeOfMeaning_18 : decode cX9_likeOfMeaning 18 = .ok (.invokevirtual 85, 3) := by decide +kernel
theorem dX9_likeOfMeaning_21 : decode cX9_likeOfMeaning 21 = .ok (.aload_n 0, 1) := by decide +kernel
theorem dX9_likeOfMeaning_22 : decode cX9_likeOfMeaning 22 = .ok (.getfield 49, 3) := by decide +kernel
theorem dX9_likeOfMeaning_25 : decode cX9_likeOfMeaning 25 = .ok (.iconst 1, 1) := by decide +kernel
theorem dX9_likeOfMeaning_26 : decode cX9_likeOfMeaning 26 = .ok (.iload_n 1, 1) := by decide +kernel
theorem dX9_likeOfMeaning_27 : decode cX9_likeOfMeaning 27 = .ok (.invokevirtual 81, 3) := by decide +kernel
theorem dX9_likeOfMeaning_30 : decode cX9_likeOfMeaning 30 = .ok (.invokevirtual 199, 3) := by decide +kernel
theorem dX9_likeOfMeaning_33 : decode cX9_likeOfMeaning 33 = .ok (.ireturn, 1) := by decide +kernel
set_option maxRecDepth 20000 in
theorem ggX9_isAlike_X9_likeOfMeaning : GoodIn wsX9_isAlike wsX9_likeOfMeaning := goodIn_r _ [6, 7, 1, 8, 9, 10, 11, 12, 13, 14, 15, 16, 17, 18, 19, 20, 21, 22, 23, 24, 25, 26, 27, 28, 29, 30, 31, 32, 33, 34, 35, 36, 37, 38, 39, 40, 41, 42, 43, 44, 45, 46, 47, 48, 49, 50, 51, 52, 53, 54, 55, 56, 57, 58, 59, 60, 66, 67, 68, 69, 70, 71, 72, 73, 74, 75, 76, 77, 78, 79, 80, 81, 82] (by decide +kernel) (by decide +kernel)
set_option maxRecDepth 20000 in
theorem gX9_isAlike_X9_likeOfMeaning : GoodIn wsX9_isAlike (wsV RX9 102 RX9 yX9_likeOfMeaning wsX9_likeOfMeaning) := goodIn_app (goodIn_of _ (by decide +kernel)) ggX9_isAlike_X9_likeOfMeaning
set_option maxRecDepth 20000 in
theorem ggX9_isAlike_X0_alikeFrom : GoodIn wsX9_isAlike wsX0_alikeFrom := goodIn_r _ [64, 65, 73, 74, 75, 76, 77, 78, 79, 80, 81] (by decide +kernel) (by decide +kernel)
set_option maxRecDepth 20000 in
theorem gX9_isAlike_X0_alikeFrom : GoodIn wsX9_isAlike (wsV RX9 196 RX0 yX0_alikeFrom wsX0_alikeFrom) := goodIn_app (goodIn_of _ (by decide +kernel)) ggX9_isAlike_X0_alikeFrom
theorem dX9_isAlike_0 : decode cX9_isAlike 0 = .ok (.aload_n 0, 1) := by decide +kernel
theorem dX9_isAlike_1 : decode cX9_isAlike 1 = .ok (.iload_n 1, 1) := by decide +kernel
theorem dX9_isAlike_2 : decode cX9_isAlike 2 = .ok (.invokevirtual 102, 3) := by decide +kernel
theorem dX9_isAlike_5 : decode cX9_isAlike 5 = .ok (.aload_n 0, 1) := by decide +kernel
theorem dX9_isAlike_6 : decode cX9_isAlike 6 = .ok (.getfield 49, 3) := by decide +kernel
theorem dX9_isAlike_9 : decode cX9_isAlike 9 = .ok (.invokevirtual 196, 3) := by decide +kernel
theorem dX9_isAlike_12 : decode cX9_isAlike 12 = .ok (.if_icmp .lt 7, 3) := by decide +kernel
theorem dX9_isAlike_15 : decode cX9_isAlike 15 = .ok (.iconst 1, 1) := by decide +kernel
theorem dX9_isAlike_16 : decode cX9_isAlike 16 = .ok (.goto 4, 3) := by decide +kernel
theorem dX9_isAlike_19 : decode cX9_isAlike 19 = .ok (.iconst 0, 1) := by decide +kernel
theorem dX9_isAlike_20 : decode cX9_isAlike 20 = .ok (.ireturn, 1) := by decide +kernel
set_option maxRecDepth 20000 in
theorem ggX9_startCrowdAsNow_X9_isAlike : GoodIn wsX9_startCrowdAsNow wsX9_isAlike := goodIn_r _ [8, 2, 9, 10, 11, 7, 12, 13, 14, 15, 16, 17, 18, 19, 20, 21, 22, 23, 24, 25, 26, 27, 28, 29, 30, 31, 32, 33, 34, 35, 36, 37, 38, 39, 40, 41, 42, 43, 44, 45, 46, 47, 48, 49, 50, 51, 52, 53, 54, 55, 56, 57, 58, 59, 60, 61, 62, 63, 64, 65, 66, 67, 68, 69, 70, 71, 125, 126, 127, 128, 129, 130, 131, 132, 133, 134, 135, 136, 137, 138, 139, 140, 141] (by decide +kernel) (by decide +kernel)
set_option maxRecDepth 20000 in
theorem gX9_startCrowdAsNow_X9_isAlike : GoodIn wsX9_startCrowdAsNow (wsV RX9 148 RX9 yX9_isAlike wsX9_isAlike) := goodIn_app (goodIn_of _ (by decide +kernel)) ggX9_startCrowdAsNow_X9_isAlike
set_option maxRecDepth 20000 in
theorem ggX9_startCrowdAsNow_X0_speaksOfTen : GoodIn wsX9_startCrowdAsNow wsX0_speaksOfTen := goodIn_r _ [75, 76, 132, 133, 134, 135, 136, 137, 138, 139, 140] (by decide +kernel) (by decide +kernel)
set_option maxRecDepth 20000 in
theorem gX9_startCrowdAsNow_X0_speaksOfTen : GoodIn wsX9_startCrowdAsNow (wsV RX9 151 RX0 yX0_speaksOfTen wsX0_speaksOfTen) := goodIn_app (goodIn_of _ (by decide +kernel)) ggX9_startCrowdAsNow_X0_speaksOfTen
set_option maxRecDepth 20000 in
theorem ggX9_startCrowdAsNow_X0_takesOfTen : GoodIn wsX9_startCrowdAsNow wsX0_takesOfTen := goodIn_r _ [80, 81, 23, 24, 25, 26, 132, 133, 134, 135, 136, 137, 138, 139, 140] (by decide +kernel) (by decide +kernel)
set_option maxRecDepth 20000 in
theorem gX9_startCrowdAsNow_X0_takesOfTen : GoodIn wsX9_startCrowdAsNow (wsV RX9 154 RX0 yX0_takesOfTen wsX0_takesOfTen) := goodIn_app (goodIn_of _ (by decide +kernel)) ggX9_startCrowdAsNow_X0_takesOfTen
set_option maxRecDepth 20000 in
theorem ggX9_startCrowdAsNow_X1_habits : GoodIn wsX9_startCrowdAsNow wsX1_habits := goodIn_r _ [86, 87, 88, 142, 143, 144, 145, 146, 147, 148] (by decide +kernel) (by decide +kernel)
set_option maxRecDepth 20000 in
theorem gX9_startCrowdAsNow_X1_habits : GoodIn wsX9_startCrowdAsNow (wsV RX9 157 RX1 yX1_habits wsX1_habits) := goodIn_app (goodIn_of _ (by decide +kernel)) ggX9_startCrowdAsNow_X1_habits
set_option maxRecDepth 20000 in
theorem ggX9_startCrowdAsNow_X0_tradersOf : GoodIn wsX9_startCrowdAsNow wsX0_tradersOf := goodIn_r _ [92, 93, 23, 24, 25, 26, 132, 133, 134, 135, 136, 137, 138, 139, 140] (by decide +kernel) (by decide +kernel)
set_option maxRecDepth 20000 in
theorem gX9_startCrowdAsNow_X0_tradersOf : GoodIn wsX9_startCrowdAsNow (wsV RX9 168 RX0 yX0_tradersOf wsX0_tradersOf) := goodIn_app (goodIn_of _ (by decide +kernel)) ggX9_startCrowdAsNow_X0_tradersOf
set_option maxRecDepth 20000 in
theorem ggX9_startCrowdAsNow_X1_gather : GoodIn wsX9_startCrowdAsNow wsX1_gather := goodIn_r _ [97, 98, 63, 55, 64, 99, 54, 56, 100, 101, 142, 143, 144, 145, 146, 147, 148] (by decide +kernel) (by decide +kernel)
set_option maxRecDepth 20000 in
theorem gX9_startCrowdAsNow_X1_gather : GoodIn wsX9_startCrowdAsNow (wsV RX9 161 RX1 yX1_gather wsX1_gather) := goodIn_app (goodIn_of _ (by decide +kernel)) ggX9_startCrowdAsNow_X1_gather
set_option maxRecDepth 20000 in
theorem ggX9_startCrowdAsNow_X6_of : GoodIn wsX9_startCrowdAsNow wsX6_of := goodIn_r _ [106, 107, 108, 24, 25, 26, 149, 150, 151] (by decide +kernel) (by decide +kernel)
set_option maxRecDepth 20000 in
theorem gX9_startCrowdAsNow_X6_of : GoodIn wsX9_startCrowdAsNow (wsV RX9 105 RX6 yX6_of wsX6_of) := goodIn_app (goodIn_of _ (by decide +kernel)) ggX9_startCrowdAsNow_X6_of
set_option maxRecDepth 20000 in
theorem ggX9_startCrowdAsNow_X1_begin : GoodIn wsX9_startCrowdAsNow wsX1_begin := goodIn_r _ [112, 113, 114, 115, 116, 117, 118, 119, 120, 85, 121, 122, 123, 25, 124, 142, 143, 144, 145, 146, 147, 148] (by decide +kernel) (by decide +kernel)
set_option maxRecDepth 20000 in
theorem gX9_startCrowdAsNow_X1_begin : GoodIn wsX9_startCrowdAsNow (wsV RX9 165 RX1 yX1_begin wsX1_begin) := goodIn_app (goodIn_of _ (by decide +kernel)) ggX9_startCrowdAsNow_X1_begin
theorem dX9_startCrowdAsNow_0 : decode cX9_startCrowdAsNow 0 = .ok (.aload_n 0, 1) := by decide +kernel
theorem dX9_startCrowdAsNow_1 : decode cX9_startCrowdAsNow 1 = .ok (.getfield 35, 3) := by decide +kernel
theorem dX9_startCrowdAsNow_4 : decode cX9_startCrowdAsNow 4 = .ok (.aload_n 0, 1) := by decide +kernel
theorem dX9_startCrowdAsNow_5 : decode cX9_startCrowdAsNow 5 = .ok (.iload_n 1, 1) := by decide +kernel
theorem dX9_startCrowdAsNow_6 : decode cX9_startCrowdAsNow 6 = .ok (.invokevirtual 148, 3) := by decide +kernel
theorem dX9_startCrowdAsNow_9 : decode cX9_startCrowdAsNow 9 = .ok (.aload_n 0, 1) := by decide +kernel
theorem dX9_startCrowdAsNow_10 : decode cX9_startCrowdAsNow 10 = .ok (.getfield 49, 3) := by decide +kernel
theorem dX9_startCrowdAsNow_13 : decode cX9_startCrowdAsNow 13 = .ok (.invokevirtual 151, 3) := by decide +kernel
theorem dX9_startCrowdAsNow_16 : decode cX9_startCrowdAsNow 16 = .ok (.aload_n 0, 1) := by decide +kernel
theorem dX9_startCrowdAsNow_17 : decode cX9_startCrowdAsNow 17 = .ok (.getfield 49, 3) := by decide +kernel
theorem dX9_startCrowdAsNow_20 : decode cX9_startCrowdAsNow 20 = .ok (.iconst 0, 1) := by decide +kernel
theorem dX9_startCrowdAsNow_21 : decode cX9_startCrowdAsNow 21 = .ok (.invokevirtual 154, 3) := by decide +kernel
theorem dX9_startCrowdAsNow_24 : decode cX9_startCrowdAsNow 24 = .ok (.aload_n 0, 1) := by decide +kernel
theorem dX9_startCrowdAsNow_25 : decode cX9_startCrowdAsNow 25 = .ok (.getfield 49, 3) := by decide +kernel
theorem dX9_startCrowdAsNow_28 : decode cX9_startCrowdAsNow 28 = .ok (.iconst 1, 1) := by decide +kernel
theorem dX9_startCrowdAsNow_29 : decode cX9_startCrowdAsNow 29 = .ok (.invokevirtual 154, 3) := by decide +kernel
theorem dX9_startCrowdAsNow_32 : decode cX9_startCrowdAsNow 32 = .ok (.invokevirtual 157, 3) := by decide +kernel
theorem dX9_startCrowdAsNow_35 : decode cX9_startCrowdAsNow 35 = .ok (.aload_n 0, 1) := by decide +kernel
theorem dX9_startCrowdAsNow_36 : decode cX9_startCrowdAsNow 36 = .ok (.getfield 35, 3) := by decide +kernel
theorem dX9_startCrowdAsNow_39 : decode cX9_startCrowdAsNow 39 = .ok (.aload_n 0, 1) := by decide +kernel
theorem dX9_startCrowdAsNow_40 : decode cX9_startCrowdAsNow 40 = .ok (.getfield 49, 3) := by decide +kernel
theorem dX9_startCrowdAsNow_43 : decode cX9_startCrowdAsNow 43 = .ok (.iconst 0, 1) := by decide +kernel
theorem dX9_startCrowdAsNow_44 : decode cX9_startCrowdAsNow 44 = .ok (.invokevirtual 168, 3) := by decide +kernel
theorem dX9_startCrowdAsNow_47 : decode cX9_startCrowdAsNow 47 = .ok (.aload_n 0, 1) := by decide +kernel
theorem dX9_startCrowdAsNow_48 : decode cX9_startCrowdAsNow 48 = .ok (.getfield 49, 3) := by decide +kernel
theorem dX9_startCrowdAsNow_51 : decode cX9_startCrowdAsNow 51 = .ok (.iconst 1, 1) := by decide +kernel
theorem dX9_startCrowdAsNow_52 : decode cX9_startCrowdAsNow 52 = .ok (.invokevirtual 168, 3) := by decide +kernel
theorem dX9_startCrowdAsNow_55 : decode cX9_startCrowdAsNow 55 = .ok (.invokevirtual 161, 3) := by decide +kernel
theorem dX9_startCrowdAsNow_58 : decode cX9_startCrowdAsNow 58 = .ok (.aload_n 0, 1) := by decide +kernel
theorem dX9_startCrowdAsNow_59 : decode cX9_startCrowdAsNow 59 = .ok (.getfield 35, 3) := by decide +kernel
theorem dX9_startCrowdAsNow_62 : decode cX9_startCrowdAsNow 62 = .ok (.aload_n 0, 1) := by decide +kernel
theorem dX9_startCrowdAsNow_63 : decode cX9_startCrowdAsNow 63 = .ok (.getfield 28, 3) := by decide +kernel
theorem dX9_startCrowdAsNow_66 : decode cX9_startCrowdAsNow 66 = .ok (.iload_n 1, 1) := by decide +kernel
theorem dX9_startCrowdAsNow_67 : decode cX9_startCrowdAsNow 67 = .ok (.iconst 0, 1) := by decide +kernel
theorem dX9_startCrowdAsNow_68 : decode cX9_startCrowdAsNow 68 = .ok (.invokevirtual 105, 3) := by decide +kernel
theorem dX9_startCrowdAsNow_71 : decode cX9_startCrowdAsNow 71 = .ok (.aload_n 0, 1) := by decide +kernel
theorem dX9_startCrowdAsNow_72 : decode cX9_startCrowdAsNow 72 = .ok (.getfield 28, 3) := by decide +kernel
theorem dX9_startCrowdAsNow_75 : decode cX9_startCrowdAsNow 75 = .ok (.iload_n 1, 1) := by decide +kernel
theorem dX9_startCrowdAsNow_76 : decode cX9_startCrowdAsNow 76 = .ok (.iconst 1, 1) := by decide +kernel
theorem dX9_startCrowdAsNow_77 : decode cX9_startCrowdAsNow 77 = .ok (.invokevirtual 105, 3) := by decide +kernel
theorem dX9_startCrowdAsNow_80 : decode cX9_startCrowdAsNow 80 = .ok (.invokevirtual 165, 3) := by decide +kernel
theorem dX9_startCrowdAsNow_83 : decode cX9_startCrowdAsNow 83 = .ok (.return_, 1) := by decide +kernel
theorem dX9_draw_0 : decode cX9_draw 0 = .ok (.ldc2_w 255, 3) := by decide +kernel
theorem dX9_draw_3 : decode cX9_draw 3 = .ok (.iload_n 0, 1) := by decide +kernel
theorem dX9_draw_4 : decode cX9_draw 4 = .ok (.i2l, 1) := by decide +kernel
theorem dX9_draw_5 : decode cX9_draw 5 = .ok (.lmul, 1) := by decide +kernel
theorem dX9_draw_6 : decode cX9_draw 6 = .ok (.ldc2_w 257, 3) := by decide +kernel
theorem dX9_draw_9 : decode cX9_draw 9 = .ok (.iload_n 1, 1) := by decide +kernel
theorem dX9_draw_10 : decode cX9_draw 10 = .ok (.i2l, 1) := by decide +kernel
theorem dX9_draw_11 : decode cX9_draw 11 = .ok (.lmul, 1) := by decide +kernel
theorem dX9_draw_12 : decode cX9_draw 12 = .ok (.ladd, 1) := by decide +kernel
theorem dX9_draw_13 : decode cX9_draw 13 = .ok (.ldc2_w 259, 3) := by decide +kernel
theorem dX9_draw_16 : decode cX9_draw 16 = .ok (.iload_n 2, 1) := by decide +kernel
theorem dX9_draw_17 : decode cX9_draw 17 = .ok (.i2l, 1) := by decide +kernel
theorem dX9_draw_18 : decode cX9_draw 18 = .ok (.lmul, 1) := by decide +kernel
theorem dX9_draw_19 : decode cX9_draw 19 = .ok (.ladd, 1) := by decide +kernel
theorem dX9_draw_20 : decode cX9_draw 20 = .ok (.ldc2_w 261, 3) := by decide +kernel
theorem dX9_draw_23 : decode cX9_draw 23 = .ok (.iload_n 3, 1) := by decide +kernel
theorem dX9_draw_24 : decode cX9_draw 24 = .ok (.i2l, 1) := by decide +kernel
theorem dX9_draw_25 : decode cX9_draw 25 = .ok (.lmul, 1) := by decide +kernel
theorem dX9_draw_26 : decode cX9_draw 26 = .ok (.ladd, 1) := by decide +kernel
theorem dX9_draw_27 : decode cX9_draw 27 = .ok (.lconst 1, 1) := by decide +kernel
theorem dX9_draw_28 : decode cX9_draw 28 = .ok (.ladd, 1) := by decide +kernel
theorem dX9_draw_29 : decode cX9_draw 29 = .ok (.lstore 4, 2) := by decide +kernel
theorem dX9_draw_31 : decode cX9_draw 31 = .ok (.lload 4, 2) := by decide +kernel
theorem dX9_draw_33 : decode cX9_draw 33 = .ok (.lload 4, 2) := by decide +kernel
theorem dX9_draw_35 : decode cX9_draw 35 = .ok (.lmul, 1) := by decide +kernel
theorem dX9_draw_36 : decode cX9_draw 36 = .ok (.ldc2_w 263, 3) := by decide +kernel
theorem dX9_draw_39 : decode cX9_draw 39 = .ok (.lrem, 1) := by decide +kernel
theorem dX9_draw_40 : decode cX9_draw 40 = .ok (.l2i, 1) := by decide +kernel
theorem dX9_draw_41 : decode cX9_draw 41 = .ok (.ireturn, 1) := by decide +kernel
set_option maxRecDepth 20000 in
theorem ggX9_meetByDraw_X9_draw : GoodIn wsX9_meetByDraw wsX9_draw := goodIn_r _ [6, 7, 8, 9, 10, 11] (by decide +kernel) (by decide +kernel)
set_option maxRecDepth 20000 in
theorem gX9_meetByDraw_X9_draw : GoodIn wsX9_meetByDraw (va_wsS RX9 265 yX9_draw wsX9_draw) := goodIn_app (goodIn_of _ (by decide +kernel)) ggX9_meetByDraw_X9_draw
set_option maxRecDepth 20000 in
theorem ggX9_meetByDraw_X0_tradersOf : GoodIn wsX9_meetByDraw wsX0_tradersOf := goodIn_r _ [16, 17, 18, 19, 20, 21, 57, 58, 59, 60, 61, 62, 63, 64, 65] (by decide +kernel) (by decide +kernel)
set_option maxRecDepth 20000 in
theorem gX9_meetByDraw_X0_tradersOf : GoodIn wsX9_meetByDraw (wsV RX9 168 RX0 yX0_tradersOf wsX0_tradersOf) := goodIn_app (goodIn_of _ (by decide +kernel)) ggX9_meetByDraw_X0_tradersOf
set_option maxRecDepth 20000 in
theorem ggX9_meetByDraw_X6_of : GoodIn wsX9_meetByDraw wsX6_of := goodIn_r _ [26, 27, 28, 19, 20, 21, 66, 67, 68] (by decide +kernel) (by decide +kernel)
set_option maxRecDepth 20000 in
theorem gX9_meetByDraw_X6_of : GoodIn wsX9_meetByDraw (wsV RX9 105 RX6 yX6_of wsX6_of) := goodIn_app (goodIn_of _ (by decide +kernel)) ggX9_meetByDraw_X6_of
set_option maxRecDepth 20000 in
theorem ggX9_meetByDraw_X9_saysOther : GoodIn wsX9_meetByDraw wsX9_saysOther := goodIn_r _ [31] (by decide +kernel) (by decide +kernel)
set_option maxRecDepth 20000 in
theorem gX9_meetByDraw_X9_saysOther : GoodIn wsX9_meetByDraw (va_wsS RX9 269 yX9_saysOther wsX9_saysOther) := goodIn_app (goodIn_of _ (by decide +kernel)) ggX9_meetByDraw_X9_saysOther
set_option maxRecDepth 20000 in
theorem ggX9_meetByDraw_X0_speaksOfTen : GoodIn wsX9_meetByDraw wsX0_speaksOfTen := goodIn_r _ [35, 36, 57, 58, 59, 60, 61, 62, 63, 64, 65] (by decide +kernel) (by decide +kernel)
set_option maxRecDepth 20000 in
theorem gX9_meetByDraw_X0_speaksOfTen : GoodIn wsX9_meetByDraw (wsV RX9 151 RX0 yX0_speaksOfTen wsX0_speaksOfTen) := goodIn_app (goodIn_of _ (by decide +kernel)) ggX9_meetByDraw_X0_speaksOfTen
set_option maxRecDepth 20000 in
theorem ggX9_meetByDraw_X0_takesOfTen : GoodIn wsX9_meetByDraw wsX0_takesOfTen := goodIn_r _ [40, 41, 18, 19, 20, 21, 57, 58, 59, 60, 61, 62, 63, 64, 65] (by decide +kernel) (by decide +kernel)
set_option maxRecDepth 20000 in
theorem gX9_meetByDraw_X0_takesOfTen : GoodIn wsX9_meetByDraw (wsV RX9 154 RX0 yX0_takesOfTen wsX0_takesOfTen) := goodIn_app (goodIn_of _ (by decide +kernel)) ggX9_meetByDraw_X0_takesOfTen
set_option maxRecDepth 20000 in
theorem ggX9_meetByDraw_X6_change : GoodIn wsX9_meetByDraw wsX6_change := goodIn_r _ [45, 27, 46, 23, 24, 25, 26, 28, 19, 20, 21, 47, 48, 49, 66, 67, 68] (by decide +kernel) (by decide +kernel)
set_option maxRecDepth 20000 in
theorem gX9_meetByDraw_X6_change : GoodIn wsX9_meetByDraw (wsV RX9 273 RX6 yX6_change wsX6_change) := goodIn_app (goodIn_of _ (by decide +kernel)) ggX9_meetByDraw_X6_change
theorem dX9_meetByDraw_0 : decode cX9_meetByDraw 0 = .ok (.iload_n 1, 1) := by decide +kernel
theorem dX9_meetByDraw_1 : decode cX9_meetByDraw 1 = .ok (.iload_n 2, 1) := by decide +kernel
theorem dX9_meetByDraw_2 : decode cX9_meetByDraw 2 = .ok (.iconst 2, 1) := by decide +kernel
theorem dX9_meetByDraw_3 : decode cX9_meetByDraw 3 = .ok (.iload_n 3, 1) := by decide +kernel
theorem dX9_meetByDraw_4 : decode cX9_meetByDraw 4 = .ok (.invokestatic 265, 3) := by decide +kernel
theorem dX9_meetByDraw_7 : decode cX9_meetByDraw 7 = .ok (.aload_n 0, 1) := by decide +kernel
theorem dX9_meetByDraw_8 : decode cX9_meetByDraw 8 = .ok (.getfield 49, 3) := by decide +kernel
theorem dX9_meetByDraw_11 : decode cX9_meetByDraw 11 = .ok (.iconst 0, 1) := by decide +kernel
theorem dX9_meetByDraw_12 : decode cX9_meetByDraw 12 = .ok (.invokevirtual 168, 3) := by decide +kernel
theorem dX9_meetByDraw_15 : decode cX9_meetByDraw 15 = .ok (.aload_n 0, 1) := by decide +kernel
theorem dX9_meetByDraw_16 : decode cX9_meetByDraw 16 = .ok (.getfield 28, 3) := by decide +kernel
theorem dX9_meetByDraw_19 : decode cX9_meetByDraw 19 = .ok (.iload_n 3, 1) := by decide +kernel
theorem dX9_meetByDraw_20 : decode cX9_meetByDraw 20 = .ok (.iconst 0, 1) := by decide +kernel
theorem dX9_meetByDraw_21 : decode cX9_meetByDraw 21 = .ok (.invokevirtual 105, 3) := by decide +kernel
theorem dX9_meetByDraw_24 : decode cX9_meetByDraw 24 = .ok (.invokestatic 269, 3) := by decide +kernel
theorem dX9_meetByDraw_27 : decode cX9_meetByDraw 27 = .ok (.istore 4, 2) := by decide +kernel
theorem dX9_meetByDraw_29 : decode cX9_meetByDraw 29 = .ok (.iload_n 1, 1) := by decide +kernel
theorem dX9_meetByDraw_30 : decode cX9_meetByDraw 30 = .ok (.iload_n 2, 1) := by decide +kernel
theorem dX9_meetByDraw_31 : decode cX9_meetByDraw 31 = .ok (.iconst 3, 1) := by decide +kernel
theorem dX9_meetByDraw_32 : decode cX9_meetByDraw 32 = .ok (.iload_n 3, 1) := by decide +kernel
theorem dX9_meetByDraw_33 : decode cX9_meetByDraw 33 = .ok (.invokestatic 265, 3) := by decide +kernel
theorem dX9_meetByDraw_36 : decode cX9_meetByDraw 36 = .ok (.aload_n 0, 1) := by decide +kernel
theorem dX9_meetByDraw_37 : decode cX9_meetByDraw 37 = .ok (.getfield 49, 3) := by decide +kernel
theorem dX9_meetByDraw_40 : decode cX9_meetByDraw 40 = .ok (.iconst 1, 1) := by decide +kernel
theorem dX9_meetByDraw_41 : decode cX9_meetByDraw 41 = .ok (.invokevirtual 168, 3) := by decide +kernel
theorem dX9_meetByDraw_44 : decode cX9_meetByDraw 44 = .ok (.aload_n 0, 1) := by decide +kernel
theorem dX9_meetByDraw_45 : decode cX9_meetByDraw 45 = .ok (.getfield 28, 3) := by decide +kernel
theorem dX9_meetByDraw_48 : decode cX9_meetByDraw 48 = .ok (.iload_n 3, 1) := by decide +kernel
theorem dX9_meetByDraw_49 : decode cX9_meetByDraw 49 = .ok (.iconst 1, 1) := by decide +kernel
theorem dX9_meetByDraw_50 : decode cX9_meetByDraw 50 = .ok (.invokevirtual 105, 3) := by decide +kernel
theorem dX9_meetByDraw_53 : decode cX9_meetByDraw 53 = .ok (.invokestatic 269, 3) := by decide +kernel
theorem dX9_meetByDraw_56 : decode cX9_meetByDraw 56 = .ok (.istore 5, 2) := by decide +kernel
theorem dX9_meetByDraw_58 : decode cX9_meetByDraw 58 = .ok (.iload 4, 2) := by decide +kernel
theorem dX9_meetByDraw_60 : decode cX9_meetByDraw 60 = .ok (.iload 5, 2) := by decide +kernel
theorem dX9_meetByDraw_62 : decode cX9_meetByDraw 62 = .ok (.if_icmp .eq 4, 3) := by decide +kernel
theorem dX9_meetByDraw_65 : decode cX9_meetByDraw 65 = .ok (.return_, 1) := by decide +kernel
theorem dX9_meetByDraw_66 : decode cX9_meetByDraw 66 = .ok (.iload_n 1, 1) := by decide +kernel
theorem dX9_meetByDraw_67 : decode cX9_meetByDraw 67 = .ok (.iload_n 2, 1) := by decide +kernel
theorem dX9_meetByDraw_68 : decode cX9_meetByDraw 68 = .ok (.iconst 1, 1) := by decide +kernel
theorem dX9_meetByDraw_69 : decode cX9_meetByDraw 69 = .ok (.iload_n 3, 1) := by decide +kernel
theorem dX9_meetByDraw_70 : decode cX9_meetByDraw 70 = .ok (.invokestatic 265, 3) := by decide +kernel
theorem dX9_meetByDraw_73 : decode cX9_meetByDraw 73 = .ok (.bipush 10, 2) := by decide +kernel
theorem dX9_meetByDraw_75 : decode cX9_meetByDraw 75 = .ok (.irem, 1) := by decide +kernel
theorem dX9_meetByDraw_76 : decode cX9_meetByDraw 76 = .ok (.aload_n 0, 1) := by decide +kernel
theorem dX9_meetByDraw_77 : decode cX9_meetByDraw 77 = .ok (.getfield 49, 3) := by decide +kernel
theorem dX9_meetByDraw_80 : decode cX9_meetByDraw 80 = .ok (.invokevirtual 151, 3) := by decide +kernel
theorem dX9_meetByDraw_83 : decode cX9_meetByDraw 83 = .ok (.if_icmp .ge 7, 3) := by decide +kernel
theorem dX9_meetByDraw_86 : decode cX9_meetByDraw 86 = .ok (.iconst 1, 1) := by decide +kernel
theorem dX9_meetByDraw_87 : decode cX9_meetByDraw 87 = .ok (.goto 4, 3) := by decide +kernel
theorem dX9_meetByDraw_90 : decode cX9_meetByDraw 90 = .ok (.iconst 0, 1) := by decide +kernel
theorem dX9_meetByDraw_91 : decode cX9_meetByDraw 91 = .ok (.istore 6, 2) := by decide +kernel
theorem dX9_meetByDraw_93 : decode cX9_meetByDraw 93 = .ok (.iload_n 1, 1) := by decide +kernel
theorem dX9_meetByDraw_94 : decode cX9_meetByDraw 94 = .ok (.iload_n 2, 1) := by decide +kernel
theorem dX9_meetByDraw_95 : decode cX9_meetByDraw 95 = .ok (.iconst 4, 1) := by decide +kernel
theorem dX9_meetByDraw_96 : decode cX9_meetByDraw 96 = .ok (.iload_n 3, 1) := by decide +kernel
theorem dX9_meetByDraw_97 : decode cX9_meetByDraw 97 = .ok (.invokestatic 265, 3) := by decide +kernel
theorem dX9_meetByDraw_100 : decode cX9_meetByDraw 100 = .ok (.bipush 10, 2) := by decide +kernel
theorem dX9_meetByDraw_102 : decode cX9_meetByDraw 102 = .ok (.irem, 1) := by decide +kernel
theorem dX9_meetByDraw_103 : decode cX9_meetByDraw 103 = .ok (.aload_n 0, 1) := by decide +kernel
theorem dX9_meetByDraw_104 : decode cX9_meetByDraw 104 = .ok (.getfield 49, 3) := by decide +kernel
theorem dX9_meetByDraw_107 : decode cX9_meetByDraw 107 = .ok (.iload 6, 2) := by decide +kernel
theorem dX9_meetByDraw_109 : decode cX9_meetByDraw 109 = .ok (.invokevirtual 154, 3) := by decide +kernel
theorem dX9_meetByDraw_112 : decode cX9_meetByDraw 112 = .ok (.if_icmp .ge 23, 3) := by decide +kernel
theorem dX9_meetByDraw_115 : decode cX9_meetByDraw 115 = .ok (.aload_n 0, 1) := by decide +kernel
theorem dX9_meetByDraw_116 : decode cX9_meetByDraw 116 = .ok (.getfield 28, 3) := by decide +kernel
theorem dX9_meetByDraw_119 : decode cX9_meetByDraw 119 = .ok (.iload_n 3, 1) := by decide +kernel
theorem dX9_meetByDraw_120 : decode cX9_meetByDraw 120 = .ok (.iload 6, 2) := by decide +kernel
theorem dX9_meetByDraw_122 : decode cX9_meetByDraw 122 = .ok (.iload 4, 2) := by decide +kernel
theorem dX9_meetByDraw_124 : decode cX9_meetByDraw 124 = .ok (.ifCond .eq 7, 3) := by decide +kernel
theorem dX9_meetByDraw_127 : decode cX9_meetByDraw 127 = .ok (.iconst (-1), 1) := by decide +kernel
theorem dX9_meetByDraw_128 : decode cX9_meetByDraw 128 = .ok (.goto 4, 3) := by decide +kernel
theorem dX9_meetByDraw_131 : decode cX9_meetByDraw 131 = .ok (.iconst 1, 1) := by decide +kernel
theorem dX9_meetByDraw_132 : decode cX9_meetByDraw 132 = .ok (.invokevirtual 273, 3) := by decide +kernel
theorem dX9_meetByDraw_135 : decode cX9_meetByDraw 135 = .ok (.return_, 1) := by decide +kernel
theorem dX9_saysOther_0 : decode cX9_saysOther 0 = .ok (.iload_n 1, 1) := by decide +kernel
theorem dX9_saysOther_1 : decode cX9_saysOther 1 = .ok (.ifCond .le 14, 3) := by decide +kernel
theorem dX9_saysOther_4 : decode cX9_saysOther 4 = .ok (.iload_n 0, 1) := by decide +kernel
theorem dX9_saysOther_5 : decode cX9_saysOther 5 = .ok (.iload_n 1, 1) := by decide +kernel
theorem dX9_saysOther_6 : decode cX9_saysOther 6 = .ok (.irem, 1) := by decide +kernel
theorem dX9_saysOther_7 : decode cX9_saysOther 7 = .ok (.iload_n 2, 1) := by decide +kernel
theorem dX9_saysOther_8 : decode cX9_saysOther 8 = .ok (.if_icmp .ge 7, 3) := by decide +kernel
theorem dX9_saysOther_11 : decode cX9_saysOther 11 = .ok (.iconst 1, 1) := by decide +kernel
theorem dX9_saysOther_12 : decode cX9_saysOther 12 = .ok (.goto 4, 3) := by decide +kernel
theorem dX9_saysOther_15 : decode cX9_saysOther 15 = .ok (.iconst 0, 1) := by decide +kernel
theorem dX9_saysOther_16 : decode cX9_saysOther 16 = .ok (.ireturn, 1) := by decide +kernel
set_option maxRecDepth 20000 in
theorem ggX9_tongueBits_X0_tradersOf : GoodIn wsX9_tongueBits wsX0_tradersOf := goodIn_r _ [7, 8, 9, 10, 11, 12, 95, 96, 97, 98, 99, 100, 101, 102, 103] (by decide +kernel) (by decide +kernel)
set_option maxRecDepth 20000 in
theorem gX9_tongueBits_X0_tradersOf : GoodIn wsX9_tongueBits (wsV RX9 168 RX0 yX0_tradersOf wsX0_tradersOf) := goodIn_app (goodIn_of _ (by decide +kernel)) ggX9_tongueBits_X0_tradersOf
set_option maxRecDepth 20000 in
theorem ggX9_tongueBits_X0_isTold : GoodIn wsX9_tongueBits wsX0_isTold := goodIn_r _ [16, 17, 18, 19, 6, 20, 21, 22, 23, 24, 9, 10, 11, 12, 95, 96, 97, 98, 99, 100, 101, 102, 103] (by decide +kernel) (by decide +kernel)
set_option maxRecDepth 20000 in
theorem gX9_tongueBits_X0_isTold : GoodIn wsX9_tongueBits (wsV RX9 99 RX0 yX0_isTold wsX0_isTold) := goodIn_app (goodIn_of _ (by decide +kernel)) ggX9_tongueBits_X0_isTold
set_option maxRecDepth 20000 in
theorem ggX9_tongueBits_X6_of : GoodIn wsX9_tongueBits wsX6_of := goodIn_r _ [29, 30, 31, 10, 11, 12, 104, 105, 106] (by decide +kernel) (by decide +kernel)
set_option maxRecDepth 20000 in
theorem gX9_tongueBits_X6_of : GoodIn wsX9_tongueBits (wsV RX9 105 RX6 yX6_of wsX6_of) := goodIn_app (goodIn_of _ (by decide +kernel)) ggX9_tongueBits_X6_of
set_option maxRecDepth 20000 in
theorem ggX9_tongueBits_X9_isAlike : GoodIn wsX9_tongueBits wsX9_isAlike := goodIn_r _ [36, 1, 37, 38, 39, 35, 40, 41, 42, 18, 19, 6, 20, 21, 22, 23, 24, 9, 10, 11, 12, 43, 44, 45, 46, 47, 48, 49, 50, 51, 52, 53, 54, 55, 56, 57, 58, 59, 60, 61, 62, 63, 64, 65, 66, 67, 68, 69, 70, 71, 72, 73, 74, 75, 76, 77, 78, 79, 80, 81, 82, 83, 84, 85, 86, 87, 88, 89, 90, 91, 92, 93, 94, 95, 96, 97, 98, 99, 100, 101, 102, 103, 107] (by decide +kernel) (by decide +kernel)
set_option maxRecDepth 20000 in
theorem gX9_tongueBits_X9_isAlike : GoodIn wsX9_tongueBits (wsV RX9 148 RX9 yX9_isAlike wsX9_isAlike) := goodIn_app (goodIn_of _ (by decide +kernel)) ggX9_tongueBits_X9_isAlike
theorem dX9_tongueBits_0 : decode cX9_tongueBits 0 = .ok (.iload_n 1, 1) := by decide +kernel
theorem dX9_tongueBits_1 : decode cX9_tongueBits 1 = .ok (.ifCond .ne 7, 3) := by decide +kernel
theorem dX9_tongueBits_4 : decode cX9_tongueBits 4 = .ok (.iconst 0, 1) := by decide +kernel
theorem dX9_tongueBits_5 : decode cX9_tongueBits 5 = .ok (.goto 11, 3) := by decide +kernel
theorem dX9_tongueBits_8 : decode cX9_tongueBits 8 = .ok (.aload_n 0, 1) := by decide +kernel
theorem dX9_tongueBits_9 : decode cX9_tongueBits 9 = .ok (.getfield 49, 3) := by decide +kernel
theorem dX9_tongueBits_12 : decode cX9_tongueBits 12 = .ok (.iconst 0, 1) := by decide +kernel
theorem dX9_tongueBits_13 : decode cX9_tongueBits 13 = .ok (.invokevirtual 168, 3) := by decide +kernel
theorem dX9_tongueBits_16 : decode cX9_tongueBits 16 = .ok (.istore_n 2, 1) := by decide +kernel
theorem dX9_tongueBits_17 : decode cX9_tongueBits 17 = .ok (.iload_n 1, 1) := by decide +kernel
theorem dX9_tongueBits_18 : decode cX9_tongueBits 18 = .ok (.ifCond .ne 14, 3) := by decide +kernel
theorem dX9_tongueBits_21 : decode cX9_tongueBits 21 = .ok (.aload_n 0, 1) := by decide +kernel
theorem dX9_tongueBits_22 : decode cX9_tongueBits 22 = .ok (.getfield 49, 3) := by decide +kernel
theorem dX9_tongueBits_25 : decode cX9_tongueBits 25 = .ok (.iconst 1, 1) := by decide +kernel
theorem dX9_tongueBits_26 : decode cX9_tongueBits 26 = .ok (.invokevirtual 168, 3) := by decide +kernel
theorem dX9_tongueBits_29 : decode cX9_tongueBits 29 = .ok (.goto 4, 3) := by decide +kernel
theorem dX9_tongueBits_32 : decode cX9_tongueBits 32 = .ok (.iconst 0, 1) := by decide +kernel
theorem dX9_tongueBits_33 : decode cX9_tongueBits 33 = .ok (.istore_n 3, 1) := by decide +kernel
theorem dX9_tongueBits_34 : decode cX9_tongueBits 34 = .ok (.iconst 0, 1) := by decide +kernel
theorem dX9_tongueBits_35 : decode cX9_tongueBits 35 = .ok (.istore 4, 2) := by decide +kernel
theorem dX9_tongueBits_37 : decode cX9_tongueBits 37 = .ok (.iconst 0, 1) := by decide +kernel
theorem dX9_tongueBits_38 : decode cX9_tongueBits 38 = .ok (.istore 5, 2) := by decide +kernel
theorem dX9_tongueBits_40 : decode cX9_tongueBits 40 = .ok (.iload 5, 2) := by decide +kernel
theorem dX9_tongueBits_42 : decode cX9_tongueBits 42 = .ok (.bipush 8, 2) := by decide +kernel
theorem dX9_tongueBits_44 : decode cX9_tongueBits 44 = .ok (.if_icmp .ge 67, 3) := by decide +kernel
theorem dX9_tongueBits_47 : decode cX9_tongueBits 47 = .ok (.aload_n 0, 1) := by decide +kernel
theorem dX9_tongueBits_48 : decode cX9_tongueBits 48 = .ok (.getfield 49, 3) := by decide +kernel
theorem dX9_tongueBits_51 : decode cX9_tongueBits 51 = .ok (.iload 5, 2) := by decide +kernel
theorem dX9_tongueBits_53 : decode cX9_tongueBits 53 = .ok (.invokevirtual 99, 3) := by decide +kernel
theorem dX9_tongueBits_56 : decode cX9_tongueBits 56 = .ok (.ifCond .eq 49, 3) := by decide +kernel
theorem dX9_tongueBits_59 : decode cX9_tongueBits 59 = .ok (.aload_n 0, 1) := by decide +kernel
theorem dX9_tongueBits_60 : decode cX9_tongueBits 60 = .ok (.getfield 28, 3) := by decide +kernel
theorem dX9_tongueBits_63 : decode cX9_tongueBits 63 = .ok (.iload 5, 2) := by decide +kernel
theorem dX9_tongueBits_65 : decode cX9_tongueBits 65 = .ok (.iconst 0, 1) := by decide +kernel
theorem dX9_tongueBits_66 : decode cX9_tongueBits 66 = .ok (.invokevirtual 105, 3) := by decide +kernel
theorem dX9_tongueBits_69 : decode cX9_tongueBits 69 = .ok (.iload_n 2, 1) := by decide +kernel
theorem dX9_tongueBits_70 : decode cX9_tongueBits 70 = .ok (.if_icmp .ne 17, 3) := by decide +kernel
theorem dX9_tongueBits_73 : decode cX9_tongueBits 73 = .ok (.aload_n 0, 1) := by decide +kernel
theorem dX9_tongueBits_74 : decode cX9_tongueBits 74 = .ok (.getfield 28, 3) := by decide +kernel
theorem dX9_tongueBits_77 : decode cX9_tongueBits 77 = .ok (.iload 5, 2) := by decide +kernel
theorem dX9_tongueBits_79 : decode cX9_tongueBits 79 = .ok (.iconst 1, 1) := by decide +kernel
theorem dX9_tongueBits_80 : decode cX9_tongueBits 80 = .ok (.invokevirtual 105, 3) := by decide +kernel
theorem dX9_tongueBits_83 : decode cX9_tongueBits 83 = .ok (.iload_n 3, 1) := by decide +kernel
theorem dX9_tongueBits_84 : decode cX9_tongueBits 84 = .ok (.if_icmp .eq 12, 3) := by decide +kernel
theorem dX9_tongueBits_87 : decode cX9_tongueBits 87 = .ok (.aload_n 0, 1) := by decide +kernel
theorem dX9_tongueBits_88 : decode cX9_tongueBits 88 = .ok (.iload 5, 2) := by decide +kernel
theorem dX9_tongueBits_90 : decode cX9_tongueBits 90 = .ok (.invokevirtual 148, 3) := by decide +kernel
theorem dX9_tongueBits_93 : decode cX9_tongueBits 93 = .ok (.ifCond .eq 12, 3) := by decide +kernel
theorem dX9_tongueBits_96 : decode cX9_tongueBits 96 = .ok (.iload 4, 2) := by decide +kernel
theorem dX9_tongueBits_98 : decode cX9_tongueBits 98 = .ok (.iconst 1, 1) := by decide +kernel
theorem dX9_tongueBits_99 : decode cX9_tongueBits 99 = .ok (.iload 5, 2) := by decide +kernel
theorem dX9_tongueBits_101 : decode cX9_tongueBits 101 = .ok (.ishl, 1) := by decide +kernel
theorem dX9_tongueBits_102 : decode cX9_tongueBits 102 = .ok (.ior, 1) := by decide +kernel
theorem dX9_tongueBits_103 : decode cX9_tongueBits 103 = .ok (.istore 4, 2) := by decide +kernel
theorem dX9_tongueBits_105 : decode cX9_tongueBits 105 = .ok (.iinc 5 1, 3) := by decide +kernel
theorem dX9_tongueBits_108 : decode cX9_tongueBits 108 = .ok (.goto (-68), 3) := by decide +kernel
theorem dX9_tongueBits_111 : decode cX9_tongueBits 111 = .ok (.iload 4, 2) := by decide +kernel
theorem dX9_tongueBits_113 : decode cX9_tongueBits 113 = .ok (.ireturn, 1) := by decide +kernel
set_option maxRecDepth 20000 in
theorem ggX9_likeOfWordThere_X3_likeness : GoodIn wsX9_likeOfWordThere wsX3_likeness := goodIn_r _ [6, 7, 8, 9, 10, 11, 12, 13, 14, 15, 16, 17, 5, 18, 19, 20, 21, 22, 23, 24, 25, 33] (by decide +kernel) (by decide +kernel)
set_option maxRecDepth 20000 in
theorem gX9_likeOfWordThere_X3_likeness : GoodIn wsX9_likeOfWordThere (wsV RX9 199 RX3 yX3_likeness wsX3_likeness) := goodIn_app (goodIn_of _ (by decide +kernel)) ggX9_likeOfWordThere_X3_likeness
theorem dX9_likeOfWordThere_0 : decode cX9_likeOfWordThere 0 = .ok (.iload_n 2, 1) := by decide +kernel
theorem dX9_likeOfWordThere_1 : decode cX9_likeOfWordThere 1 = .ok (.ifCond .ne 7, 3) := by decide +kernel
theorem dX9_likeOfWordThere_4 : decode cX9_likeOfWordThere 4 = .ok (.iconst (-1), 1) := by decide +kernel
theorem dX9_likeOfWordThere_5 : decode cX9_likeOfWordThere 5 = .ok (.goto 12, 3) := by decide +kernel
theorem dX9_likeOfWordThere_8 : decode cX9_likeOfWordThere 8 = .ok (.aload_n 0, 1) := by decide +kernel
theorem dX9_likeOfWordThere_9 : decode cX9_likeOfWordThere 9 = .ok (.getfield 42, 3) := by decide +kernel
theorem dX9_likeOfWordThere_12 : decode cX9_likeOfWordThere 12 = .ok (.iload_n 1, 1) := by decide +kernel
theorem dX9_likeOfWordThere_13 : decode cX9_likeOfWordThere 13 = .ok (.iload_n 2, 1) := by decide +kernel
theorem dX9_likeOfWordThere_14 : decode cX9_likeOfWordThere 14 = .ok (.invokevirtual 199, 3) := by decide +kernel
theorem dX9_likeOfWordThere_17 : decode cX9_likeOfWordThere 17 = .ok (.ireturn, 1) := by decide +kernel
set_option maxRecDepth 20000 in
theorem ggX9_apartFromOtherEars_X0_heardBy : GoodIn wsX9_apartFromOtherEars wsX0_heardBy := goodIn_r _ [7, 8, 9, 10, 6, 11, 12, 13, 14, 15, 40, 41, 42, 43, 44, 45, 46, 47, 48] (by decide +kernel) (by decide +kernel)
set_option maxRecDepth 20000 in
theorem gX9_apartFromOtherEars_X0_heardBy : GoodIn wsX9_apartFromOtherEars (wsV RX9 185 RX0 yX0_heardBy wsX0_heardBy) := goodIn_app (goodIn_of _ (by decide +kernel)) ggX9_apartFromOtherEars_X0_heardBy
set_option maxRecDepth 20000 in
theorem ggX9_apartFromOtherEars_X3_apart : GoodIn wsX9_apartFromOtherEars wsX3_apart := goodIn_r _ [20, 21, 22, 23, 24, 25, 26, 27, 28, 29, 30, 31, 32, 49] (by decide +kernel) (by decide +kernel)
set_option maxRecDepth 20000 in
theorem gX9_apartFromOtherEars_X3_apart : GoodIn wsX9_apartFromOtherEars (wsV RX9 96 RX3 yX3_apart wsX3_apart) := goodIn_app (goodIn_of _ (by decide +kernel)) ggX9_apartFromOtherEars_X3_apart
theorem dX9_apartFromOtherEars_0 : decode cX9_apartFromOtherEars 0 = .ok (.iconst 0, 1) := by decide +kernel
theorem dX9_apartFromOtherEars_1 : decode cX9_apartFromOtherEars 1 = .ok (.istore_n 3, 1) := by decide +kernel
theorem dX9_apartFromOtherEars_2 : decode cX9_apartFromOtherEars 2 = .ok (.iconst 0, 1) := by decide +kernel
theorem dX9_apartFromOtherEars_3 : decode cX9_apartFromOtherEars 3 = .ok (.istore 4, 2) := by decide +kernel
theorem dX9_apartFromOtherEars_5 : decode cX9_apartFromOtherEars 5 = .ok (.iload 4, 2) := by decide +kernel
theorem dX9_apartFromOtherEars_7 : decode cX9_apartFromOtherEars 7 = .ok (.iconst 3, 1) := by decide +kernel
theorem dX9_apartFromOtherEars_8 : decode cX9_apartFromOtherEars 8 = .ok (.if_icmp .ge 53, 3) := by decide +kernel
theorem dX9_apartFromOtherEars_11 : decode cX9_apartFromOtherEars 11 = .ok (.aload_n 0, 1) := by decide +kernel
theorem dX9_apartFromOtherEars_12 : decode cX9_apartFromOtherEars 12 = .ok (.getfield 49, 3) := by decide +kernel
theorem dX9_apartFromOtherEars_15 : decode cX9_apartFromOtherEars 15 = .ok (.iload 4, 2) := by decide +kernel
theorem dX9_apartFromOtherEars_17 : decode cX9_apartFromOtherEars 17 = .ok (.iload_n 2, 1) := by decide +kernel
theorem dX9_apartFromOtherEars_18 : decode cX9_apartFromOtherEars 18 = .ok (.invokevirtual 185, 3) := by decide +kernel
theorem dX9_apartFromOtherEars_21 : decode cX9_apartFromOtherEars 21 = .ok (.istore 5, 2) := by decide +kernel
theorem dX9_apartFromOtherEars_23 : decode cX9_apartFromOtherEars 23 = .ok (.iload 4, 2) := by decide +kernel
theorem dX9_apartFromOtherEars_25 : decode cX9_apartFromOtherEars 25 = .ok (.iload_n 1, 1) := by decide +kernel
theorem dX9_apartFromOtherEars_26 : decode cX9_apartFromOtherEars 26 = .ok (.if_icmp .eq 29, 3) := by decide +kernel
theorem dX9_apartFromOtherEars_29 : decode cX9_apartFromOtherEars 29 = .ok (.iload 5, 2) := by decide +kernel
theorem dX9_apartFromOtherEars_31 : decode cX9_apartFromOtherEars 31 = .ok (.ifCond .eq 24, 3) := by decide +kernel
theorem dX9_apartFromOtherEars_34 : decode cX9_apartFromOtherEars 34 = .ok (.iload_n 3, 1) := by decide +kernel
theorem dX9_apartFromOtherEars_35 : decode cX9_apartFromOtherEars 35 = .ok (.aload_n 0, 1) := by decide +kernel
theorem dX9_apartFromOtherEars_36 : decode cX9_apartFromOtherEars 36 = .ok (.getfield 42, 3) := by decide +kernel
theorem dX9_apartFromOtherEars_39 : decode cX9_apartFromOtherEars 39 = .ok (.aload_n 0, 1) := by decide +kernel
theorem dX9_apartFromOtherEars_40 : decode cX9_apartFromOtherEars 40 = .ok (.getfield 49, 3) := by decide +kernel
theorem dX9_apartFromOtherEars_43 : decode cX9_apartFromOtherEars 43 = .ok (.iload_n 1, 1) := by decide +kernel
theorem dX9_apartFromOtherEars_44 : decode cX9_apartFromOtherEars 44 = .ok (.iload_n 2, 1) := by decide +kernel
theorem dX9_apartFromOtherEars_45 : decode cX9_apartFromOtherEars 45 = .ok (.invokevirtual 185, 3) := by decide +kernel
theorem dX9_apartFromOtherEars_48 : decode cX9_apartFromOtherEars 48 = .ok (.iload 5, 2) := by decide +kernel
theorem dX9_apartFromOtherEars_50 : decode cX9_apartFromOtherEars 50 = .ok (.invokevirtual 96, 3) := by decide +kernel
theorem dX9_apartFromOtherEars_53 : decode cX9_apartFromOtherEars 53 = .ok (.iadd, 1) := by decide +kernel
theorem dX9_apartFromOtherEars_54 : decode cX9_apartFromOtherEars 54 = .ok (.istore_n 3, 1) := by decide +kernel
theorem dX9_apartFromOtherEars_55 : decode cX9_apartFromOtherEars 55 = .ok (.iinc 4 1, 3) := by decide +kernel
theorem dX9_apartFromOtherEars_58 : decode cX9_apartFromOtherEars 58 = .ok (.goto (-53), 3) := by decide +kernel
theorem dX9_apartFromOtherEars_61 : decode cX9_apartFromOtherEars 61 = .ok (.iload_n 3, 1) := by decide +kernel
theorem dX9_apartFromOtherEars_62 : decode cX9_apartFromOtherEars 62 = .ok (.ireturn, 1) := by decide +kernel
theorem dX9_nextGeneration_0 : decode cX9_nextGeneration 0 = .ok (.lconst 1, 1) := by decide +kernel
theorem dX9_nextGeneration_1 : decode cX9_nextGeneration 1 = .ok (.lstore_n 2, 1) := by decide +kernel
theorem dX9_nextGeneration_2 : decode cX9_nextGeneration 2 = .ok (.lconst 1, 1) := by decide +kernel
theorem dX9_nextGeneration_3 : decode cX9_nextGeneration 3 = .ok (.lstore 4, 2) := by decide +kernel
theorem dX9_nextGeneration_5 : decode cX9_nextGeneration 5 = .ok (.iconst 0, 1) := by decide +kernel
theorem dX9_nextGeneration_6 : decode cX9_nextGeneration 6 = .ok (.istore 6, 2) := by decide +kernel
theorem dX9_nextGeneration_8 : decode cX9_nextGeneration 8 = .ok (.iload 6, 2) := by decide +kernel
theorem dX9_nextGeneration_10 : decode cX9_nextGeneration 10 = .ok (.iload_n 1, 1) := by decide +kernel
theorem dX9_nextGeneration_11 : decode cX9_nextGeneration 11 = .ok (.if_icmp .ge 25, 3) := by decide +kernel
theorem dX9_nextGeneration_14 : decode cX9_nextGeneration 14 = .ok (.lload_n 2, 1) := by decide +kernel
theorem dX9_nextGeneration_15 : decode cX9_nextGeneration 15 = .ok (.iload_n 0, 1) := by decide +kernel
theorem dX9_nextGeneration_16 : decode cX9_nextGeneration 16 = .ok (.i2l, 1) := by decide +kernel
theorem dX9_nextGeneration_17 : decode cX9_nextGeneration 17 = .ok (.lmul, 1) := by decide +kernel
theorem dX9_nextGeneration_18 : decode cX9_nextGeneration 18 = .ok (.lstore_n 2, 1) := by decide +kernel
theorem dX9_nextGeneration_19 : decode cX9_nextGeneration 19 = .ok (.lload 4, 2) := by decide +kernel
theorem dX9_nextGeneration_21 : decode cX9_nextGeneration 21 = .ok (.sipush 1000, 3) := by decide +kernel
theorem dX9_nextGeneration_24 : decode cX9_nextGeneration 24 = .ok (.iload_n 0, 1) := by decide +kernel
theorem dX9_nextGeneration_25 : decode cX9_nextGeneration 25 = .ok (.isub, 1) := by decide +kernel
theorem dX9_nextGeneration_26 : decode cX9_nextGeneration 26 = .ok (.i2l, 1) := by decide +kernel
theorem dX9_nextGeneration_27 : decode cX9_nextGeneration 27 = .ok (.lmul, 1) := by decide +kernel
theorem dX9_nextGeneration_28 : decode cX9_nextGeneration 28 = .ok (.lstore 4, 2) := by decide +kernel
theorem dX9_nextGeneration_30 : decode cX9_nextGeneration 30 = .ok (.iinc 6 1, 3) := by decide +kernel
theorem dX9_nextGeneration_33 : decode cX9_nextGeneration 33 = .ok (.goto (-25), 3) := by decide +kernel
theorem dX9_nextGeneration_36 : decode cX9_nextGeneration 36 = .ok (.lload_n 2, 1) := by decide +kernel
theorem dX9_nextGeneration_37 : decode cX9_nextGeneration 37 = .ok (.lload 4, 2) := by decide +kernel
theorem dX9_nextGeneration_39 : decode cX9_nextGeneration 39 = .ok (.ladd, 1) := by decide +kernel
theorem dX9_nextGeneration_40 : decode cX9_nextGeneration 40 = .ok (.lstore 6, 2) := by decide +kernel
theorem dX9_nextGeneration_42 : decode cX9_nextGeneration 42 = .ok (.lload 6, 2) := by decide +kernel
theorem dX9_nextGeneration_44 : decode cX9_nextGeneration 44 = .ok (.lconst 0, 1) := by decide +kernel
theorem dX9_nextGeneration_45 : decode cX9_nextGeneration 45 = .ok (.lcmp, 1) := by decide +kernel
theorem dX9_nextGeneration_46 : decode cX9_nextGeneration 46 = .ok (.ifCond .le 15, 3) := by decide +kernel
theorem dX9_nextGeneration_49 : decode cX9_nextGeneration 49 = .ok (.lload_n 2, 1) := by decide +kernel
theorem dX9_nextGeneration_50 : decode cX9_nextGeneration 50 = .ok (.ldc2_w 146, 3) := by decide +kernel
theorem dX9_nextGeneration_53 : decode cX9_nextGeneration 53 = .ok (.lmul, 1) := by decide +kernel
theorem dX9_nextGeneration_54 : decode cX9_nextGeneration 54 = .ok (.lload 6, 2) := by decide +kernel
theorem dX9_nextGeneration_56 : decode cX9_nextGeneration 56 = .ok (.ldiv, 1) := by decide +kernel
theorem dX9_nextGeneration_57 : decode cX9_nextGeneration 57 = .ok (.l2i, 1) := by decide +kernel
theorem dX9_nextGeneration_58 : decode cX9_nextGeneration 58 = .ok (.goto 4, 3) := by decide +kernel
theorem dX9_nextGeneration_61 : decode cX9_nextGeneration 61 = .ok (.iconst 0, 1) := by decide +kernel
theorem dX9_nextGeneration_62 : decode cX9_nextGeneration 62 = .ok (.ireturn, 1) := by decide +kernel
theorem dX10_in_0 : decode cX10_in 0 = .ok (.lload_n 0, 1) := by decide +kernel
theorem dX10_in_1 : decode cX10_in 1 = .ok (.lload_n 2, 1) := by decide +kernel
theorem dX10_in_2 : decode cX10_in 2 = .ok (.lcmp, 1) := by decide +kernel
theorem dX10_in_3 : decode cX10_in 3 = .ok (.ifCond .lt 14, 3) := by decide +kernel
theorem dX10_in_6 : decode cX10_in 6 = .ok (.lload_n 0, 1) := by decide +kernel
theorem dX10_in_7 : decode cX10_in 7 = .ok (.lload 4, 2) := by decide +kernel
theorem dX10_in_9 : decode cX10_in 9 = .ok (.lcmp, 1) := by decide +kernel
theorem dX10_in_10 : decode cX10_in 10 = .ok (.ifCond .gt 7, 3) := by decide +kernel
theorem dX10_in_13 : decode cX10_in 13 = .ok (.iconst 1, 1) := by decide +kernel
theorem dX10_in_14 : decode cX10_in 14 = .ok (.goto 4, 3) := by decide +kernel
theorem dX10_in_17 : decode cX10_in 17 = .ok (.iconst 0, 1) := by decide +kernel
theorem dX10_in_18 : decode cX10_in 18 = .ok (.ireturn, 1) := by decide +kernel
theorem dX10_has_0 : decode cX10_has 0 = .ok (.iload_n 0, 1) := by decide +kernel
theorem dX10_has_1 : decode cX10_has 1 = .ok (.iload_n 1, 1) := by decide +kernel
theorem dX10_has_2 : decode cX10_has 2 = .ok (.ishr, 1) := by decide +kernel
theorem dX10_has_3 : decode cX10_has 3 = .ok (.iconst 1, 1) := by decide +kernel
theorem dX10_has_4 : decode cX10_has 4 = .ok (.iand, 1) := by decide +kernel
theorem dX10_has_5 : decode cX10_has 5 = .ok (.iconst 1, 1) := by decide +kernel
theorem dX10_has_6 : decode cX10_has 6 = .ok (.if_icmp .ne 7, 3) := by decide +kernel
theorem dX10_has_9 : decode cX10_has 9 = .ok (.iconst 1, 1) := by decide +kernel
theorem dX10_has_10 : decode cX10_has 10 = .ok (.goto 4, 3) := by decide +kernel
theorem dX10_has_13 : decode cX10_has 13 = .ok (.iconst 0, 1) := by decide +kernel
theorem dX10_has_14 : decode cX10_has 14 = .ok (.ireturn, 1) := by decide +kernel
set_option maxRecDepth 20000 in
theorem ggX10_init_X10_begin : GoodIn wsX10_init wsX10_begin := goodIn_r _ [20, 6, 21, 26, 27, 28, 29, 30, 31, 32, 33, 34, 35, 36, 37, 38] (by decide +kernel) (by decide +kernel)
set_option maxRecDepth 20000 in
theorem gX10_init_X10_begin : GoodIn wsX10_init (wsV RX10 41 RX10 yX10_begin wsX10_begin) := goodIn_app (goodIn_of _ (by decide +kernel)) ggX10_init_X10_begin
set_option maxRecDepth 20000 in
theorem ggX10_init_X10_layRead : GoodIn wsX10_init wsX10_layRead := goodIn_r _ [25, 7, 6, 26, 27, 28, 29, 30, 31, 32, 33, 34, 35, 36, 37, 38] (by decide +kernel) (by decide +kernel)
set_option maxRecDepth 20000 in
theorem gX10_init_X10_layRead : GoodIn wsX10_init (wsV RX10 44 RX10 yX10_layRead wsX10_layRead) := goodIn_app (goodIn_of _ (by decide +kernel)) ggX10_init_X10_layRead
theorem dX10_init_0 : decode cX10_init 0 = .ok (.aload_n 0, 1) := by decide +kernel
theorem dX10_init_1 : decode cX10_init 1 = .ok (.invokespecial 1, 3) := by decide +kernel
theorem dX10_init_4 : decode cX10_init 4 = .ok (.aload_n 0, 1) := by decide +kernel
theorem dX10_init_5 : decode cX10_init 5 = .ok (.sipush 500, 3) := by decide +kernel
theorem dX10_init_8 : decode cX10_init 8 = .ok (.newarray .int, 2) := by decide +kernel
theorem dX10_init_10 : decode cX10_init 10 = .ok (.putfield 7, 3) := by decide +kernel
theorem dX10_init_13 : decode cX10_init 13 = .ok (.aload_n 0, 1) := by decide +kernel
theorem dX10_init_14 : decode cX10_init 14 = .ok (.sipush 336, 3) := by decide +kernel
theorem dX10_init_17 : decode cX10_init 17 = .ok (.newarray .int, 2) := by decide +kernel
theorem dX10_init_19 : decode cX10_init 19 = .ok (.putfield 13, 3) := by decide +kernel
theorem dX10_init_22 : decode cX10_init 22 = .ok (.aload_n 0, 1) := by decide +kernel
theorem dX10_init_23 : decode cX10_init 23 = .ok (.sipush 336, 3) := by decide +kernel
theorem dX10_init_26 : decode cX10_init 26 = .ok (.newarray .int, 2) := by decide +kernel
theorem dX10_init_28 : decode cX10_init 28 = .ok (.putfield 16, 3) := by decide +kernel
theorem dX10_init_31 : decode cX10_init 31 = .ok (.aload_n 0, 1) := by decide +kernel
theorem dX10_init_32 : decode cX10_init 32 = .ok (.bipush 16, 2) := by decide +kernel
theorem dX10_init_34 : decode cX10_init 34 = .ok (.newarray .int, 2) := by decide +kernel
theorem dX10_init_36 : decode cX10_init 36 = .ok (.putfield 19, 3) := by decide +kernel
theorem dX10_init_39 : decode cX10_init 39 = .ok (.aload_n 0, 1) := by decide +kernel
theorem dX10_init_40 : decode cX10_init 40 = .ok (.bipush 32, 2) := by decide +kernel
theorem dX10_init_42 : decode cX10_init 42 = .ok (.newarray .int, 2) := by decide +kernel
theorem dX10_init_44 : decode cX10_init 44 = .ok (.putfield 22, 3) := by decide +kernel
theorem dX10_init_47 : decode cX10_init 47 = .ok (.aload_n 0, 1) := by decide +kernel
theorem dX10_init_48 : decode cX10_init 48 = .ok (.bipush 7, 2) := by decide +kernel
theorem dX10_init_50 : decode cX10_init 50 = .ok (.newarray .int, 2) := by decide +kernel
theorem dX10_init_52 : decode cX10_init 52 = .ok (.putfield 25, 3) := by decide +kernel
theorem dX10_init_55 : decode cX10_init 55 = .ok (.aload_n 0, 1) := by decide +kernel
theorem dX10_init_56 : decode cX10_init 56 = .ok (.bipush 7, 2) := by decide +kernel
theorem dX10_init_58 : decode cX10_init 58 = .ok (.newarray .int, 2) := by decide +kernel
theorem dX10_init_60 : decode cX10_init 60 = .ok (.putfield 28, 3) := by decide +kernel
theorem dX10_init_63 : decode cX10_init 63 = .ok (.aload_n 0, 1) := by decide +kernel
theorem dX10_init_64 : decode cX10_init 64 = .ok (.bipush 49, 2) := by decide +kernel
theorem dX10_init_66 : decode cX10_init 66 = .ok (.newarray .int, 2) := by decide +kernel
theorem dX10_init_68 : decode cX10_init 68 = .ok (.putfield 31, 3) := by decide +kernel
theorem dX10_init_71 : decode cX10_init 71 = .ok (.aload_n 0, 1) := by decide +kernel
theorem dX10_init_72 : decode cX10_init 72 = .ok (.bipush 81, 2) := by decide +kernel
theorem dX10_init_74 : decode cX10_init 74 = .ok (.newarray .long, 2) := by decide +kernel
theorem dX10_init_76 : decode cX10_init 76 = .ok (.putfield 34, 3) := by decide +kernel
theorem dX10_init_79 : decode cX10_init 79 = .ok (.aload_n 0, 1) := by decide +kernel
theorem dX10_init_80 : decode cX10_init 80 = .ok (.bipush 81, 2) := by decide +kernel
theorem dX10_init_82 : decode cX10_init 82 = .ok (.newarray .long, 2) := by decide +kernel
theorem dX10_init_84 : decode cX10_init 84 = .ok (.putfield 38, 3) := by decide +kernel
theorem dX10_init_87 : decode cX10_init 87 = .ok (.aload_n 0, 1) := by decide +kernel
theorem dX10_init_88 : decode cX10_init 88 = .ok (.invokevirtual 41, 3) := by decide +kernel
theorem dX10_init_91 : decode cX10_init 91 = .ok (.aload_n 0, 1) := by decide +kernel
theorem dX10_init_92 : decode cX10_init 92 = .ok (.invokevirtual 44, 3) := by decide +kernel
theorem dX10_init_95 : decode cX10_init 95 = .ok (.return_, 1) := by decide +kernel
set_option maxRecDepth 20000 in
theorem ggX10_write_X10_in : GoodIn wsX10_write wsX10_in := goodIn_r _ [8] (by decide +kernel) (by decide +kernel)
set_option maxRecDepth 20000 in
theorem gX10_write_X10_in : GoodIn wsX10_write (va_wsS RX10 49 yX10_in wsX10_in) := goodIn_app (goodIn_of _ (by decide +kernel)) ggX10_write_X10_in
theorem dX10_write_0 : decode cX10_write 0 = .ok (.iload_n 1, 1) := by decide +kernel
theorem dX10_write_1 : decode cX10_write 1 = .ok (.i2l, 1) := by decide +kernel
theorem dX10_write_2 : decode cX10_write 2 = .ok (.lconst 1, 1) := by decide +kernel
theorem dX10_write_3 : decode cX10_write 3 = .ok (.ldc2_w 47, 3) := by decide +kernel
theorem dX10_write_6 : decode cX10_write 6 = .ok (.invokestatic 49, 3) := by decide +kernel
theorem dX10_write_9 : decode cX10_write 9 = .ok (.ifCond .ne 5, 3) := by decide +kernel
theorem dX10_write_12 : decode cX10_write 12 = .ok (.iconst (-1), 1) := by decide +kernel
theorem dX10_write_13 : decode cX10_write 13 = .ok (.ireturn, 1) := by decide +kernel
theorem dX10_write_14 : decode cX10_write 14 = .ok (.aload_n 0, 1) := by decide +kernel
theorem dX10_write_15 : decode cX10_write 15 = .ok (.getfield 53, 3) := by decide +kernel
theorem dX10_write_18 : decode cX10_write 18 = .ok (.iload_n 1, 1) := by decide +kernel
theorem dX10_write_19 : decode cX10_write 19 = .ok (.iadd, 1) := by decide +kernel
theorem dX10_write_20 : decode cX10_write 20 = .ok (.sipush 500, 3) := by decide +kernel
theorem dX10_write_23 : decode cX10_write 23 = .ok (.if_icmp .le 6, 3) := by decide +kernel
theorem dX10_write_26 : decode cX10_write 26 = .ok (.bipush (-3), 2) := by decide +kernel
theorem dX10_write_28 : decode cX10_write 28 = .ok (.ireturn, 1) := by decide +kernel
theorem dX10_write_29 : decode cX10_write 29 = .ok (.iload_n 1, 1) := by decide +kernel
theorem dX10_write_30 : decode cX10_write 30 = .ok (.iconst 1, 1) := by decide +kernel
theorem dX10_write_31 : decode cX10_write 31 = .ok (.isub, 1) := by decide +kernel
theorem dX10_write_32 : decode cX10_write 32 = .ok (.istore 4, 2) := by decide +kernel
theorem dX10_write_34 : decode cX10_write 34 = .ok (.iload 4, 2) := by decide +kernel
theorem dX10_write_36 : decode cX10_write 36 = .ok (.ifCond .lt 40, 3) := by decide +kernel
theorem dX10_write_39 : decode cX10_write 39 = .ok (.aload_n 0, 1) := by decide +kernel
theorem dX10_write_40 : decode cX10_write 40 = .ok (.getfield 7, 3) := by decide +kernel
theorem dX10_write_43 : decode cX10_write 43 = .ok (.aload_n 0, 1) := by decide +kernel
theorem dX10_write_44 : decode cX10_write 44 = .ok (.getfield 53, 3) := by decide +kernel
theorem dX10_write_47 : decode cX10_write 47 = .ok (.lload_n 2, 1) := by decide +kernel
theorem dX10_write_48 : decode cX10_write 48 = .ok (.bipush 8, 2) := by decide +kernel
theorem dX10_write_50 : decode cX10_write 50 = .ok (.iload 4, 2) := by decide +kernel
theorem dX10_write_52 : decode cX10_write 52 = .ok (.imul, 1) := by decide +kernel
theorem dX10_write_53 : decode cX10_write 53 = .ok (.lshr, 1) := by decide +kernel
theorem dX10_write_54 : decode cX10_write 54 = .ok (.ldc2_w 57, 3) := by decide +kernel
theorem dX10_write_57 : decode cX10_write 57 = .ok (.land, 1) := by decide +kernel
theorem dX10_write_58 : decode cX10_write 58 = .ok (.l2i, 1) := by decide +kernel
theorem dX10_write_59 : decode cX10_write 59 = .ok (.iastore, 1) := by decide +kernel
theorem dX10_write_60 : decode cX10_write 60 = .ok (.aload_n 0, 1) := by decide +kernel
theorem dX10_write_61 : decode cX10_write 61 = .ok (.dup, 1) := by decide +kernel
theorem dX10_write_62 : decode cX10_write 62 = .ok (.getfield 53, 3) := by decide +kernel
theorem dX10_write_65 : decode cX10_write 65 = .ok (.iconst 1, 1) := by decide +kernel
theorem dX10_write_66 : decode cX10_write 66 = .ok (.iadd, 1) := by decide +kernel
theorem dX10_write_67 : decode cX10_write 67 = .ok (.putfield 53, 3) := by decide +kernel
theorem dX10_write_70 : decode cX10_write 70 = .ok (.iinc 4 (-1), 3) := by decide +kernel
theorem dX10_write_73 : decode cX10_write 73 = .ok (.goto (-39), 3) := by decide +kernel
theorem dX10_write_76 : decode cX10_write 76 = .ok (.aload_n 0, 1) := by decide +kernel
theorem dX10_write_77 : decode cX10_write 77 = .ok (.getfield 53, 3) := by decide +kernel
theorem dX10_write_80 : decode cX10_write 80 = .ok (.ireturn, 1) := by decide +kernel
theorem dX10_wipe_0 : decode cX10_wipe 0 = .ok (.aload_n 0, 1) := by decide +kernel
theorem dX10_wipe_1 : decode cX10_wipe 1 = .ok (.getfield 53, 3) := by decide +kernel
theorem dX10_wipe_4 : decode cX10_wipe 4 = .ok (.istore_n 1, 1) := by decide +kernel
theorem dX10_wipe_5 : decode cX10_wipe 5 = .ok (.aload_n 0, 1) := by decide +kernel
theorem dX10_wipe_6 : decode cX10_wipe 6 = .ok (.iconst 0, 1) := by decide +kernel
theorem dX10_wipe_7 : decode cX10_wipe 7 = .ok (.putfield 53, 3) := by decide +kernel
theorem dX10_wipe_10 : decode cX10_wipe 10 = .ok (.iload_n 1, 1) := by decide +kernel
theorem dX10_wipe_11 : decode cX10_wipe 11 = .ok (.ireturn, 1) := by decide +kernel
theorem dX10_begin_0 : decode cX10_begin 0 = .ok (.iconst 0, 1) := by decide +kernel
theorem dX10_begin_1 : decode cX10_begin 1 = .ok (.istore_n 1, 1) := by decide +kernel
theorem dX10_begin_2 : decode cX10_begin 2 = .ok (.iload_n 1, 1) := by decide +kernel
theorem dX10_begin_3 : decode cX10_begin 3 = .ok (.sipush 336, 3) := by decide +kernel
theorem dX10_begin_6 : decode cX10_begin 6 = .ok (.if_icmp .ge 16, 3) := by decide +kernel
theorem dX10_begin_9 : decode cX10_begin 9 = .ok (.aload_n 0, 1) := by decide +kernel
theorem dX10_begin_10 : decode cX10_begin 10 = .ok (.getfield 13, 3) := by decide +kernel
theorem dX10_begin_13 : decode cX10_begin 13 = .ok (.iload_n 1, 1) := by decide +kernel
theorem dX10_begin_14 : decode cX10_begin 14 = .ok (.iconst 0, 1) := by decide +kernel
theorem dX10_begin_15 : decode cX10_begin 15 = .ok (.iastore, 1) := by decide +kernel
theorem dX10_begin_16 : decode cX10_begin 16 = .ok (.iinc 1 1, 3) := by decide +kernel
theorem dX10_begin_19 : decode cX10_begin 19 = .ok (.goto (-17), 3) := by decide +kernel
theorem dX10_begin_22 : decode cX10_begin 22 = .ok (.iconst 0, 1) := by decide +kernel
theorem dX10_begin_23 : decode cX10_begin 23 = .ok (.istore_n 1, 1) := by decide +kernel
theorem dX10_begin_24 : decode cX10_begin 24 = .ok (.iload_n 1, 1) := by decide +kernel
theorem dX10_begin_25 : decode cX10_begin 25 = .ok (.bipush 16, 2) := by decide +kernel
theorem dX10_begin_27 : decode cX10_begin 27 = .ok (.if_icmp .ge 20, 3) := by decide +kernel
theorem dX10_begin_30 : decode cX10_begin 30 = .ok (.aload_n 0, 1) := by decide +kernel
theorem dX10_begin_31 : decode cX10_begin 31 = .ok (.getfield 13, 3) := by decide +kernel
theorem dX10_begin_34 : decode cX10_begin 34 = .ok (.sipush 282, 3) := by decide +kernel
theorem dX10_begin_37 : decode cX10_begin 37 = .ok (.iload_n 1, 1) := by decide +kernel
theorem dX10_begin_38 : decode cX10_begin 38 = .ok (.iadd, 1) := by decide +kernel
theorem dX10_begin_39 : decode cX10_begin 39 = .ok (.iconst (-1), 1) := by decide +kernel
theorem dX10_begin_40 : decode cX10_begin 40 = .ok (.iastore, 1) := by decide +kernel
theorem dX10_begin_41 : decode cX10_begin 41 = .ok (.iinc 1 1, 3) := by decide +kernel
theorem dX10_begin_44 : decode cX10_begin 44 = .ok (.goto (-20), 3) := by decide +kernel
theorem dX10_begin_47 : decode cX10_begin 47 = .ok (.aload_n 0, 1) := by decide +kernel
theorem dX10_begin_48 : decode cX10_begin 48 = .ok (.getfield 13, 3) := by decide +kernel
theorem dX10_begin_51 : decode cX10_begin 51 = .ok (.sipush 280, 3) := by decide +kernel
theorem dX10_begin_54 : decode cX10_begin 54 = .ok (.ldc 59, 2) := by decide +kernel
theorem dX10_begin_56 : decode cX10_begin 56 = .ok (.iastore, 1) := by decide +kernel
theorem dX10_begin_57 : decode cX10_begin 57 = .ok (.aload_n 0, 1) := by decide +kernel
theorem dX10_begin_58 : decode cX10_begin 58 = .ok (.getfield 13, 3) := by decide +kernel
theorem dX10_begin_61 : decode cX10_begin 61 = .ok (.sipush 281, 3) := by decide +kernel
theorem dX10_begin_64 : decode cX10_begin 64 = .ok (.ldc 59, 2) := by decide +kernel
theorem dX10_begin_66 : decode cX10_begin 66 = .ok (.iastore, 1) := by decide +kernel
theorem dX10_begin_67 : decode cX10_begin 67 = .ok (.aload_n 0, 1) := by decide +kernel
theorem dX10_begin_68 : decode cX10_begin 68 = .ok (.getfield 13, 3) := by decide +kernel
theorem dX10_begin_71 : decode cX10_begin 71 = .ok (.sipush 298, 3) := by decide +kernel
theorem dX10_begin_74 : decode cX10_begin 74 = .ok (.iconst 4, 1) := by decide +kernel
theorem dX10_begin_75 : decode cX10_begin 75 = .ok (.iastore, 1) := by decide +kernel
theorem dX10_begin_76 : decode cX10_begin 76 = .ok (.aload_n 0, 1) := by decide +kernel
theorem dX10_begin_77 : decode cX10_begin 77 = .ok (.getfield 13, 3) := by decide +kernel
theorem dX10_begin_80 : decode cX10_begin 80 = .ok (.sipush 299, 3) := by decide +kernel
theorem dX10_begin_83 : decode cX10_begin 83 = .ok (.iconst 4, 1) := by decide +kernel
theorem dX10_begin_84 : decode cX10_begin 84 = .ok (.iastore, 1) := by decide +kernel
theorem dX10_begin_85 : decode cX10_begin 85 = .ok (.aload_n 0, 1) := by decide +kernel
theorem dX10_begin_86 : decode cX10_begin 86 = .ok (.getfield 13, 3) := by decide +kernel
theorem dX10_begin_89 : decode cX10_begin 89 = .ok (.sipush 300, 3) := by decide +kernel
theorem dX10_begin_92 : decode cX10_begin 92 = .ok (.iconst 5, 1) := by decide +kernel
theorem dX10_begin_93 : decode cX10_begin 93 = .ok (.iastore, 1) := by decide +kernel
theorem dX10_begin_94 : decode cX10_begin 94 = .ok (.aload_n 0, 1) := by decide +kernel
theorem dX10_begin_95 : decode cX10_begin 95 = .ok (.getfield 13, 3) := by decide +kernel
theorem dX10_begin_98 : decode cX10_begin 98 = .ok (.sipush 301, 3) := by decide +kernel
theorem dX10_begin_101 : decode cX10_begin 101 = .ok (.iconst 5, 1) := by decide +kernel
theorem dX10_begin_102 : decode cX10_begin 102 = .ok (.iastore, 1) := by decide +kernel
theorem dX10_begin_103 : decode cX10_begin 103 = .ok (.aload_n 0, 1) := by decide +kernel
theorem dX10_begin_104 : decode cX10_begin 104 = .ok (.getfield 13, 3) := by decide +kernel
theorem dX10_begin_107 : decode cX10_begin 107 = .ok (.sipush 302, 3) := by decide +kernel
theorem dX10_begin_110 : decode cX10_begin 110 = .ok (.iconst 5, 1) := by decide +kernel
theorem dX10_begin_111 : decode cX10_begin 111 = .ok (.iastore, 1) := by decide +kernel
theorem dX10_begin_112 : decode cX10_begin 112 = .ok (.aload_n 0, 1) := by decide +kernel
theorem dX10_begin_113 : decode cX10_begin 113 = .ok (.getfield 13, 3) := by decide +kernel
theorem dX10_begin_116 : decode cX10_begin 116 = .ok (.sipush 303, 3) := by decide +kernel
theorem dX10_begin_119 : decode cX10_begin 119 = .ok (.bipush 70, 2) := by decide +kernel
theorem dX10_begin_121 : decode cX10_begin 121 = .ok (.iastore, 1) := by decide +kernel
theorem dX10_begin_122 : decode cX10_begin 122 = .ok (.return_, 1) := by decide +kernel
theorem dX10_layRead_0 : decode cX10_layRead 0 = .ok (.iconst 0, 1) := by decide +kernel
theorem dX10_layRead_1 : decode cX10_layRead 1 = .ok (.istore_n 1, 1) := by decide +kernel
theorem dX10_layRead_2 : decode cX10_layRead 2 = .ok (.iload_n 1, 1) := by decide +kernel
theorem dX10_layRead_3 : decode cX10_layRead 3 = .ok (.sipush 336, 3) := by decide +kernel
theorem dX10_layRead_6 : decode cX10_layRead 6 = .ok (.if_icmp .ge 21, 3) := by decide +kernel
theorem dX10_layRead_9 : decode cX10_layRead 9 = .ok (.aload_n 0, 1) := by decide +kernel
theorem dX10_layRead_10 : decode cX10_layRead 10 = .ok (.getfield 16, 3) := by decide +kernel
theorem dX10_layRead_13 : decode cX10_layRead 13 = .ok (.iload_n 1, 1) := by decide +kernel
theorem dX10_layRead_14 : decode cX10_layRead 14 = .ok (.aload_n 0, 1) := by decide +kernel
theorem dX10_layRead_15 : decode cX10_layRead 15 = .ok (.getfield 13, 3) := by decide +kernel
theorem dX10_layRead_18 : decode cX10_layRead 18 = .ok (.iload_n 1, 1) := by decide +kernel
theorem dX10_layRead_19 : decode cX10_layRead 19 = .ok (.iaload, 1) := by decide +kernel
theorem dX10_layRead_20 : decode cX10_layRead 20 = .ok (.iastore, 1) := by decide +kernel
theorem dX10_layRead_21 : decode cX10_layRead 21 = .ok (.iinc 1 1, 3) := by decide +kernel
theorem dX10_layRead_24 : decode cX10_layRead 24 = .ok (.goto (-22), 3) := by decide +kernel
theorem dX10_layRead_27 : decode cX10_layRead 27 = .ok (.return_, 1) := by decide +kernel
theorem dX10_byteAt_0 : decode cX10_byteAt 0 = .ok (.aload_n 0, 1) := by decide +kernel
theorem dX10_byteAt_1 : decode cX10_byteAt 1 = .ok (.getfield 60, 3) := by decide +kernel
theorem dX10_byteAt_4 : decode cX10_byteAt 4 = .ok (.aload_n 0, 1) := by decide +kernel
theorem dX10_byteAt_5 : decode cX10_byteAt 5 = .ok (.getfield 53, 3) := by decide +kernel
theorem dX10_byteAt_8 : decode cX10_byteAt 8 = .ok (.if_icmp .ge 15, 3) := by decide +kernel
theorem dX10_byteAt_11 : decode cX10_byteAt 11 = .ok (.aload_n 0, 1) := by decide +kernel
theorem dX10_byteAt_12 : decode cX10_byteAt 12 = .ok (.getfield 7, 3) := by decide +kernel
theorem dX10_byteAt_15 : decode cX10_byteAt 15 = .ok (.aload_n 0, 1) := by decide +kernel
theorem dX10_byteAt_16 : decode cX10_byteAt 16 = .ok (.getfield 60, 3) := by decide +kernel
theorem dX10_byteAt_19 : decode cX10_byteAt 19 = .ok (.iaload, 1) := by decide +kernel
theorem dX10_byteAt_20 : decode cX10_byteAt 20 = .ok (.goto 4, 3) := by decide +kernel
theorem dX10_byteAt_23 : decode cX10_byteAt 23 = .ok (.iconst (-1), 1) := by decide +kernel
theorem dX10_byteAt_24 : decode cX10_byteAt 24 = .ok (.ireturn, 1) := by decide +kernel
set_option maxRecDepth 20000 in
theorem ggX10_takes_X10_byteAt : GoodIn wsX10_takes wsX10_byteAt := goodIn_r _ [6, 1, 7, 8, 9, 10, 11, 12, 13, 14, 15, 16, 17, 18, 19, 20, 21] (by decide +kernel) (by decide +kernel)
set_option maxRecDepth 20000 in
theorem gX10_takes_X10_byteAt : GoodIn wsX10_takes (wsV RX10 63 RX10 yX10_byteAt wsX10_byteAt) := goodIn_app (goodIn_of _ (by decide +kernel)) ggX10_takes_X10_byteAt
theorem dX10_takes_0 : decode cX10_takes 0 = .ok (.aload_n 0, 1) := by decide +kernel
theorem dX10_takes_1 : decode cX10_takes 1 = .ok (.invokevirtual 63, 3) := by decide +kernel
theorem dX10_takes_4 : decode cX10_takes 4 = .ok (.iload_n 1, 1) := by decide +kernel
theorem dX10_takes_5 : decode cX10_takes 5 = .ok (.if_icmp .ne 7, 3) := by decide +kernel
theorem dX10_takes_8 : decode cX10_takes 8 = .ok (.iconst 1, 1) := by decide +kernel
theorem dX10_takes_9 : decode cX10_takes 9 = .ok (.goto 4, 3) := by decide +kernel
theorem dX10_takes_12 : decode cX10_takes 12 = .ok (.iconst 0, 1) := by decide +kernel
theorem dX10_takes_13 : decode cX10_takes 13 = .ok (.istore_n 2, 1) := by decide +kernel
theorem dX10_takes_14 : decode cX10_takes 14 = .ok (.aload_n 0, 1) := by decide +kernel
theorem dX10_takes_15 : decode cX10_takes 15 = .ok (.dup, 1) := by decide +kernel
theorem dX10_takes_16 : decode cX10_takes 16 = .ok (.getfield 60, 3) := by decide +kernel
theorem dX10_takes_19 : decode cX10_takes 19 = .ok (.iload_n 2, 1) := by decide +kernel
theorem dX10_takes_20 : decode cX10_takes 20 = .ok (.ifCond .eq 7, 3) := by decide +kernel
theorem dX10_takes_23 : decode cX10_takes 23 = .ok (.iconst 1, 1) := by decide +kernel
theorem dX10_takes_24 : decode cX10_takes 24 = .ok (.goto 4, 3) := by decide +kernel
theorem dX10_takes_27 : decode cX10_takes 27 = .ok (.iconst 0, 1) := by decide +kernel
theorem dX10_takes_28 : decode cX10_takes 28 = .ok (.iadd, 1) := by decide +kernel
theorem dX10_takes_29 : decode cX10_takes 29 = .ok (.putfield 60, 3) := by decide +kernel
theorem dX10_takes_32 : decode cX10_takes 32 = .ok (.iload_n 2, 1) := by decide +kernel
theorem dX10_takes_33 : decode cX10_takes 33 = .ok (.ireturn, 1) := by decide +kernel
set_option maxRecDepth 20000 in
theorem ggX10_number_X10_byteAt : GoodIn wsX10_number wsX10_byteAt := goodIn_r _ [8, 3, 9, 10, 14, 15, 16, 17, 18, 19, 20, 21, 22, 23, 24, 25, 26] (by decide +kernel) (by decide +kernel)
set_option maxRecDepth 20000 in
theorem gX10_number_X10_byteAt : GoodIn wsX10_number (wsV RX10 63 RX10 yX10_byteAt wsX10_byteAt) := goodIn_app (goodIn_of _ (by decide +kernel)) ggX10_number_X10_byteAt
set_option maxRecDepth 20000 in
theorem ggX10_number_X10_in : GoodIn wsX10_number wsX10_in := goodIn_r _ [13] (by decide +kernel) (by decide +kernel)
set_option maxRecDepth 20000 in
theorem gX10_number_X10_in : GoodIn wsX10_number (va_wsS RX10 49 yX10_in wsX10_in) := goodIn_app (goodIn_of _ (by decide +kernel)) ggX10_number_X10_in
theorem dX10_number_0 : decode cX10_number 0 = .ok (.iconst 0, 1) := by decide +kernel
theorem dX10_number_1 : decode cX10_number 1 = .ok (.istore_n 3, 1) := by decide +kernel
theorem dX10_number_2 : decode cX10_number 2 = .ok (.iconst 0, 1) := by decide +kernel
theorem dX10_number_3 : decode cX10_number 3 = .ok (.istore 4, 2) := by decide +kernel
theorem dX10_number_5 : decode cX10_number 5 = .ok (.iload 4, 2) := by decide +kernel
theorem dX10_number_7 : decode cX10_number 7 = .ok (.iconst 2, 1) := by decide +kernel
theorem dX10_number_8 : decode cX10_number 8 = .ok (.if_icmp .ge 49, 3) := by decide +kernel
theorem dX10_number_11 : decode cX10_number 11 = .ok (.aload_n 0, 1) := by decide +kernel
theorem dX10_number_12 : decode cX10_number 12 = .ok (.invokevirtual 63, 3) := by decide +kernel
theorem dX10_number_15 : decode cX10_number 15 = .ok (.i2l, 1) := by decide +kernel
theorem dX10_number_16 : decode cX10_number 16 = .ok (.ldc2_w 67, 3) := by decide +kernel
theorem dX10_number_19 : decode cX10_number 19 = .ok (.ldc2_w 69, 3) := by decide +kernel
theorem dX10_number_22 : decode cX10_number 22 = .ok (.invokestatic 49, 3) := by decide +kernel
theorem dX10_number_25 : decode cX10_number 25 = .ok (.ifCond .eq 32, 3) := by decide +kernel
theorem dX10_number_28 : decode cX10_number 28 = .ok (.bipush 10, 2) := by decide +kernel
theorem dX10_number_30 : decode cX10_number 30 = .ok (.iload_n 3, 1) := by decide +kernel
theorem dX10_number_31 : decode cX10_number 31 = .ok (.imul, 1) := by decide +kernel
theorem dX10_number_32 : decode cX10_number 32 = .ok (.aload_n 0, 1) := by decide +kernel
theorem dX10_number_33 : decode cX10_number 33 = .ok (.invokevirtual 63, 3) := by decide +kernel
theorem dX10_number_36 : decode cX10_number 36 = .ok (.iadd, 1) := by decide +kernel
theorem dX10_number_37 : decode cX10_number 37 = .ok (.bipush 48, 2) := by decide +kernel
theorem dX10_number_39 : decode cX10_number 39 = .ok (.isub, 1) := by decide +kernel
theorem dX10_number_40 : decode cX10_number 40 = .ok (.istore_n 3, 1) := by decide +kernel
theorem dX10_number_41 : decode cX10_number 41 = .ok (.aload_n 0, 1) := by decide +kernel
theorem dX10_number_42 : decode cX10_number 42 = .ok (.dup, 1) := by decide +kernel
theorem dX10_number_43 : decode cX10_number 43 = .ok (.getfield 60, 3) := by decide +kernel
theorem dX10_number_46 : decode cX10_number 46 = .ok (.iconst 1, 1) := by decide +kernel
theorem dX10_number_47 : decode cX10_number 47 = .ok (.iadd, 1) := by decide +kernel
theorem dX10_number_48 : decode cX10_number 48 = .ok (.putfield 60, 3) := by decide +kernel
theorem dX10_number_51 : decode cX10_number 51 = .ok (.iinc 4 1, 3) := by decide +kernel
theorem dX10_number_54 : decode cX10_number 54 = .ok (.goto (-49), 3) := by decide +kernel
theorem dX10_number_57 : decode cX10_number 57 = .ok (.iload 4, 2) := by decide +kernel
theorem dX10_number_59 : decode cX10_number 59 = .ok (.ifCond .le 19, 3) := by decide +kernel
theorem dX10_number_62 : decode cX10_number 62 = .ok (.iload_n 3, 1) := by decide +kernel
theorem dX10_number_63 : decode cX10_number 63 = .ok (.i2l, 1) := by decide +kernel
theorem dX10_number_64 : decode cX10_number 64 = .ok (.iload_n 1, 1) := by decide +kernel
theorem dX10_number_65 : decode cX10_number 65 = .ok (.i2l, 1) := by decide +kernel
theorem dX10_number_66 : decode cX10_number 66 = .ok (.iload_n 2, 1) := by decide +kernel
theorem dX10_number_67 : decode cX10_number 67 = .ok (.i2l, 1) := by decide +kernel
theorem dX10_number_68 : decode cX10_number 68 = .ok (.invokestatic 49, 3) := by decide +kernel
theorem dX10_number_71 : decode cX10_number 71 = .ok (.ifCond .eq 7, 3) := by decide +kernel
theorem dX10_number_74 : decode cX10_number 74 = .ok (.iload_n 3, 1) := by decide +kernel
theorem dX10_number_75 : decode cX10_number 75 = .ok (.goto 4, 3) := by decide +kernel
theorem dX10_number_78 : decode cX10_number 78 = .ok (.iconst (-1), 1) := by decide +kernel
theorem dX10_number_79 : decode cX10_number 79 = .ok (.ireturn, 1) := by decide +kernel
set_option maxRecDepth 20000 in
theorem ggX10_sound_X10_byteAt : GoodIn wsX10_sound wsX10_byteAt := goodIn_r _ [7, 2, 8, 9, 13, 14, 15, 16, 17, 18, 19, 20, 21, 22, 23, 24, 25] (by decide +kernel) (by decide +kernel)
set_option maxRecDepth 20000 in
theorem gX10_sound_X10_byteAt : GoodIn wsX10_sound (wsV RX10 63 RX10 yX10_byteAt wsX10_byteAt) := goodIn_app (goodIn_of _ (by decide +kernel)) ggX10_sound_X10_byteAt
set_option maxRecDepth 20000 in
theorem ggX10_sound_X10_in : GoodIn wsX10_sound wsX10_in := goodIn_r _ [12] (by decide +kernel) (by decide +kernel)
set_option maxRecDepth 20000 in
theorem gX10_sound_X10_in : GoodIn wsX10_sound (va_wsS RX10 49 yX10_in wsX10_in) := goodIn_app (goodIn_of _ (by decide +kernel)) ggX10_sound_X10_in
theorem dX10_sound_0 : decode cX10_sound 0 = .ok (.aload_n 0, 1) := by decide +kernel
theorem dX10_sound_1 : decode cX10_sound 1 = .ok (.invokevirtual 63, 3) := by decide +kernel
theorem dX10_sound_4 : decode cX10_sound 4 = .ok (.bipush 97, 2) := by decide +kernel
theorem dX10_sound_6 : decode cX10_sound 6 = .ok (.isub, 1) := by decide +kernel
theorem dX10_sound_7 : decode cX10_sound 7 = .ok (.istore_n 1, 1) := by decide +kernel
theorem dX10_sound_8 : decode cX10_sound 8 = .ok (.iload_n 1, 1) := by decide +kernel
theorem dX10_sound_9 : decode cX10_sound 9 = .ok (.i2l, 1) := by decide +kernel
theorem dX10_sound_10 : decode cX10_sound 10 = .ok (.lconst 0, 1) := by decide +kernel
theorem dX10_sound_11 : decode cX10_sound 11 = .ok (.ldc2_w 71, 3) := by decide +kernel
theorem dX10_sound_14 : decode cX10_sound 14 = .ok (.invokestatic 49, 3) := by decide +kernel
theorem dX10_sound_17 : decode cX10_sound 17 = .ok (.ifCond .ne 5, 3) := by decide +kernel
theorem dX10_sound_20 : decode cX10_sound 20 = .ok (.iconst (-1), 1) := by decide +kernel
theorem dX10_sound_21 : decode cX10_sound 21 = .ok (.ireturn, 1) := by decide +kernel
theorem dX10_sound_22 : decode cX10_sound 22 = .ok (.aload_n 0, 1) := by decide +kernel
theorem dX10_sound_23 : decode cX10_sound 23 = .ok (.dup, 1) := by decide +kernel
theorem dX10_sound_24 : decode cX10_sound 24 = .ok (.getfield 60, 3) := by decide +kernel
theorem dX10_sound_27 : decode cX10_sound 27 = .ok (.iconst 1, 1) := by decide +kernel
theorem dX10_sound_28 : decode cX10_sound 28 = .ok (.iadd, 1) := by decide +kernel
theorem dX10_sound_29 : decode cX10_sound 29 = .ok (.putfield 60, 3) := by decide +kernel
theorem dX10_sound_32 : decode cX10_sound 32 = .ok (.iload_n 1, 1) := by decide +kernel
theorem dX10_sound_33 : decode cX10_sound 33 = .ok (.ireturn, 1) := by decide +kernel
set_option maxRecDepth 20000 in
theorem ggX10_word_X10_sound : GoodIn wsX10_word wsX10_sound := goodIn_r _ [6, 7, 8, 9, 10, 11, 5, 12, 13, 14, 15, 16, 17, 18, 19, 20, 21, 22, 23, 24, 25, 26, 27, 28, 29, 30] (by decide +kernel) (by decide +kernel)
set_option maxRecDepth 20000 in
theorem gX10_word_X10_sound : GoodIn wsX10_word (wsV RX10 73 RX10 yX10_sound wsX10_sound) := goodIn_app (goodIn_of _ (by decide +kernel)) ggX10_word_X10_sound
theorem dX10_word_0 : decode cX10_word 0 = .ok (.iconst 0, 1) := by decide +kernel
theorem dX10_word_1 : decode cX10_word 1 = .ok (.istore_n 2, 1) := by decide +kernel
theorem dX10_word_2 : decode cX10_word 2 = .ok (.aload_n 0, 1) := by decide +kernel
theorem dX10_word_3 : decode cX10_word 3 = .ok (.invokevirtual 73, 3) := by decide +kernel
theorem dX10_word_6 : decode cX10_word 6 = .ok (.istore_n 3, 1) := by decide +kernel
theorem dX10_word_7 : decode cX10_word 7 = .ok (.iload_n 3, 1) := by decide +kernel
theorem dX10_word_8 : decode cX10_word 8 = .ok (.ifCond .lt 33, 3) := by decide +kernel
theorem dX10_word_11 : decode cX10_word 11 = .ok (.iload_n 2, 1) := by decide +kernel
theorem dX10_word_12 : decode cX10_word 12 = .ok (.bipush 6, 2) := by decide +kernel
theorem dX10_word_14 : decode cX10_word 14 = .ok (.if_icmp .ne 5, 3) := by decide +kernel
theorem dX10_word_17 : decode cX10_word 17 = .ok (.iconst 0, 1) := by decide +kernel
theorem dX10_word_18 : decode cX10_word 18 = .ok (.ireturn, 1) := by decide +kernel
theorem dX10_word_19 : decode cX10_word 19 = .ok (.aload_n 0, 1) := by decide +kernel
theorem dX10_word_20 : decode cX10_word 20 = .ok (.getfield 13, 3) := by decide +kernel
theorem dX10_word_23 : decode cX10_word 23 = .ok (.iload_n 1, 1) := by decide +kernel
theorem dX10_word_24 : decode cX10_word 24 = .ok (.iconst 1, 1) := by decide +kernel
theorem dX10_word_25 : decode cX10_word 25 = .ok (.iadd, 1) := by decide +kernel
theorem dX10_word_26 : decode cX10_word 26 = .ok (.iload_n 2, 1) := by decide +kernel
theorem dX10_word_27 : decode cX10_word 27 = .ok (.iadd, 1) := by decide +kernel
theorem dX10_word_28 : decode cX10_word 28 = .ok (.iload_n 3, 1) := by decide +kernel
theorem dX10_word_29 : decode cX10_word 29 = .ok (.iastore, 1) := by decide +kernel
theorem dX10_word_30 : decode cX10_word 30 = .ok (.iinc 2 1, 3) := by decide +kernel
theorem dX10_word_33 : decode cX10_word 33 = .ok (.aload_n 0, 1) := by decide +kernel
theorem dX10_word_34 : decode cX10_word 34 = .ok (.invokevirtual 73, 3) := by decide +kernel
theorem dX10_word_37 : decode cX10_word 37 = .ok (.istore_n 3, 1) := by decide +kernel
theorem dX10_word_38 : decode cX10_word 38 = .ok (.goto (-31), 3) := by decide +kernel
theorem dX10_word_41 : decode cX10_word 41 = .ok (.aload_n 0, 1) := by decide +kernel
theorem dX10_word_42 : decode cX10_word 42 = .ok (.getfield 13, 3) := by decide +kernel
theorem dX10_word_45 : decode cX10_word 45 = .ok (.iload_n 1, 1) := by decide +kernel
theorem dX10_word_46 : decode cX10_word 46 = .ok (.iload_n 2, 1) := by decide +kernel
theorem dX10_word_47 : decode cX10_word 47 = .ok (.iastore, 1) := by decide +kernel
theorem dX10_word_48 : decode cX10_word 48 = .ok (.iload_n 2, 1) := by decide +kernel
theorem dX10_word_49 : decode cX10_word 49 = .ok (.ifCond .le 7, 3) := by decide +kernel
theorem dX10_word_52 : decode cX10_word 52 = .ok (.iconst 1, 1) := by decide +kernel
theorem dX10_word_53 : decode cX10_word 53 = .ok (.goto 4, 3) := by decide +kernel
theorem dX10_word_56 : decode cX10_word 56 = .ok (.iconst 0, 1) := by decide +kernel
theorem dX10_word_57 : decode cX10_word 57 = .ok (.ireturn, 1) := by decide +kernel
set_option maxRecDepth 20000 in
theorem ggX10_wordItem_X10_number : GoodIn wsX10_wordItem wsX10_number := goodIn_r _ [5, 6, 7, 8, 9, 10, 11, 4, 12, 13, 14, 15, 16, 17, 32, 33, 34, 35, 36, 37, 38, 39, 40, 41, 42, 43, 44] (by decide +kernel) (by decide +kernel)
set_option maxRecDepth 20000 in
theorem gX10_wordItem_X10_number : GoodIn wsX10_wordItem (wsV RX10 76 RX10 yX10_number wsX10_number) := goodIn_app (goodIn_of _ (by decide +kernel)) ggX10_wordItem_X10_number
set_option maxRecDepth 20000 in
theorem ggX10_wordItem_X10_takes : GoodIn wsX10_wordItem wsX10_takes := goodIn_r _ [21, 8, 9, 10, 11, 4, 12, 13, 14, 32, 33, 34, 35, 36, 37, 38, 39, 40, 41, 42, 43, 44] (by decide +kernel) (by decide +kernel)
set_option maxRecDepth 20000 in
theorem gX10_wordItem_X10_takes : GoodIn wsX10_wordItem (wsV RX10 80 RX10 yX10_takes wsX10_takes) := goodIn_app (goodIn_of _ (by decide +kernel)) ggX10_wordItem_X10_takes
set_option maxRecDepth 20000 in
theorem ggX10_wordItem_X10_word : GoodIn wsX10_wordItem wsX10_word := goodIn_r _ [25, 26, 27, 28, 29, 4, 30, 31, 8, 9, 10, 11, 12, 13, 14, 15, 16, 17, 32, 33, 34, 35, 36, 37, 38, 39, 40, 41, 42, 43, 44] (by decide +kernel) (by decide +kernel)
set_option maxRecDepth 20000 in
theorem gX10_wordItem_X10_word : GoodIn wsX10_wordItem (wsV RX10 84 RX10 yX10_word wsX10_word) := goodIn_app (goodIn_of _ (by decide +kernel)) ggX10_wordItem_X10_word
theorem dX10_wordItem_0 : decode cX10_wordItem 0 = .ok (.aload_n 0, 1) := by decide +kernel
theorem dX10_wordItem_1 : decode cX10_wordItem 1 = .ok (.iconst 0, 1) := by decide +kernel
theorem dX10_wordItem_2 : decode cX10_wordItem 2 = .ok (.iload_n 2, 1) := by decide +kernel
theorem dX10_wordItem_3 : decode cX10_wordItem 3 = .ok (.invokevirtual 76, 3) := by decide +kernel
theorem dX10_wordItem_6 : decode cX10_wordItem 6 = .ok (.istore_n 3, 1) := by decide +kernel
theorem dX10_wordItem_7 : decode cX10_wordItem 7 = .ok (.iload_n 3, 1) := by decide +kernel
theorem dX10_wordItem_8 : decode cX10_wordItem 8 = .ok (.ifCond .lt 12, 3) := by decide +kernel
theorem dX10_wordItem_11 : decode cX10_wordItem 11 = .ok (.aload_n 0, 1) := by decide +kernel
theorem dX10_wordItem_12 : decode cX10_wordItem 12 = .ok (.bipush 44, 2) := by decide +kernel
theorem dX10_wordItem_14 : decode cX10_wordItem 14 = .ok (.invokevirtual 80, 3) := by decide +kernel
theorem dX10_wordItem_17 : decode cX10_wordItem 17 = .ok (.ifCond .ne 5, 3) := by decide +kernel
theorem dX10_wordItem_20 : decode cX10_wordItem 20 = .ok (.iconst 0, 1) := by decide +kernel
theorem dX10_wordItem_21 : decode cX10_wordItem 21 = .ok (.ireturn, 1) := by decide +kernel
theorem dX10_wordItem_22 : decode cX10_wordItem 22 = .ok (.aload_n 0, 1) := by decide +kernel
theorem dX10_wordItem_23 : decode cX10_wordItem 23 = .ok (.iconst 0, 1) := by decide +kernel
theorem dX10_wordItem_24 : decode cX10_wordItem 24 = .ok (.bipush 7, 2) := by decide +kernel
theorem dX10_wordItem_26 : decode cX10_wordItem 26 = .ok (.invokevirtual 76, 3) := by decide +kernel
theorem dX10_wordItem_29 : decode cX10_wordItem 29 = .ok (.istore 4, 2) := by decide +kernel
theorem dX10_wordItem_31 : decode cX10_wordItem 31 = .ok (.iload 4, 2) := by decide +kernel
theorem dX10_wordItem_33 : decode cX10_wordItem 33 = .ok (.ifCond .lt 35, 3) := by decide +kernel
theorem dX10_wordItem_36 : decode cX10_wordItem 36 = .ok (.aload_n 0, 1) := by decide +kernel
theorem dX10_wordItem_37 : decode cX10_wordItem 37 = .ok (.bipush 44, 2) := by decide +kernel
theorem dX10_wordItem_39 : decode cX10_wordItem 39 = .ok (.invokevirtual 80, 3) := by decide +kernel
theorem dX10_wordItem_42 : decode cX10_wordItem 42 = .ok (.ifCond .eq 26, 3) := by decide +kernel
theorem dX10_wordItem_45 : decode cX10_wordItem 45 = .ok (.aload_n 0, 1) := by decide +kernel
theorem dX10_wordItem_46 : decode cX10_wordItem 46 = .ok (.iload_n 1, 1) := by decide +kernel
theorem dX10_wordItem_47 : decode cX10_wordItem 47 = .ok (.bipush 7, 2) := by decide +kernel
theorem dX10_wordItem_49 : decode cX10_wordItem 49 = .ok (.bipush 8, 2) := by decide +kernel
theorem dX10_wordItem_51 : decode cX10_wordItem 51 = .ok (.iload_n 3, 1) := by decide +kernel
theorem dX10_wordItem_52 : decode cX10_wordItem 52 = .ok (.imul, 1) := by decide +kernel
theorem dX10_wordItem_53 : decode cX10_wordItem 53 = .ok (.iload 4, 2) := by decide +kernel
theorem dX10_wordItem_55 : decode cX10_wordItem 55 = .ok (.iadd, 1) := by decide +kernel
theorem dX10_wordItem_56 : decode cX10_wordItem 56 = .ok (.imul, 1) := by decide +kernel
theorem dX10_wordItem_57 : decode cX10_wordItem 57 = .ok (.iadd, 1) := by decide +kernel
theorem dX10_wordItem_58 : decode cX10_wordItem 58 = .ok (.invokevirtual 84, 3) := by decide +kernel
theorem dX10_wordItem_61 : decode cX10_wordItem 61 = .ok (.ifCond .eq 7, 3) := by decide +kernel
theorem dX10_wordItem_64 : decode cX10_wordItem 64 = .ok (.iconst 1, 1) := by decide +kernel
theorem dX10_wordItem_65 : decode cX10_wordItem 65 = .ok (.goto 4, 3) := by decide +kernel
theorem dX10_wordItem_68 : decode cX10_wordItem 68 = .ok (.iconst 0, 1) := by decide +kernel
theorem dX10_wordItem_69 : decode cX10_wordItem 69 = .ok (.ireturn, 1) := by decide +kernel
set_option maxRecDepth 20000 in
theorem ggX10_soundsItem_X10_number : GoodIn wsX10_soundsItem wsX10_number := goodIn_r _ [6, 7, 8, 9, 10, 11, 12, 5, 13, 14, 15, 16, 17, 18, 28, 29, 30, 31, 32, 33, 34, 35, 36, 37, 38, 39, 40] (by decide +kernel) (by decide +kernel)
set_option maxRecDepth 20000 in
theorem gX10_soundsItem_X10_number : GoodIn wsX10_soundsItem (wsV RX10 76 RX10 yX10_number wsX10_number) := goodIn_app (goodIn_of _ (by decide +kernel)) ggX10_soundsItem_X10_number
set_option maxRecDepth 20000 in
theorem ggX10_soundsItem_X10_takes : GoodIn wsX10_soundsItem wsX10_takes := goodIn_r _ [22, 9, 10, 11, 12, 5, 13, 14, 15, 28, 29, 30, 31, 32, 33, 34, 35, 36, 37, 38, 39, 40] (by decide +kernel) (by decide +kernel)
set_option maxRecDepth 20000 in
theorem gX10_soundsItem_X10_takes : GoodIn wsX10_soundsItem (wsV RX10 80 RX10 yX10_takes wsX10_takes) := goodIn_app (goodIn_of _ (by decide +kernel)) ggX10_soundsItem_X10_takes
set_option maxRecDepth 20000 in
theorem ggX10_soundsItem_X10_sound : GoodIn wsX10_soundsItem wsX10_sound := goodIn_r _ [26, 27, 9, 10, 11, 12, 5, 13, 14, 15, 16, 17, 18, 28, 29, 30, 31, 32, 33, 34, 35, 36, 37, 38, 39, 40] (by decide +kernel) (by decide +kernel)
set_option maxRecDepth 20000 in
theorem gX10_soundsItem_X10_sound : GoodIn wsX10_soundsItem (wsV RX10 73 RX10 yX10_sound wsX10_sound) := goodIn_app (goodIn_of _ (by decide +kernel)) ggX10_soundsItem_X10_sound
theorem dX10_soundsItem_0 : decode cX10_soundsItem 0 = .ok (.aload_n 0, 1) := by decide +kernel
theorem dX10_soundsItem_1 : decode cX10_soundsItem 1 = .ok (.iconst 0, 1) := by decide +kernel
theorem dX10_soundsItem_2 : decode cX10_soundsItem 2 = .ok (.iconst 1, 1) := by decide +kernel
theorem dX10_soundsItem_3 : decode cX10_soundsItem 3 = .ok (.invokevirtual 76, 3) := by decide +kernel
theorem dX10_soundsItem_6 : decode cX10_soundsItem 6 = .ok (.istore_n 1, 1) := by decide +kernel
theorem dX10_soundsItem_7 : decode cX10_soundsItem 7 = .ok (.iload_n 1, 1) := by decide +kernel
theorem dX10_soundsItem_8 : decode cX10_soundsItem 8 = .ok (.ifCond .lt 12, 3) := by decide +kernel
theorem dX10_soundsItem_11 : decode cX10_soundsItem 11 = .ok (.aload_n 0, 1) := by decide +kernel
theorem dX10_soundsItem_12 : decode cX10_soundsItem 12 = .ok (.bipush 44, 2) := by decide +kernel
theorem dX10_soundsItem_14 : decode cX10_soundsItem 14 = .ok (.invokevirtual 80, 3) := by decide +kernel
theorem dX10_soundsItem_17 : decode cX10_soundsItem 17 = .ok (.ifCond .ne 5, 3) := by decide +kernel
theorem dX10_soundsItem_20 : decode cX10_soundsItem 20 = .ok (.iconst 0, 1) := by decide +kernel
theorem dX10_soundsItem_21 : decode cX10_soundsItem 21 = .ok (.ireturn, 1) := by decide +kernel
theorem dX10_soundsItem_22 : decode cX10_soundsItem 22 = .ok (.iconst 0, 1) := by decide +kernel
theorem dX10_soundsItem_23 : decode cX10_soundsItem 23 = .ok (.istore_n 2, 1) := by decide +kernel
theorem dX10_soundsItem_24 : decode cX10_soundsItem 24 = .ok (.aload_n 0, 1) := by decide +kernel
theorem dX10_soundsItem_25 : decode cX10_soundsItem 25 = .ok (.invokevirtual 73, 3) := by decide +kernel
theorem dX10_soundsItem_28 : decode cX10_soundsItem 28 = .ok (.istore_n 3, 1) := by decide +kernel
theorem dX10_soundsItem_29 : decode cX10_soundsItem 29 = .ok (.iload_n 3, 1) := by decide +kernel
theorem dX10_soundsItem_30 : decode cX10_soundsItem 30 = .ok (.ifCond .lt 25, 3) := by decide +kernel
theorem dX10_soundsItem_33 : decode cX10_soundsItem 33 = .ok (.iload_n 2, 1) := by decide +kernel
theorem dX10_soundsItem_34 : decode cX10_soundsItem 34 = .ok (.iload_n 3, 1) := by decide +kernel
theorem dX10_soundsItem_35 : decode cX10_soundsItem 35 = .ok (.ishr, 1) := by decide +kernel
theorem dX10_soundsItem_36 : decode cX10_soundsItem 36 = .ok (.ifCond .eq 5, 3) := by decide +kernel
theorem dX10_soundsItem_39 : decode cX10_soundsItem 39 = .ok (.iconst 0, 1) := by decide +kernel
theorem dX10_soundsItem_40 : decode cX10_soundsItem 40 = .ok (.ireturn, 1) := by decide +kernel
theorem dX10_soundsItem_41 : decode cX10_soundsItem 41 = .ok (.iload_n 2, 1) := by decide +kernel
theorem dX10_soundsItem_42 : decode cX10_soundsItem 42 = .ok (.iconst 1, 1) := by decide +kernel
theorem dX10_soundsItem_43 : decode cX10_soundsItem 43 = .ok (.iload_n 3, 1) := by decide +kernel
theorem dX10_soundsItem_44 : decode cX10_soundsItem 44 = .ok (.ishl, 1) := by decide +kernel
theorem dX10_soundsItem_45 : decode cX10_soundsItem 45 = .ok (.ior, 1) := by decide +kernel
theorem dX10_soundsItem_46 : decode cX10_soundsItem 46 = .ok (.istore_n 2, 1) := by decide +kernel
theorem dX10_soundsItem_47 : decode cX10_soundsItem 47 = .ok (.aload_n 0, 1) := by decide +kernel
theorem dX10_soundsItem_48 : decode cX10_soundsItem 48 = .ok (.invokevirtual 73, 3) := by decide +kernel
theorem dX10_soundsItem_51 : decode cX10_soundsItem 51 = .ok (.istore_n 3, 1) := by decide +kernel
theorem dX10_soundsItem_52 : decode cX10_soundsItem 52 = .ok (.goto (-23), 3) := by decide +kernel
theorem dX10_soundsItem_55 : decode cX10_soundsItem 55 = .ok (.aload_n 0, 1) := by decide +kernel
theorem dX10_soundsItem_56 : decode cX10_soundsItem 56 = .ok (.getfield 13, 3) := by decide +kernel
theorem dX10_soundsItem_59 : decode cX10_soundsItem 59 = .ok (.sipush 280, 3) := by decide +kernel
theorem dX10_soundsItem_62 : decode cX10_soundsItem 62 = .ok (.iload_n 1, 1) := by decide +kernel
theorem dX10_soundsItem_63 : decode cX10_soundsItem 63 = .ok (.iadd, 1) := by decide +kernel
theorem dX10_soundsItem_64 : decode cX10_soundsItem 64 = .ok (.iload_n 2, 1) := by decide +kernel
theorem dX10_soundsItem_65 : decode cX10_soundsItem 65 = .ok (.iastore, 1) := by decide +kernel
theorem dX10_soundsItem_66 : decode cX10_soundsItem 66 = .ok (.iload_n 2, 1) := by decide +kernel
theorem dX10_soundsItem_67 : decode cX10_soundsItem 67 = .ok (.ifCond .eq 7, 3) := by decide +kernel
theorem dX10_soundsItem_70 : decode cX10_soundsItem 70 = .ok (.iconst 1, 1) := by decide +kernel
theorem dX10_soundsItem_71 : decode cX10_soundsItem 71 = .ok (.goto 4, 3) := by decide +kernel
theorem dX10_soundsItem_74 : decode cX10_soundsItem 74 = .ok (.iconst 0, 1) := by decide +kernel
theorem dX10_soundsItem_75 : decode cX10_soundsItem 75 = .ok (.ireturn, 1) := by decide +kernel
set_option maxRecDepth 20000 in
theorem ggX10_placeItem_X10_sound : GoodIn wsX10_placeItem wsX10_sound := goodIn_r _ [6, 7, 8, 9, 10, 11, 5, 12, 13, 14, 15, 16, 17, 18, 19, 20, 21, 22, 23, 24, 25, 26, 27, 28, 29, 30] (by decide +kernel) (by decide +kernel)
set_option maxRecDepth 20000 in
theorem gX10_placeItem_X10_sound : GoodIn wsX10_placeItem (wsV RX10 73 RX10 yX10_sound wsX10_sound) := goodIn_app (goodIn_of _ (by decide +kernel)) ggX10_placeItem_X10_sound
theorem dX10_placeItem_0 : decode cX10_placeItem 0 = .ok (.aload_n 0, 1) := by decide +kernel
theorem dX10_placeItem_1 : decode cX10_placeItem 1 = .ok (.invokevirtual 73, 3) := by decide +kernel
theorem dX10_placeItem_4 : decode cX10_placeItem 4 = .ok (.istore_n 1, 1) := by decide +kernel
theorem dX10_placeItem_5 : decode cX10_placeItem 5 = .ok (.iload_n 1, 1) := by decide +kernel
theorem dX10_placeItem_6 : decode cX10_placeItem 6 = .ok (.ifCond .ge 7, 3) := by decide +kernel
theorem dX10_placeItem_9 : decode cX10_placeItem 9 = .ok (.iconst (-1), 1) := by decide +kernel
theorem dX10_placeItem_10 : decode cX10_placeItem 10 = .ok (.goto 7, 3) := by decide +kernel
theorem dX10_placeItem_13 : decode cX10_placeItem 13 = .ok (.aload_n 0, 1) := by decide +kernel
theorem dX10_placeItem_14 : decode cX10_placeItem 14 = .ok (.invokevirtual 73, 3) := by decide +kernel
theorem dX10_placeItem_17 : decode cX10_placeItem 17 = .ok (.istore_n 2, 1) := by decide +kernel
theorem dX10_placeItem_18 : decode cX10_placeItem 18 = .ok (.iload_n 2, 1) := by decide +kernel
theorem dX10_placeItem_19 : decode cX10_placeItem 19 = .ok (.ifCond .lt 8, 3) := by decide +kernel
theorem dX10_placeItem_22 : decode cX10_placeItem 22 = .ok (.iload_n 1, 1) := by decide +kernel
theorem dX10_placeItem_23 : decode cX10_placeItem 23 = .ok (.iload_n 2, 1) := by decide +kernel
theorem dX10_placeItem_24 : decode cX10_placeItem 24 = .ok (.if_icmp .ne 5, 3) := by decide +kernel
theorem dX10_placeItem_27 : decode cX10_placeItem 27 = .ok (.iconst 0, 1) := by decide +kernel
theorem dX10_placeItem_28 : decode cX10_placeItem 28 = .ok (.ireturn, 1) := by decide +kernel
theorem dX10_placeItem_29 : decode cX10_placeItem 29 = .ok (.aload_n 0, 1) := by decide +kernel
theorem dX10_placeItem_30 : decode cX10_placeItem 30 = .ok (.getfield 13, 3) := by decide +kernel
theorem dX10_placeItem_33 : decode cX10_placeItem 33 = .ok (.sipush 282, 3) := by decide +kernel
theorem dX10_placeItem_36 : decode cX10_placeItem 36 = .ok (.iload_n 1, 1) := by decide +kernel
theorem dX10_placeItem_37 : decode cX10_placeItem 37 = .ok (.iadd, 1) := by decide +kernel
theorem dX10_placeItem_38 : decode cX10_placeItem 38 = .ok (.iload_n 2, 1) := by decide +kernel
theorem dX10_placeItem_39 : decode cX10_placeItem 39 = .ok (.iastore, 1) := by decide +kernel
theorem dX10_placeItem_40 : decode cX10_placeItem 40 = .ok (.iconst 1, 1) := by decide +kernel
theorem dX10_placeItem_41 : decode cX10_placeItem 41 = .ok (.ireturn, 1) := by decide +kernel
set_option maxRecDepth 20000 in
theorem ggX10_pairItem_X10_number : GoodIn wsX10_pairItem wsX10_number := goodIn_r _ [6, 7, 8, 9, 10, 11, 12, 5, 13, 14, 15, 16, 17, 18, 23, 24, 25, 26, 27, 28, 29, 30, 31, 32, 33, 34, 35] (by decide +kernel) (by decide +kernel)
set_option maxRecDepth 20000 in
theorem gX10_pairItem_X10_number : GoodIn wsX10_pairItem (wsV RX10 76 RX10 yX10_number wsX10_number) := goodIn_app (goodIn_of _ (by decide +kernel)) ggX10_pairItem_X10_number
set_option maxRecDepth 20000 in
theorem ggX10_pairItem_X10_takes : GoodIn wsX10_pairItem wsX10_takes := goodIn_r _ [22, 9, 10, 11, 12, 5, 13, 14, 15, 23, 24, 25, 26, 27, 28, 29, 30, 31, 32, 33, 34, 35] (by decide +kernel) (by decide +kernel)
set_option maxRecDepth 20000 in
theorem gX10_pairItem_X10_takes : GoodIn wsX10_pairItem (wsV RX10 80 RX10 yX10_takes wsX10_takes) := goodIn_app (goodIn_of _ (by decide +kernel)) ggX10_pairItem_X10_takes
theorem dX10_pairItem_0 : decode cX10_pairItem 0 = .ok (.aload_n 0, 1) := by decide +kernel
theorem dX10_pairItem_1 : decode cX10_pairItem 1 = .ok (.getfield 13, 3) := by decide +kernel
theorem dX10_pairItem_4 : decode cX10_pairItem 4 = .ok (.iload_n 1, 1) := by decide +kernel
theorem dX10_pairItem_5 : decode cX10_pairItem 5 = .ok (.aload_n 0, 1) := by decide +kernel
theorem dX10_pairItem_6 : decode cX10_pairItem 6 = .ok (.iload_n 2, 1) := by decide +kernel
theorem dX10_pairItem_7 : decode cX10_pairItem 7 = .ok (.iload_n 3, 1) := by decide +kernel
theorem dX10_pairItem_8 : decode cX10_pairItem 8 = .ok (.invokevirtual 76, 3) := by decide +kernel
theorem dX10_pairItem_11 : decode cX10_pairItem 11 = .ok (.iastore, 1) := by decide +kernel
theorem dX10_pairItem_12 : decode cX10_pairItem 12 = .ok (.aload_n 0, 1) := by decide +kernel
theorem dX10_pairItem_13 : decode cX10_pairItem 13 = .ok (.getfield 13, 3) := by decide +kernel
theorem dX10_pairItem_16 : decode cX10_pairItem 16 = .ok (.iload_n 1, 1) := by decide +kernel
theorem dX10_pairItem_17 : decode cX10_pairItem 17 = .ok (.iaload, 1) := by decide +kernel
theorem dX10_pairItem_18 : decode cX10_pairItem 18 = .ok (.ifCond .lt 12, 3) := by decide +kernel
theorem dX10_pairItem_21 : decode cX10_pairItem 21 = .ok (.aload_n 0, 1) := by decide +kernel
theorem dX10_pairItem_22 : decode cX10_pairItem 22 = .ok (.bipush 44, 2) := by decide +kernel
theorem dX10_pairItem_24 : decode cX10_pairItem 24 = .ok (.invokevirtual 80, 3) := by decide +kernel
theorem dX10_pairItem_27 : decode cX10_pairItem 27 = .ok (.ifCond .ne 5, 3) := by decide +kernel
theorem dX10_pairItem_30 : decode cX10_pairItem 30 = .ok (.iconst 0, 1) := by decide +kernel
theorem dX10_pairItem_31 : decode cX10_pairItem 31 = .ok (.ireturn, 1) := by decide +kernel
theorem dX10_pairItem_32 : decode cX10_pairItem 32 = .ok (.aload_n 0, 1) := by decide +kernel
theorem dX10_pairItem_33 : decode cX10_pairItem 33 = .ok (.getfield 13, 3) := by decide +kernel
theorem dX10_pairItem_36 : decode cX10_pairItem 36 = .ok (.iload_n 1, 1) := by decide +kernel
theorem dX10_pairItem_37 : decode cX10_pairItem 37 = .ok (.iconst 1, 1) := by decide +kernel
theorem dX10_pairItem_38 : decode cX10_pairItem 38 = .ok (.iadd, 1) := by decide +kernel
theorem dX10_pairItem_39 : decode cX10_pairItem 39 = .ok (.aload_n 0, 1) := by decide +kernel
theorem dX10_pairItem_40 : decode cX10_pairItem 40 = .ok (.iload_n 2, 1) := by decide +kernel
theorem dX10_pairItem_41 : decode cX10_pairItem 41 = .ok (.iload_n 3, 1) := by decide +kernel
theorem dX10_pairItem_42 : decode cX10_pairItem 42 = .ok (.invokevirtual 76, 3) := by decide +kernel
theorem dX10_pairItem_45 : decode cX10_pairItem 45 = .ok (.iastore, 1) := by decide +kernel
theorem dX10_pairItem_46 : decode cX10_pairItem 46 = .ok (.aload_n 0, 1) := by decide +kernel
theorem dX10_pairItem_47 : decode cX10_pairItem 47 = .ok (.getfield 13, 3) := by decide +kernel
theorem dX10_pairItem_50 : decode cX10_pairItem 50 = .ok (.iload_n 1, 1) := by decide +kernel
theorem dX10_pairItem_51 : decode cX10_pairItem 51 = .ok (.iconst 1, 1) := by decide +kernel
theorem dX10_pairItem_52 : decode cX10_pairItem 52 = .ok (.iadd, 1) := by decide +kernel
theorem dX10_pairItem_53 : decode cX10_pairItem 53 = .ok (.iaload, 1) := by decide +kernel
theorem dX10_pairItem_54 : decode cX10_pairItem 54 = .ok (.ifCond .lt 7, 3) := by decide +kernel
theorem dX10_pairItem_57 : decode cX10_pairItem 57 = .ok (.iconst 1, 1) := by decide +kernel
theorem dX10_pairItem_58 : decode cX10_pairItem 58 = .ok (.goto 4, 3) := by decide +kernel
theorem dX10_pairItem_61 : decode cX10_pairItem 61 = .ok (.iconst 0, 1) := by decide +kernel
theorem dX10_pairItem_62 : decode cX10_pairItem 62 = .ok (.ireturn, 1) := by decide +kernel
set_option maxRecDepth 20000 in
theorem ggX10_oneItem_X10_number : GoodIn wsX10_oneItem wsX10_number := goodIn_r _ [6, 7, 8, 9, 10, 11, 12, 5, 13, 14, 15, 16, 17, 18, 19, 20, 21, 22, 23, 24, 25, 26, 27, 28, 29, 30, 31] (by decide +kernel) (by decide +kernel)
set_option maxRecDepth 20000 in
theorem gX10_oneItem_X10_number : GoodIn wsX10_oneItem (wsV RX10 76 RX10 yX10_number wsX10_number) := goodIn_app (goodIn_of _ (by decide +kernel)) ggX10_oneItem_X10_number
theorem dX10_oneItem_0 : decode cX10_oneItem 0 = .ok (.aload_n 0, 1) := by decide +kernel
theorem dX10_oneItem_1 : decode cX10_oneItem 1 = .ok (.getfield 13, 3) := by decide +kernel
theorem dX10_oneItem_4 : decode cX10_oneItem 4 = .ok (.iload_n 1, 1) := by decide +kernel
theorem dX10_oneItem_5 : decode cX10_oneItem 5 = .ok (.aload_n 0, 1) := by decide +kernel
theorem dX10_oneItem_6 : decode cX10_oneItem 6 = .ok (.iload_n 2, 1) := by decide +kernel
theorem dX10_oneItem_7 : decode cX10_oneItem 7 = .ok (.iload_n 3, 1) := by decide +kernel
theorem dX10_oneItem_8 : decode cX10_oneItem 8 = .ok (.invokevirtual 76, 3) := by decide +kernel
theorem dX10_oneItem_11 : decode cX10_oneItem 11 = .ok (.iastore, 1) := by decide +kernel
theorem dX10_oneItem_12 : decode cX10_oneItem 12 = .ok (.aload_n 0, 1) := by decide +kernel
theorem dX10_oneItem_13 : decode cX10_oneItem 13 = .ok (.getfield 13, 3) := by decide +kernel
theorem dX10_oneItem_16 : decode cX10_oneItem 16 = .ok (.iload_n 1, 1) := by decide +kernel
theorem dX10_oneItem_17 : decode cX10_oneItem 17 = .ok (.iaload, 1) := by decide +kernel
theorem dX10_oneItem_18 : decode cX10_oneItem 18 = .ok (.ifCond .lt 7, 3) := by decide +kernel
theorem dX10_oneItem_21 : decode cX10_oneItem 21 = .ok (.iconst 1, 1) := by decide +kernel
theorem dX10_oneItem_22 : decode cX10_oneItem 22 = .ok (.goto 4, 3) := by decide +kernel
theorem dX10_oneItem_25 : decode cX10_oneItem 25 = .ok (.iconst 0, 1) := by decide +kernel
theorem dX10_oneItem_26 : decode cX10_oneItem 26 = .ok (.ireturn, 1) := by decide +kernel
set_option maxRecDepth 20000 in
theorem ggX10_joinItem_X10_number : GoodIn wsX10_joinItem wsX10_number := goodIn_r _ [6, 7, 8, 9, 10, 11, 12, 5, 13, 14, 15, 16, 17, 18, 23, 24, 25, 26, 27, 28, 29, 30, 31, 32, 33, 34, 35] (by decide +kernel) (by decide +kernel)
set_option maxRecDepth 20000 in
theorem gX10_joinItem_X10_number : GoodIn wsX10_joinItem (wsV RX10 76 RX10 yX10_number wsX10_number) := goodIn_app (goodIn_of _ (by decide +kernel)) ggX10_joinItem_X10_number
set_option maxRecDepth 20000 in
theorem ggX10_joinItem_X10_takes : GoodIn wsX10_joinItem wsX10_takes := goodIn_r _ [22, 9, 10, 11, 12, 5, 13, 14, 15, 23, 24, 25, 26, 27, 28, 29, 30, 31, 32, 33, 34, 35] (by decide +kernel) (by decide +kernel)
set_option maxRecDepth 20000 in
theorem gX10_joinItem_X10_takes : GoodIn wsX10_joinItem (wsV RX10 80 RX10 yX10_takes wsX10_takes) := goodIn_app (goodIn_of _ (by decide +kernel)) ggX10_joinItem_X10_takes
theorem dX10_joinItem_0 : decode cX10_joinItem 0 = .ok (.aload_n 0, 1) := by decide +kernel
theorem dX10_joinItem_1 : decode cX10_joinItem 1 = .ok (.getfield 13, 3) := by decide +kernel
theorem dX10_joinItem_4 : decode cX10_joinItem 4 = .ok (.sipush 304, 3) := by decide +kernel
theorem dX10_joinItem_7 : decode cX10_joinItem 7 = .ok (.iaload, 1) := by decide +kernel
theorem dX10_joinItem_8 : decode cX10_joinItem 8 = .ok (.bipush 8, 2) := by decide +kernel
theorem dX10_joinItem_10 : decode cX10_joinItem 10 = .ok (.if_icmp .ne 5, 3) := by decide +kernel
theorem dX10_joinItem_13 : decode cX10_joinItem 13 = .ok (.iconst 0, 1) := by decide +kernel
theorem dX10_joinItem_14 : decode cX10_joinItem 14 = .ok (.ireturn, 1) := by decide +kernel
theorem dX10_joinItem_15 : decode cX10_joinItem 15 = .ok (.sipush 305, 3) := by decide +kernel
theorem dX10_joinItem_18 : decode cX10_joinItem 18 = .ok (.iconst 3, 1) := by decide +kernel
theorem dX10_joinItem_19 : decode cX10_joinItem 19 = .ok (.aload_n 0, 1) := by decide +kernel
theorem dX10_joinItem_20 : decode cX10_joinItem 20 = .ok (.getfield 13, 3) := by decide +kernel
theorem dX10_joinItem_23 : decode cX10_joinItem 23 = .ok (.sipush 304, 3) := by decide +kernel
theorem dX10_joinItem_26 : decode cX10_joinItem 26 = .ok (.iaload, 1) := by decide +kernel
theorem dX10_joinItem_27 : decode cX10_joinItem 27 = .ok (.imul, 1) := by decide +kernel
theorem dX10_joinItem_28 : decode cX10_joinItem 28 = .ok (.iadd, 1) := by decide +kernel
theorem dX10_joinItem_29 : decode cX10_joinItem 29 = .ok (.istore_n 1, 1) := by decide +kernel
theorem dX10_joinItem_30 : decode cX10_joinItem 30 = .ok (.iconst 0, 1) := by decide +kernel
theorem dX10_joinItem_31 : decode cX10_joinItem 31 = .ok (.istore_n 2, 1) := by decide +kernel
theorem dX10_joinItem_32 : decode cX10_joinItem 32 = .ok (.iload_n 2, 1) := by decide +kernel
theorem dX10_joinItem_33 : decode cX10_joinItem 33 = .ok (.iconst 3, 1) := by decide +kernel
theorem dX10_joinItem_34 : decode cX10_joinItem 34 = .ok (.if_icmp .ge 51, 3) := by decide +kernel
theorem dX10_joinItem_37 : decode cX10_joinItem 37 = .ok (.aload_n 0, 1) := by decide +kernel
theorem dX10_joinItem_38 : decode cX10_joinItem 38 = .ok (.getfield 13, 3) := by decide +kernel
theorem dX10_joinItem_41 : decode cX10_joinItem 41 = .ok (.iload_n 1, 1) := by decide +kernel
theorem dX10_joinItem_42 : decode cX10_joinItem 42 = .ok (.iload_n 2, 1) := by decide +kernel
theorem dX10_joinItem_43 : decode cX10_joinItem 43 = .ok (.iadd, 1) := by decide +kernel
theorem dX10_joinItem_44 : decode cX10_joinItem 44 = .ok (.aload_n 0, 1) := by decide +kernel
theorem dX10_joinItem_45 : decode cX10_joinItem 45 = .ok (.iconst 0, 1) := by decide +kernel
theorem dX10_joinItem_46 : decode cX10_joinItem 46 = .ok (.bipush 7, 2) := by decide +kernel
theorem dX10_joinItem_48 : decode cX10_joinItem 48 = .ok (.invokevirtual 76, 3) := by decide +kernel
theorem dX10_joinItem_51 : decode cX10_joinItem 51 = .ok (.iastore, 1) := by decide +kernel
theorem dX10_joinItem_52 : decode cX10_joinItem 52 = .ok (.aload_n 0, 1) := by decide +kernel
theorem dX10_joinItem_53 : decode cX10_joinItem 53 = .ok (.getfield 13, 3) := by decide +kernel
theorem dX10_joinItem_56 : decode cX10_joinItem 56 = .ok (.iload_n 1, 1) := by decide +kernel
theorem dX10_joinItem_57 : decode cX10_joinItem 57 = .ok (.iload_n 2, 1) := by decide +kernel
theorem dX10_joinItem_58 : decode cX10_joinItem 58 = .ok (.iadd, 1) := by decide +kernel
theorem dX10_joinItem_59 : decode cX10_joinItem 59 = .ok (.iaload, 1) := by decide +kernel
theorem dX10_joinItem_60 : decode cX10_joinItem 60 = .ok (.ifCond .lt 17, 3) := by decide +kernel
theorem dX10_joinItem_63 : decode cX10_joinItem 63 = .ok (.iload_n 2, 1) := by decide +kernel
theorem dX10_joinItem_64 : decode cX10_joinItem 64 = .ok (.iconst 2, 1) := by decide +kernel
theorem dX10_joinItem_65 : decode cX10_joinItem 65 = .ok (.if_icmp .ge 14, 3) := by decide +kernel
theorem dX10_joinItem_68 : decode cX10_joinItem 68 = .ok (.aload_n 0, 1) := by decide +kernel
theorem dX10_joinItem_69 : decode cX10_joinItem 69 = .ok (.bipush 44, 2) := by decide +kernel
theorem dX10_joinItem_71 : decode cX10_joinItem 71 = .ok (.invokevirtual 80, 3) := by decide +kernel
theorem dX10_joinItem_74 : decode cX10_joinItem 74 = .ok (.ifCond .ne 5, 3) := by decide +kernel
theorem dX10_joinItem_77 : decode cX10_joinItem 77 = .ok (.iconst 0, 1) := by decide +kernel
theorem dX10_joinItem_78 : decode cX10_joinItem 78 = .ok (.ireturn, 1) := by decide +kernel
theorem dX10_joinItem_79 : decode cX10_joinItem 79 = .ok (.iinc 2 1, 3) := by decide +kernel
theorem dX10_joinItem_82 : decode cX10_joinItem 82 = .ok (.goto (-50), 3) := by decide +kernel
theorem dX10_joinItem_85 : decode cX10_joinItem 85 = .ok (.aload_n 0, 1) := by decide +kernel
theorem dX10_joinItem_86 : decode cX10_joinItem 86 = .ok (.getfield 13, 3) := by decide +kernel
theorem dX10_joinItem_89 : decode cX10_joinItem 89 = .ok (.sipush 304, 3) := by decide +kernel
theorem dX10_joinItem_92 : decode cX10_joinItem 92 = .ok (.dup2, 1) := by decide +kernel
theorem dX10_joinItem_93 : decode cX10_joinItem 93 = .ok (.iaload, 1) := by decide +kernel
theorem dX10_joinItem_94 : decode cX10_joinItem 94 = .ok (.iconst 1, 1) := by decide +kernel
theorem dX10_joinItem_95 : decode cX10_joinItem 95 = .ok (.iadd, 1) := by decide +kernel
theorem dX10_joinItem_96 : decode cX10_joinItem 96 = .ok (.iastore, 1) := by decide +kernel
theorem dX10_joinItem_97 : decode cX10_joinItem 97 = .ok (.aload_n 0, 1) := by decide +kernel
theorem dX10_joinItem_98 : decode cX10_joinItem 98 = .ok (.getfield 13, 3) := by decide +kernel
theorem dX10_joinItem_101 : decode cX10_joinItem 101 = .ok (.iload_n 1, 1) := by decide +kernel
theorem dX10_joinItem_102 : decode cX10_joinItem 102 = .ok (.iaload, 1) := by decide +kernel
theorem dX10_joinItem_103 : decode cX10_joinItem 103 = .ok (.aload_n 0, 1) := by decide +kernel
theorem dX10_joinItem_104 : decode cX10_joinItem 104 = .ok (.getfield 13, 3) := by decide +kernel
theorem dX10_joinItem_107 : decode cX10_joinItem 107 = .ok (.iload_n 1, 1) := by decide +kernel
theorem dX10_joinItem_108 : decode cX10_joinItem 108 = .ok (.iconst 1, 1) := by decide +kernel
theorem dX10_joinItem_109 : decode cX10_joinItem 109 = .ok (.iadd, 1) := by decide +kernel
theorem dX10_joinItem_110 : decode cX10_joinItem 110 = .ok (.iaload, 1) := by decide +kernel
theorem dX10_joinItem_111 : decode cX10_joinItem 111 = .ok (.if_icmp .eq 43, 3) := by decide +kernel
theorem dX10_joinItem_114 : decode cX10_joinItem 114 = .ok (.aload_n 0, 1) := by decide +kernel
theorem dX10_joinItem_115 : decode cX10_joinItem 115 = .ok (.getfield 13, 3) := by decide +kernel
theorem dX10_joinItem_118 : decode cX10_joinItem 118 = .ok (.iload_n 1, 1) := by decide +kernel
theorem dX10_joinItem_119 : decode cX10_joinItem 119 = .ok (.iaload, 1) := by decide +kernel
theorem dX10_joinItem_120 : decode cX10_joinItem 120 = .ok (.aload_n 0, 1) := by decide +kernel
theorem dX10_joinItem_121 : decode cX10_joinItem 121 = .ok (.getfield 13, 3) := by decide +kernel
theorem dX10_joinItem_124 : decode cX10_joinItem 124 = .ok (.iload_n 1, 1) := by decide +kernel
theorem dX10_joinItem_125 : decode cX10_joinItem 125 = .ok (.iconst 2, 1) := by decide +kernel
theorem dX10_joinItem_126 : decode cX10_joinItem 126 = .ok (.iadd, 1) := by decide +kernel
theorem dX10_joinItem_127 : decode cX10_joinItem 127 = .ok (.iaload, 1) := by decide +kernel
theorem dX10_joinItem_128 : decode cX10_joinItem 128 = .ok (.if_icmp .eq 26, 3) := by decide +kernel
theorem dX10_joinItem_131 : decode cX10_joinItem 131 = .ok (.aload_n 0, 1) := by decide +kernel
theorem dX10_joinItem_132 : decode cX10_joinItem 132 = .ok (.getfield 13, 3) := by decide +kernel
theorem dX10_joinItem_135 : decode cX10_joinItem 135 = .ok (.iload_n 1, 1) := by decide +kernel
theorem dX10_joinItem_136 : decode cX10_joinItem 136 = .ok (.iconst 1, 1) := by decide +kernel
theorem dX10_joinItem_137 : decode cX10_joinItem 137 = .ok (.iadd, 1) := by decide +kernel
theorem dX10_joinItem_138 : decode cX10_joinItem 138 = .ok (.iaload, 1) := by decide +kernel
theorem dX10_joinItem_139 : decode cX10_joinItem 139 = .ok (.aload_n 0, 1) := by decide +kernel
theorem dX10_joinItem_140 : decode cX10_joinItem 140 = .ok (.getfield 13, 3) := by decide +kernel
theorem dX10_joinItem_143 : decode cX10_joinItem 143 = .ok (.iload_n 1, 1) := by decide +kernel
theorem dX10_joinItem_144 : decode cX10_joinItem 144 = .ok (.iconst 2, 1) := by decide +kernel
theorem dX10_joinItem_145 : decode cX10_joinItem 145 = .ok (.iadd, 1) := by decide +kernel
theorem dX10_joinItem_146 : decode cX10_joinItem 146 = .ok (.iaload, 1) := by decide +kernel
theorem dX10_joinItem_147 : decode cX10_joinItem 147 = .ok (.if_icmp .eq 7, 3) := by decide +kernel
theorem dX10_joinItem_150 : decode cX10_joinItem 150 = .ok (.iconst 1, 1) := by decide +kernel
theorem dX10_joinItem_151 : decode cX10_joinItem 151 = .ok (.goto 4, 3) := by decide +kernel
theorem dX10_joinItem_154 : decode cX10_joinItem 154 = .ok (.iconst 0, 1) := by decide +kernel
theorem dX10_joinItem_155 : decode cX10_joinItem 155 = .ok (.ireturn, 1) := by decide +kernel
set_option maxRecDepth 20000 in
theorem ggX10_needItem_X10_byteAt : GoodIn wsX10_needItem wsX10_byteAt := goodIn_r _ [9, 4, 10, 11, 15, 16, 17, 18, 19, 20, 21, 22, 23, 24, 25, 26, 27] (by decide +kernel) (by decide +kernel)
set_option maxRecDepth 20000 in
theorem gX10_needItem_X10_byteAt : GoodIn wsX10_needItem (wsV RX10 63 RX10 yX10_byteAt wsX10_byteAt) := goodIn_app (goodIn_of _ (by decide +kernel)) ggX10_needItem_X10_byteAt
set_option maxRecDepth 20000 in
theorem ggX10_needItem_X10_in : GoodIn wsX10_needItem wsX10_in := goodIn_r _ [14] (by decide +kernel) (by decide +kernel)
set_option maxRecDepth 20000 in
theorem gX10_needItem_X10_in : GoodIn wsX10_needItem (va_wsS RX10 49 yX10_in wsX10_in) := goodIn_app (goodIn_of _ (by decide +kernel)) ggX10_needItem_X10_in
theorem dX10_needItem_0 : decode cX10_needItem 0 = .ok (.aload_n 0, 1) := by decide +kernel
theorem dX10_needItem_1 : decode cX10_needItem 1 = .ok (.getfield 13, 3) := by decide +kernel
theorem dX10_needItem_4 : decode cX10_needItem 4 = .ok (.sipush 329, 3) := by decide +kernel
theorem dX10_needItem_7 : decode cX10_needItem 7 = .ok (.iaload, 1) := by decide +kernel
theorem dX10_needItem_8 : decode cX10_needItem 8 = .ok (.bipush 6, 2) := by decide +kernel
theorem dX10_needItem_10 : decode cX10_needItem 10 = .ok (.if_icmp .ne 5, 3) := by decide +kernel
theorem dX10_needItem_13 : decode cX10_needItem 13 = .ok (.iconst 0, 1) := by decide +kernel
theorem dX10_needItem_14 : decode cX10_needItem 14 = .ok (.ireturn, 1) := by decide +kernel
theorem dX10_needItem_15 : decode cX10_needItem 15 = .ok (.iconst 0, 1) := by decide +kernel
theorem dX10_needItem_16 : decode cX10_needItem 16 = .ok (.istore_n 1, 1) := by decide +kernel
theorem dX10_needItem_17 : decode cX10_needItem 17 = .ok (.aload_n 0, 1) := by decide +kernel
theorem dX10_needItem_18 : decode cX10_needItem 18 = .ok (.invokevirtual 63, 3) := by decide +kernel
theorem dX10_needItem_21 : decode cX10_needItem 21 = .ok (.i2l, 1) := by decide +kernel
theorem dX10_needItem_22 : decode cX10_needItem 22 = .ok (.ldc2_w 67, 3) := by decide +kernel
theorem dX10_needItem_25 : decode cX10_needItem 25 = .ok (.ldc2_w 87, 3) := by decide +kernel
theorem dX10_needItem_28 : decode cX10_needItem 28 = .ok (.invokestatic 49, 3) := by decide +kernel
theorem dX10_needItem_31 : decode cX10_needItem 31 = .ok (.ifCond .eq 38, 3) := by decide +kernel
theorem dX10_needItem_34 : decode cX10_needItem 34 = .ok (.aload_n 0, 1) := by decide +kernel
theorem dX10_needItem_35 : decode cX10_needItem 35 = .ok (.invokevirtual 63, 3) := by decide +kernel
theorem dX10_needItem_38 : decode cX10_needItem 38 = .ok (.bipush 48, 2) := by decide +kernel
theorem dX10_needItem_40 : decode cX10_needItem 40 = .ok (.isub, 1) := by decide +kernel
theorem dX10_needItem_41 : decode cX10_needItem 41 = .ok (.istore_n 2, 1) := by decide +kernel
theorem dX10_needItem_42 : decode cX10_needItem 42 = .ok (.iload_n 1, 1) := by decide +kernel
theorem dX10_needItem_43 : decode cX10_needItem 43 = .ok (.iload_n 2, 1) := by decide +kernel
theorem dX10_needItem_44 : decode cX10_needItem 44 = .ok (.ishr, 1) := by decide +kernel
theorem dX10_needItem_45 : decode cX10_needItem 45 = .ok (.ifCond .eq 5, 3) := by decide +kernel
theorem dX10_needItem_48 : decode cX10_needItem 48 = .ok (.iconst 0, 1) := by decide +kernel
theorem dX10_needItem_49 : decode cX10_needItem 49 = .ok (.ireturn, 1) := by decide +kernel
theorem dX10_needItem_50 : decode cX10_needItem 50 = .ok (.iload_n 1, 1) := by decide +kernel
theorem dX10_needItem_51 : decode cX10_needItem 51 = .ok (.iconst 1, 1) := by decide +kernel
theorem dX10_needItem_52 : decode cX10_needItem 52 = .ok (.iload_n 2, 1) := by decide +kernel
theorem dX10_needItem_53 : decode cX10_needItem 53 = .ok (.ishl, 1) := by decide +kernel
theorem dX10_needItem_54 : decode cX10_needItem 54 = .ok (.ior, 1) := by decide +kernel
theorem dX10_needItem_55 : decode cX10_needItem 55 = .ok (.istore_n 1, 1) := by decide +kernel
theorem dX10_needItem_56 : decode cX10_needItem 56 = .ok (.aload_n 0, 1) := by decide +kernel
theorem dX10_needItem_57 : decode cX10_needItem 57 = .ok (.dup, 1) := by decide +kernel
theorem dX10_needItem_58 : decode cX10_needItem 58 = .ok (.getfield 60, 3) := by decide +kernel
theorem dX10_needItem_61 : decode cX10_needItem 61 = .ok (.iconst 1, 1) := by decide +kernel
theorem dX10_needItem_62 : decode cX10_needItem 62 = .ok (.iadd, 1) := by decide +kernel
theorem dX10_needItem_63 : decode cX10_needItem 63 = .ok (.putfield 60, 3) := by decide +kernel
theorem dX10_needItem_66 : decode cX10_needItem 66 = .ok (.goto (-49), 3) := by decide +kernel
theorem dX10_needItem_69 : decode cX10_needItem 69 = .ok (.aload_n 0, 1) := by decide +kernel
theorem dX10_needItem_70 : decode cX10_needItem 70 = .ok (.getfield 13, 3) := by decide +kernel
theorem dX10_needItem_73 : decode cX10_needItem 73 = .ok (.sipush 330, 3) := by decide +kernel
theorem dX10_needItem_76 : decode cX10_needItem 76 = .ok (.aload_n 0, 1) := by decide +kernel
theorem dX10_needItem_77 : decode cX10_needItem 77 = .ok (.getfield 13, 3) := by decide +kernel
theorem dX10_needItem_80 : decode cX10_needItem 80 = .ok (.sipush 329, 3) := by decide +kernel
theorem dX10_needItem_83 : decode cX10_needItem 83 = .ok (.iaload, 1) := by decide +kernel
theorem dX10_needItem_84 : decode cX10_needItem 84 = .ok (.iadd, 1) := by decide +kernel
theorem dX10_needItem_85 : decode cX10_needItem 85 = .ok (.iload_n 1, 1) := by decide +kernel
theorem dX10_needItem_86 : decode cX10_needItem 86 = .ok (.iastore, 1) := by decide +kernel
theorem dX10_needItem_87 : decode cX10_needItem 87 = .ok (.aload_n 0, 1) := by decide +kernel
theorem dX10_needItem_88 : decode cX10_needItem 88 = .ok (.getfield 13, 3) := by decide +kernel
theorem dX10_needItem_91 : decode cX10_needItem 91 = .ok (.sipush 329, 3) := by decide +kernel
theorem dX10_needItem_94 : decode cX10_needItem 94 = .ok (.dup2, 1) := by decide +kernel
theorem dX10_needItem_95 : decode cX10_needItem 95 = .ok (.iaload, 1) := by decide +kernel
theorem dX10_needItem_96 : decode cX10_needItem 96 = .ok (.iconst 1, 1) := by decide +kernel
theorem dX10_needItem_97 : decode cX10_needItem 97 = .ok (.iadd, 1) := by decide +kernel
theorem dX10_needItem_98 : decode cX10_needItem 98 = .ok (.iastore, 1) := by decide +kernel
theorem dX10_needItem_99 : decode cX10_needItem 99 = .ok (.iload_n 1, 1) := by decide +kernel
theorem dX10_needItem_100 : decode cX10_needItem 100 = .ok (.ifCond .eq 7, 3) := by decide +kernel
theorem dX10_needItem_103 : decode cX10_needItem 103 = .ok (.iconst 1, 1) := by decide +kernel
theorem dX10_needItem_104 : decode cX10_needItem 104 = .ok (.goto 4, 3) := by decide +kernel
theorem dX10_needItem_107 : decode cX10_needItem 107 = .ok (.iconst 0, 1) := by decide +kernel
theorem dX10_needItem_108 : decode cX10_needItem 108 = .ok (.ireturn, 1) := by decide +kernel
set_option maxRecDepth 20000 in
theorem ggX10_item_X10_byteAt : GoodIn wsX10_item wsX10_byteAt := goodIn_r _ [6, 1, 7, 8, 61, 62, 63, 64, 65, 66, 67, 68, 69, 70, 71, 72, 73] (by decide +kernel) (by decide +kernel)
set_option maxRecDepth 20000 in
theorem gX10_item_X10_byteAt : GoodIn wsX10_item (wsV RX10 63 RX10 yX10_byteAt wsX10_byteAt) := goodIn_app (goodIn_of _ (by decide +kernel)) ggX10_item_X10_byteAt
set_option maxRecDepth 20000 in
theorem ggX10_item_X10_wordItem : GoodIn wsX10_item wsX10_wordItem := goodIn_r _ [12, 13, 14, 15, 5, 16, 17, 18, 1, 2, 3, 4, 6, 7, 8, 19, 20, 21, 22, 23, 24, 25, 26, 27, 28, 29, 30, 31, 32, 33, 34, 35, 61, 62, 63, 64, 65, 66, 67, 68, 69, 70, 71, 72, 73] (by decide +kernel) (by decide +kernel)
set_option maxRecDepth 20000 in
theorem gX10_item_X10_wordItem : GoodIn wsX10_item (wsV RX10 89 RX10 yX10_wordItem wsX10_wordItem) := goodIn_app (goodIn_of _ (by decide +kernel)) ggX10_item_X10_wordItem
set_option maxRecDepth 20000 in
theorem ggX10_item_X10_soundsItem : GoodIn wsX10_item wsX10_soundsItem := goodIn_r _ [39, 30, 13, 14, 15, 5, 16, 17, 18, 1, 2, 3, 4, 6, 7, 8, 19, 20, 21, 22, 23, 24, 25, 31, 32, 33, 34, 35, 61, 62, 63, 64, 65, 66, 67, 68, 69, 70, 71, 72, 73] (by decide +kernel) (by decide +kernel)
set_option maxRecDepth 20000 in
theorem gX10_item_X10_soundsItem : GoodIn wsX10_item (wsV RX10 93 RX10 yX10_soundsItem wsX10_soundsItem) := goodIn_app (goodIn_of _ (by decide +kernel)) ggX10_item_X10_soundsItem
set_option maxRecDepth 20000 in
theorem ggX10_item_X10_placeItem : GoodIn wsX10_item wsX10_placeItem := goodIn_r _ [43, 30, 31, 32, 33, 5, 34, 35, 1, 2, 3, 4, 6, 7, 8, 19, 20, 21, 61, 62, 63, 64, 65, 66, 67, 68, 69, 70, 71, 72, 73] (by decide +kernel) (by decide +kernel)
set_option maxRecDepth 20000 in
theorem gX10_item_X10_placeItem : GoodIn wsX10_item (wsV RX10 97 RX10 yX10_placeItem wsX10_placeItem) := goodIn_app (goodIn_of _ (by decide +kernel)) ggX10_item_X10_placeItem
set_option maxRecDepth 20000 in
theorem ggX10_item_X10_pairItem : GoodIn wsX10_item wsX10_pairItem := goodIn_r _ [47, 30, 13, 14, 15, 5, 16, 17, 18, 1, 2, 3, 4, 6, 7, 8, 19, 20, 21, 22, 23, 24, 25, 61, 62, 63, 64, 65, 66, 67, 68, 69, 70, 71, 72, 73] (by decide +kernel) (by decide +kernel)
set_option maxRecDepth 20000 in
theorem gX10_item_X10_pairItem : GoodIn wsX10_item (wsV RX10 100 RX10 yX10_pairItem wsX10_pairItem) := goodIn_app (goodIn_of _ (by decide +kernel)) ggX10_item_X10_pairItem
set_option maxRecDepth 20000 in
theorem ggX10_item_X10_oneItem : GoodIn wsX10_item wsX10_oneItem := goodIn_r _ [51, 30, 13, 14, 15, 5, 16, 17, 18, 1, 2, 3, 4, 6, 7, 8, 19, 20, 21, 61, 62, 63, 64, 65, 66, 67, 68, 69, 70, 71, 72, 73] (by decide +kernel) (by decide +kernel)
set_option maxRecDepth 20000 in
theorem gX10_item_X10_oneItem : GoodIn wsX10_item (wsV RX10 104 RX10 yX10_oneItem wsX10_oneItem) := goodIn_app (goodIn_of _ (by decide +kernel)) ggX10_item_X10_oneItem
set_option maxRecDepth 20000 in
theorem ggX10_item_X10_joinItem : GoodIn wsX10_item wsX10_joinItem := goodIn_r _ [55, 30, 13, 14, 15, 5, 16, 17, 18, 1, 2, 3, 4, 6, 7, 8, 19, 20, 21, 22, 23, 24, 25, 61, 62, 63, 64, 65, 66, 67, 68, 69, 70, 71, 72, 73] (by decide +kernel) (by decide +kernel)
set_option maxRecDepth 20000 in
theorem gX10_item_X10_joinItem : GoodIn wsX10_item (wsV RX10 107 RX10 yX10_joinItem wsX10_joinItem) := goodIn_app (goodIn_of _ (by decide +kernel)) ggX10_item_X10_joinItem
set_option maxRecDepth 20000 in
theorem ggX10_item_X10_needItem : GoodIn wsX10_item wsX10_needItem := goodIn_r _ [59, 30, 17, 60, 1, 2, 3, 4, 5, 6, 7, 8, 19, 20, 21, 61, 62, 63, 64, 65, 66, 67, 68, 69, 70, 71, 72, 73] (by decide +kernel) (by decide +kernel)
set_option maxRecDepth 20000 in
theorem gX10_item_X10_needItem : GoodIn wsX10_item (wsV RX10 110 RX10 yX10_needItem wsX10_needItem) := goodIn_app (goodIn_of _ (by decide +kernel)) ggX10_item_X10_needItem
theorem dX10_item_0 : decode cX10_item 0 = .ok (.aload_n 0, 1) := by decide +kernel
theorem dX10_item_1 : decode cX10_item 1 = .ok (.invokevirtual 63, 3) := by decide +kernel
theorem dX10_item_4 : decode cX10_item 4 = .ok (.istore_n 1, 1) := by decide +kernel
theorem dX10_item_5 : decode cX10_item 5 = .ok (.aload_n 0, 1) := by decide +kernel
theorem dX10_item_6 : decode cX10_item 6 = .ok (.dup, 1) := by decide +kernel
theorem dX10_item_7 : decode cX10_item 7 = .ok (.getfield 60, 3) := by decide +kernel
theorem dX10_item_10 : decode cX10_item 10 = .ok (.iconst 1, 1) := by decide +kernel
theorem dX10_item_11 : decode cX10_item 11 = .ok (.iadd, 1) := by decide +kernel
theorem dX10_item_12 : decode cX10_item 12 = .ok (.putfield 60, 3) := by decide +kernel
theorem dX10_item_15 : decode cX10_item 15 = .ok (.iload_n 1, 1) := by decide +kernel
theorem dX10_item_16 : decode cX10_item 16 = .ok (.tableswitch 171 101 119 #[163, 171, 142, 171, 171, 153, 120, 171, 171, 109, 131, 171, 171, 104, 99, 171, 158, 171, 92], 92) := by decide +kernel
theorem dX10_item_108 : decode cX10_item 108 = .ok (.aload_n 0, 1) := by decide +kernel
theorem dX10_item_109 : decode cX10_item 109 = .ok (.iconst 0, 1) := by decide +kernel
theorem dX10_item_110 : decode cX10_item 110 = .ok (.iconst 1, 1) := by decide +kernel
theorem dX10_item_111 : decode cX10_item 111 = .ok (.invokevirtual 89, 3) := by decide +kernel
theorem dX10_item_114 : decode cX10_item 114 = .ok (.ireturn, 1) := by decide +kernel
theorem dX10_item_115 : decode cX10_item 115 = .ok (.aload_n 0, 1) := by decide +kernel
theorem dX10_item_116 : decode cX10_item 116 = .ok (.invokevirtual 93, 3) := by decide +kernel
theorem dX10_item_119 : decode cX10_item 119 = .ok (.ireturn, 1) := by decide +kernel
theorem dX10_item_120 : decode cX10_item 120 = .ok (.aload_n 0, 1) := by decide +kernel
theorem dX10_item_121 : decode cX10_item 121 = .ok (.invokevirtual 97, 3) := by decide +kernel
theorem dX10_item_124 : decode cX10_item 124 = .ok (.ireturn, 1) := by decide +kernel
theorem dX10_item_125 : decode cX10_item 125 = .ok (.aload_n 0, 1) := by decide +kernel
theorem dX10_item_126 : decode cX10_item 126 = .ok (.sipush 298, 3) := by decide +kernel
theorem dX10_item_129 : decode cX10_item 129 = .ok (.iconst 1, 1) := by decide +kernel
theorem dX10_item_130 : decode cX10_item 130 = .ok (.bipush 8, 2) := by decide +kernel
theorem dX10_item_132 : decode cX10_item 132 = .ok (.invokevirtual 100, 3) := by decide +kernel
theorem dX10_item_135 : decode cX10_item 135 = .ok (.ireturn, 1) := by decide +kernel
theorem dX10_item_136 : decode cX10_item 136 = .ok (.aload_n 0, 1) := by decide +kernel
theorem dX10_item_137 : decode cX10_item 137 = .ok (.sipush 300, 3) := by decide +kernel
theorem dX10_item_140 : decode cX10_item 140 = .ok (.iconst 0, 1) := by decide +kernel
theorem dX10_item_141 : decode cX10_item 141 = .ok (.bipush 10, 2) := by decide +kernel
theorem dX10_item_143 : decode cX10_item 143 = .ok (.invokevirtual 100, 3) := by decide +kernel
theorem dX10_item_146 : decode cX10_item 146 = .ok (.ireturn, 1) := by decide +kernel
theorem dX10_item_147 : decode cX10_item 147 = .ok (.aload_n 0, 1) := by decide +kernel
theorem dX10_item_148 : decode cX10_item 148 = .ok (.sipush 302, 3) := by decide +kernel
theorem dX10_item_151 : decode cX10_item 151 = .ok (.iconst 0, 1) := by decide +kernel
theorem dX10_item_152 : decode cX10_item 152 = .ok (.bipush 10, 2) := by decide +kernel
theorem dX10_item_154 : decode cX10_item 154 = .ok (.invokevirtual 104, 3) := by decide +kernel
theorem dX10_item_157 : decode cX10_item 157 = .ok (.ireturn, 1) := by decide +kernel
theorem dX10_item_158 : decode cX10_item 158 = .ok (.aload_n 0, 1) := by decide +kernel
theorem dX10_item_159 : decode cX10_item 159 = .ok (.sipush 303, 3) := by decide +kernel
theorem dX10_item_162 : decode cX10_item 162 = .ok (.iconst 1, 1) := by decide +kernel
theorem dX10_item_163 : decode cX10_item 163 = .ok (.bipush 99, 2) := by decide +kernel
theorem dX10_item_165 : decode cX10_item 165 = .ok (.invokevirtual 104, 3) := by decide +kernel
theorem dX10_item_168 : decode cX10_item 168 = .ok (.ireturn, 1) := by decide +kernel
theorem dX10_item_169 : decode cX10_item 169 = .ok (.aload_n 0, 1) := by decide +kernel
theorem dX10_item_170 : decode cX10_item 170 = .ok (.invokevirtual 107, 3) := by decide +kernel
theorem dX10_item_173 : decode cX10_item 173 = .ok (.ireturn, 1) := by decide +kernel
theorem dX10_item_174 : decode cX10_item 174 = .ok (.aload_n 0, 1) := by decide +kernel
theorem dX10_item_175 : decode cX10_item 175 = .ok (.invokevirtual 110, 3) := by decide +kernel
theorem dX10_item_178 : decode cX10_item 178 = .ok (.ireturn, 1) := by decide +kernel
theorem dX10_item_179 : decode cX10_item 179 = .ok (.aload_n 0, 1) := by decide +kernel
theorem dX10_item_180 : decode cX10_item 180 = .ok (.bipush 112, 2) := by decide +kernel
theorem dX10_item_182 : decode cX10_item 182 = .ok (.iconst 2, 1) := by decide +kernel
theorem dX10_item_183 : decode cX10_item 183 = .ok (.invokevirtual 89, 3) := by decide +kernel
theorem dX10_item_186 : decode cX10_item 186 = .ok (.ireturn, 1) := by decide +kernel
theorem dX10_item_187 : decode cX10_item 187 = .ok (.iconst 0, 1) := by decide +kernel
theorem dX10_item_188 : decode cX10_item 188 = .ok (.ireturn, 1) := by decide +kernel
set_option maxRecDepth 20000 in
theorem ggX10_fault_X10_begin : GoodIn wsX10_fault wsX10_begin := goodIn_r _ [7, 8, 9, 70, 71, 72, 73, 74, 75, 76, 77, 78, 79, 80, 81, 82] (by decide +kernel) (by decide +kernel)
set_option maxRecDepth 20000 in
theorem gX10_fault_X10_begin : GoodIn wsX10_fault (wsV RX10 41 RX10 yX10_begin wsX10_begin) := goodIn_app (goodIn_of _ (by decide +kernel)) ggX10_fault_X10_begin
set_option maxRecDepth 20000 in
theorem ggX10_fault_X10_item : GoodIn wsX10_fault wsX10_item := goodIn_r _ [13, 1, 14, 15, 16, 6, 17, 2, 18, 19, 20, 21, 22, 23, 24, 25, 26, 27, 28, 29, 30, 31, 32, 33, 34, 35, 36, 37, 38, 39, 8, 40, 41, 42, 43, 44, 45, 46, 47, 48, 49, 50, 51, 52, 53, 54, 55, 56, 57, 58, 59, 60, 61, 62, 63, 64, 65, 66, 67, 68, 69, 70, 71, 72, 73, 74, 75, 76, 77, 78, 79, 80, 81, 82] (by decide +kernel) (by decide +kernel)
set_option maxRecDepth 20000 in
theorem gX10_fault_X10_item : GoodIn wsX10_fault (wsV RX10 113 RX10 yX10_item wsX10_item) := goodIn_app (goodIn_of _ (by decide +kernel)) ggX10_fault_X10_item
set_option maxRecDepth 20000 in
theorem ggX10_fault_X10_takes : GoodIn wsX10_fault wsX10_takes := goodIn_r _ [35, 1, 14, 15, 16, 6, 17, 2, 18, 70, 71, 72, 73, 74, 75, 76, 77, 78, 79, 80, 81, 82] (by decide +kernel) (by decide +kernel)
set_option maxRecDepth 20000 in
theorem gX10_fault_X10_takes : GoodIn wsX10_fault (wsV RX10 80 RX10 yX10_takes wsX10_takes) := goodIn_app (goodIn_of _ (by decide +kernel)) ggX10_fault_X10_takes
theorem dX10_fault_0 : decode cX10_fault 0 = .ok (.aload_n 0, 1) := by decide +kernel
theorem dX10_fault_1 : decode cX10_fault 1 = .ok (.invokevirtual 41, 3) := by decide +kernel
theorem dX10_fault_4 : decode cX10_fault 4 = .ok (.aload_n 0, 1) := by decide +kernel
theorem dX10_fault_5 : decode cX10_fault 5 = .ok (.iconst 0, 1) := by decide +kernel
theorem dX10_fault_6 : decode cX10_fault 6 = .ok (.putfield 60, 3) := by decide +kernel
theorem dX10_fault_9 : decode cX10_fault 9 = .ok (.aload_n 0, 1) := by decide +kernel
theorem dX10_fault_10 : decode cX10_fault 10 = .ok (.getfield 60, 3) := by decide +kernel
theorem dX10_fault_13 : decode cX10_fault 13 = .ok (.aload_n 0, 1) := by decide +kernel
theorem dX10_fault_14 : decode cX10_fault 14 = .ok (.getfield 53, 3) := by decide +kernel
theorem dX10_fault_17 : decode cX10_fault 17 = .ok (.if_icmp .ge 29, 3) := by decide +kernel
theorem dX10_fault_20 : decode cX10_fault 20 = .ok (.aload_n 0, 1) := by decide +kernel
theorem dX10_fault_21 : decode cX10_fault 21 = .ok (.getfield 60, 3) := by decide +kernel
theorem dX10_fault_24 : decode cX10_fault 24 = .ok (.istore_n 1, 1) := by decide +kernel
theorem dX10_fault_25 : decode cX10_fault 25 = .ok (.aload_n 0, 1) := by decide +kernel
theorem dX10_fault_26 : decode cX10_fault 26 = .ok (.invokevirtual 113, 3) := by decide +kernel
theorem dX10_fault_29 : decode cX10_fault 29 = .ok (.ifCond .eq 12, 3) := by decide +kernel
theorem dX10_fault_32 : decode cX10_fault 32 = .ok (.aload_n 0, 1) := by decide +kernel
theorem dX10_fault_33 : decode cX10_fault 33 = .ok (.bipush 59, 2) := by decide +kernel
theorem dX10_fault_35 : decode cX10_fault 35 = .ok (.invokevirtual 80, 3) := by decide +kernel
theorem dX10_fault_38 : decode cX10_fault 38 = .ok (.ifCond .ne 5, 3) := by decide +kernel
theorem dX10_fault_41 : decode cX10_fault 41 = .ok (.iload_n 1, 1) := by decide +kernel
theorem dX10_fault_42 : decode cX10_fault 42 = .ok (.ireturn, 1) := by decide +kernel
theorem dX10_fault_43 : decode cX10_fault 43 = .ok (.goto (-34), 3) := by decide +kernel
theorem dX10_fault_46 : decode cX10_fault 46 = .ok (.bipush (-4), 2) := by decide +kernel
theorem dX10_fault_48 : decode cX10_fault 48 = .ok (.ireturn, 1) := by decide +kernel
