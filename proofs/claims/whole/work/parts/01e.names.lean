set_option maxRecDepth 20000 in
theorem ggX9_from_X9_in : GoodIn wsX9_from wsX9_in := goodIn_r _ [8] (by decide +kernel) (by decide +kernel)
set_option maxRecDepth 20000 in
theorem gX9_from_X9_in : GoodIn wsX9_from (va_wsS RX9 49 yX9_in wsX9_in) := goodIn_app (goodIn_of _ (by decide +kernel)) ggX9_from_X9_in
set_option maxRecDepth 20000 in
theorem ggX9_from_X9_isMeaning : GoodIn wsX9_from wsX9_isMeaning := goodIn_r _ [11, 12, 5, 6, 7, 8] (by decide +kernel) (by decide +kernel)
set_option maxRecDepth 20000 in
theorem gX9_from_X9_isMeaning : GoodIn wsX9_from (va_wsS RX9 159 yX9_isMeaning wsX9_isMeaning) := goodIn_app (goodIn_of _ (by decide +kernel)) ggX9_from_X9_isMeaning
set_option maxRecDepth 20000 in
theorem ggX9_from_X9_earAt : GoodIn wsX9_from wsX9_earAt := goodIn_r _ [15] (by decide +kernel) (by decide +kernel)
set_option maxRecDepth 20000 in
theorem gX9_from_X9_earAt : GoodIn wsX9_from (va_wsS RX9 230 yX9_earAt wsX9_earAt) := goodIn_app (goodIn_of _ (by decide +kernel)) ggX9_from_X9_earAt
set_option maxRecDepth 20000 in
theorem ggX9_from_X9_say : GoodIn wsX9_from wsX9_say := goodIn_r _ [19, 2, 20, 21, 22, 7, 23, 24, 25, 26, 42, 43, 44, 45, 46, 47, 48, 49, 50, 51, 52, 53, 54] (by decide +kernel) (by decide +kernel)
set_option maxRecDepth 20000 in
theorem gX9_from_X9_say : GoodIn wsX9_from (wsV RX9 149 RX9 yX9_say wsX9_say) := goodIn_app (goodIn_of _ (by decide +kernel)) ggX9_from_X9_say
set_option maxRecDepth 20000 in
theorem ggX9_from_X9_wordAt : GoodIn wsX9_from wsX9_wordAt := goodIn_r _ [29] (by decide +kernel) (by decide +kernel)
set_option maxRecDepth 20000 in
theorem gX9_from_X9_wordAt : GoodIn wsX9_from (va_wsS RX9 129 yX9_wordAt wsX9_wordAt) := goodIn_app (goodIn_of _ (by decide +kernel)) ggX9_from_X9_wordAt
set_option maxRecDepth 20000 in
theorem ggX9_from_X9_likeOf : GoodIn wsX9_from wsX9_likeOf := goodIn_r _ [33, 3, 4, 34, 35, 36, 7, 37, 38, 39, 40, 41, 42, 43, 44, 45, 46, 47, 48, 49, 50, 51, 52, 53, 54] (by decide +kernel) (by decide +kernel)
set_option maxRecDepth 20000 in
theorem gX9_from_X9_likeOf : GoodIn wsX9_from (wsV RX9 153 RX9 yX9_likeOf wsX9_likeOf) := goodIn_app (goodIn_of _ (by decide +kernel)) ggX9_from_X9_likeOf
theorem dX9_from_0 : decode cX9_from 0 = .ok (.iload_n 1, 1) := by decide +kernel
theorem dX9_from_1 : decode cX9_from 1 = .ok (.i2l, 1) := by decide +kernel
theorem dX9_from_2 : decode cX9_from 2 = .ok (.lconst 0, 1) := by decide +kernel
theorem dX9_from_3 : decode cX9_from 3 = .ok (.ldc2_w 228, 3) := by decide +kernel
theorem dX9_from_6 : decode cX9_from 6 = .ok (.invokestatic 49, 3) := by decide +kernel
theorem dX9_from_9 : decode cX9_from 9 = .ok (.ifCond .eq 10, 3) := by decide +kernel
theorem dX9_from_12 : decode cX9_from 12 = .ok (.iload_n 2, 1) := by decide +kernel
theorem dX9_from_13 : decode cX9_from 13 = .ok (.invokestatic 159, 3) := by decide +kernel
theorem dX9_from_16 : decode cX9_from 16 = .ok (.ifCond .ne 5, 3) := by decide +kernel
theorem dX9_from_19 : decode cX9_from 19 = .ok (.iconst (-1), 1) := by decide +kernel
theorem dX9_from_20 : decode cX9_from 20 = .ok (.ireturn, 1) := by decide +kernel
theorem dX9_from_21 : decode cX9_from 21 = .ok (.aload_n 0, 1) := by decide +kernel
theorem dX9_from_22 : decode cX9_from 22 = .ok (.getfield 16, 3) := by decide +kernel
theorem dX9_from_25 : decode cX9_from 25 = .ok (.iload_n 1, 1) := by decide +kernel
theorem dX9_from_26 : decode cX9_from 26 = .ok (.iload_n 2, 1) := by decide +kernel
theorem dX9_from_27 : decode cX9_from 27 = .ok (.invokestatic 230, 3) := by decide +kernel
theorem dX9_from_30 : decode cX9_from 30 = .ok (.iaload, 1) := by decide +kernel
theorem dX9_from_31 : decode cX9_from 31 = .ok (.ifCond .ne 6, 3) := by decide +kernel
theorem dX9_from_34 : decode cX9_from 34 = .ok (.bipush (-2), 2) := by decide +kernel
theorem dX9_from_36 : decode cX9_from 36 = .ok (.ireturn, 1) := by decide +kernel
theorem dX9_from_37 : decode cX9_from 37 = .ok (.bipush (-4), 2) := by decide +kernel
theorem dX9_from_39 : decode cX9_from 39 = .ok (.istore_n 3, 1) := by decide +kernel
theorem dX9_from_40 : decode cX9_from 40 = .ok (.iconst 0, 1) := by decide +kernel
theorem dX9_from_41 : decode cX9_from 41 = .ok (.istore 4, 2) := by decide +kernel
theorem dX9_from_43 : decode cX9_from 43 = .ok (.iconst 0, 1) := by decide +kernel
theorem dX9_from_44 : decode cX9_from 44 = .ok (.istore 5, 2) := by decide +kernel
theorem dX9_from_46 : decode cX9_from 46 = .ok (.iload 5, 2) := by decide +kernel
theorem dX9_from_48 : decode cX9_from 48 = .ok (.iconst 2, 1) := by decide +kernel
theorem dX9_from_49 : decode cX9_from 49 = .ok (.if_icmp .ge 103, 3) := by decide +kernel
theorem dX9_from_52 : decode cX9_from 52 = .ok (.aload_n 0, 1) := by decide +kernel
theorem dX9_from_53 : decode cX9_from 53 = .ok (.iload_n 1, 1) := by decide +kernel
theorem dX9_from_54 : decode cX9_from 54 = .ok (.iload_n 2, 1) := by decide +kernel
theorem dX9_from_55 : decode cX9_from 55 = .ok (.invokestatic 230, 3) := by decide +kernel
theorem dX9_from_58 : decode cX9_from 58 = .ok (.iconst (-1), 1) := by decide +kernel
theorem dX9_from_59 : decode cX9_from 59 = .ok (.aload_n 0, 1) := by decide +kernel
theorem dX9_from_60 : decode cX9_from 60 = .ok (.getfield 25, 3) := by decide +kernel
theorem dX9_from_63 : decode cX9_from 63 = .ok (.invokevirtual 149, 3) := by decide +kernel
theorem dX9_from_66 : decode cX9_from 66 = .ok (.aload_n 0, 1) := by decide +kernel
theorem dX9_from_67 : decode cX9_from 67 = .ok (.iload 5, 2) := by decide +kernel
theorem dX9_from_69 : decode cX9_from 69 = .ok (.iload_n 2, 1) := by decide +kernel
theorem dX9_from_70 : decode cX9_from 70 = .ok (.invokestatic 129, 3) := by decide +kernel
theorem dX9_from_73 : decode cX9_from 73 = .ok (.iconst (-1), 1) := by decide +kernel
theorem dX9_from_74 : decode cX9_from 74 = .ok (.aload_n 0, 1) := by decide +kernel
theorem dX9_from_75 : decode cX9_from 75 = .ok (.getfield 28, 3) := by decide +kernel
theorem dX9_from_78 : decode cX9_from 78 = .ok (.invokevirtual 149, 3) := by decide +kernel
theorem dX9_from_81 : decode cX9_from 81 = .ok (.aload_n 0, 1) := by decide +kernel
theorem dX9_from_82 : decode cX9_from 82 = .ok (.getfield 28, 3) := by decide +kernel
theorem dX9_from_85 : decode cX9_from 85 = .ok (.iconst 0, 1) := by decide +kernel
theorem dX9_from_86 : decode cX9_from 86 = .ok (.iaload, 1) := by decide +kernel
theorem dX9_from_87 : decode cX9_from 87 = .ok (.ifCond .ne 7, 3) := by decide +kernel
theorem dX9_from_90 : decode cX9_from 90 = .ok (.iconst (-1), 1) := by decide +kernel
theorem dX9_from_91 : decode cX9_from 91 = .ok (.goto 7, 3) := by decide +kernel
theorem dX9_from_94 : decode cX9_from 94 = .ok (.aload_n 0, 1) := by decide +kernel
theorem dX9_from_95 : decode cX9_from 95 = .ok (.invokevirtual 153, 3) := by decide +kernel
theorem dX9_from_98 : decode cX9_from 98 = .ok (.istore 6, 2) := by decide +kernel
theorem dX9_from_100 : decode cX9_from 100 = .ok (.iload 6, 2) := by decide +kernel
theorem dX9_from_102 : decode cX9_from 102 = .ok (.aload_n 0, 1) := by decide +kernel
theorem dX9_from_103 : decode cX9_from 103 = .ok (.getfield 16, 3) := by decide +kernel
theorem dX9_from_106 : decode cX9_from 106 = .ok (.sipush 303, 3) := by decide +kernel
theorem dX9_from_109 : decode cX9_from 109 = .ok (.iaload, 1) := by decide +kernel
theorem dX9_from_110 : decode cX9_from 110 = .ok (.if_icmp .lt 19, 3) := by decide +kernel
theorem dX9_from_113 : decode cX9_from 113 = .ok (.iload_n 3, 1) := by decide +kernel
theorem dX9_from_114 : decode cX9_from 114 = .ok (.ifCond .lt 10, 3) := by decide +kernel
theorem dX9_from_117 : decode cX9_from 117 = .ok (.iload 6, 2) := by decide +kernel
theorem dX9_from_119 : decode cX9_from 119 = .ok (.iload 4, 2) := by decide +kernel
theorem dX9_from_121 : decode cX9_from 121 = .ok (.if_icmp .le 8, 3) := by decide +kernel
theorem dX9_from_124 : decode cX9_from 124 = .ok (.iload 5, 2) := by decide +kernel
theorem dX9_from_126 : decode cX9_from 126 = .ok (.goto 4, 3) := by decide +kernel
theorem dX9_from_129 : decode cX9_from 129 = .ok (.iload_n 3, 1) := by decide +kernel
theorem dX9_from_130 : decode cX9_from 130 = .ok (.istore_n 3, 1) := by decide +kernel
theorem dX9_from_131 : decode cX9_from 131 = .ok (.iload_n 3, 1) := by decide +kernel
theorem dX9_from_132 : decode cX9_from 132 = .ok (.iload 5, 2) := by decide +kernel
theorem dX9_from_134 : decode cX9_from 134 = .ok (.if_icmp .ne 8, 3) := by decide +kernel
theorem dX9_from_137 : decode cX9_from 137 = .ok (.iload 6, 2) := by decide +kernel
theorem dX9_from_139 : decode cX9_from 139 = .ok (.goto 5, 3) := by decide +kernel
theorem dX9_from_142 : decode cX9_from 142 = .ok (.iload 4, 2) := by decide +kernel
theorem dX9_from_144 : decode cX9_from 144 = .ok (.istore 4, 2) := by decide +kernel
theorem dX9_from_146 : decode cX9_from 146 = .ok (.iinc 5 1, 3) := by decide +kernel
theorem dX9_from_149 : decode cX9_from 149 = .ok (.goto (-103), 3) := by decide +kernel
theorem dX9_from_152 : decode cX9_from 152 = .ok (.iload_n 3, 1) := by decide +kernel
theorem dX9_from_153 : decode cX9_from 153 = .ok (.ireturn, 1) := by decide +kernel
set_option maxRecDepth 20000 in
theorem ggX9_chance_X9_in : GoodIn wsX9_chance wsX9_in := goodIn_r _ [8] (by decide +kernel) (by decide +kernel)
set_option maxRecDepth 20000 in
theorem gX9_chance_X9_in : GoodIn wsX9_chance (va_wsS RX9 49 yX9_in wsX9_in) := goodIn_app (goodIn_of _ (by decide +kernel)) ggX9_chance_X9_in
set_option maxRecDepth 20000 in
theorem ggX9_chance_X9_earAt : GoodIn wsX9_chance wsX9_earAt := goodIn_r _ [11] (by decide +kernel) (by decide +kernel)
set_option maxRecDepth 20000 in
theorem gX9_chance_X9_earAt : GoodIn wsX9_chance (va_wsS RX9 230 yX9_earAt wsX9_earAt) := goodIn_app (goodIn_of _ (by decide +kernel)) ggX9_chance_X9_earAt
set_option maxRecDepth 20000 in
theorem ggX9_chance_X9_wordAt : GoodIn wsX9_chance wsX9_wordAt := goodIn_r _ [14] (by decide +kernel) (by decide +kernel)
set_option maxRecDepth 20000 in
theorem gX9_chance_X9_wordAt : GoodIn wsX9_chance (va_wsS RX9 129 yX9_wordAt wsX9_wordAt) := goodIn_app (goodIn_of _ (by decide +kernel)) ggX9_chance_X9_wordAt
set_option maxRecDepth 20000 in
theorem ggX9_chance_X9_say : GoodIn wsX9_chance wsX9_say := goodIn_r _ [18, 2, 19, 20, 21, 7, 22, 23, 24, 25, 38, 39, 40, 41, 42, 43, 44, 45, 46, 47, 48, 49, 50] (by decide +kernel) (by decide +kernel)
set_option maxRecDepth 20000 in
theorem gX9_chance_X9_say : GoodIn wsX9_chance (wsV RX9 149 RX9 yX9_say wsX9_say) := goodIn_app (goodIn_of _ (by decide +kernel)) ggX9_chance_X9_say
set_option maxRecDepth 20000 in
theorem ggX9_chance_X9_likeOf : GoodIn wsX9_chance wsX9_likeOf := goodIn_r _ [29, 3, 4, 30, 31, 32, 7, 33, 34, 35, 36, 37, 38, 39, 40, 41, 42, 43, 44, 45, 46, 47, 48, 49, 50] (by decide +kernel) (by decide +kernel)
set_option maxRecDepth 20000 in
theorem gX9_chance_X9_likeOf : GoodIn wsX9_chance (wsV RX9 153 RX9 yX9_likeOf wsX9_likeOf) := goodIn_app (goodIn_of _ (by decide +kernel)) ggX9_chance_X9_likeOf
theorem dX9_chance_0 : decode cX9_chance 0 = .ok (.iload_n 1, 1) := by decide +kernel
theorem dX9_chance_1 : decode cX9_chance 1 = .ok (.i2l, 1) := by decide +kernel
theorem dX9_chance_2 : decode cX9_chance 2 = .ok (.lconst 0, 1) := by decide +kernel
theorem dX9_chance_3 : decode cX9_chance 3 = .ok (.ldc2_w 228, 3) := by decide +kernel
theorem dX9_chance_6 : decode cX9_chance 6 = .ok (.invokestatic 49, 3) := by decide +kernel
theorem dX9_chance_9 : decode cX9_chance 9 = .ok (.ifCond .eq 23, 3) := by decide +kernel
theorem dX9_chance_12 : decode cX9_chance 12 = .ok (.iload_n 2, 1) := by decide +kernel
theorem dX9_chance_13 : decode cX9_chance 13 = .ok (.i2l, 1) := by decide +kernel
theorem dX9_chance_14 : decode cX9_chance 14 = .ok (.lconst 0, 1) := by decide +kernel
theorem dX9_chance_15 : decode cX9_chance 15 = .ok (.lconst 1, 1) := by decide +kernel
theorem dX9_chance_16 : decode cX9_chance 16 = .ok (.invokestatic 49, 3) := by decide +kernel
theorem dX9_chance_19 : decode cX9_chance 19 = .ok (.ifCond .eq 13, 3) := by decide +kernel
theorem dX9_chance_22 : decode cX9_chance 22 = .ok (.iload_n 3, 1) := by decide +kernel
theorem dX9_chance_23 : decode cX9_chance 23 = .ok (.i2l, 1) := by decide +kernel
theorem dX9_chance_24 : decode cX9_chance 24 = .ok (.lconst 0, 1) := by decide +kernel
theorem dX9_chance_25 : decode cX9_chance 25 = .ok (.lconst 1, 1) := by decide +kernel
theorem dX9_chance_26 : decode cX9_chance 26 = .ok (.invokestatic 49, 3) := by decide +kernel
theorem dX9_chance_29 : decode cX9_chance 29 = .ok (.ifCond .ne 5, 3) := by decide +kernel
theorem dX9_chance_32 : decode cX9_chance 32 = .ok (.iconst (-1), 1) := by decide +kernel
theorem dX9_chance_33 : decode cX9_chance 33 = .ok (.ireturn, 1) := by decide +kernel
theorem dX9_chance_34 : decode cX9_chance 34 = .ok (.iconst 0, 1) := by decide +kernel
theorem dX9_chance_35 : decode cX9_chance 35 = .ok (.istore 4, 2) := by decide +kernel
theorem dX9_chance_37 : decode cX9_chance 37 = .ok (.iconst 0, 1) := by decide +kernel
theorem dX9_chance_38 : decode cX9_chance 38 = .ok (.istore 5, 2) := by decide +kernel
theorem dX9_chance_40 : decode cX9_chance 40 = .ok (.iconst 0, 1) := by decide +kernel
theorem dX9_chance_41 : decode cX9_chance 41 = .ok (.istore 6, 2) := by decide +kernel
theorem dX9_chance_43 : decode cX9_chance 43 = .ok (.iload 6, 2) := by decide +kernel
theorem dX9_chance_45 : decode cX9_chance 45 = .ok (.bipush 8, 2) := by decide +kernel
theorem dX9_chance_47 : decode cX9_chance 47 = .ok (.if_icmp .ge 118, 3) := by decide +kernel
theorem dX9_chance_50 : decode cX9_chance 50 = .ok (.iconst 0, 1) := by decide +kernel
theorem dX9_chance_51 : decode cX9_chance 51 = .ok (.istore 7, 2) := by decide +kernel
theorem dX9_chance_53 : decode cX9_chance 53 = .ok (.iload 7, 2) := by decide +kernel
theorem dX9_chance_55 : decode cX9_chance 55 = .ok (.bipush 8, 2) := by decide +kernel
theorem dX9_chance_57 : decode cX9_chance 57 = .ok (.if_icmp .ge 102, 3) := by decide +kernel
theorem dX9_chance_60 : decode cX9_chance 60 = .ok (.iload 6, 2) := by decide +kernel
theorem dX9_chance_62 : decode cX9_chance 62 = .ok (.iload 7, 2) := by decide +kernel
theorem dX9_chance_64 : decode cX9_chance 64 = .ok (.if_icmp .eq 89, 3) := by decide +kernel
theorem dX9_chance_67 : decode cX9_chance 67 = .ok (.aload_n 0, 1) := by decide +kernel
theorem dX9_chance_68 : decode cX9_chance 68 = .ok (.getfield 16, 3) := by decide +kernel
theorem dX9_chance_71 : decode cX9_chance 71 = .ok (.iload_n 1, 1) := by decide +kernel
theorem dX9_chance_72 : decode cX9_chance 72 = .ok (.iload 6, 2) := by decide +kernel
theorem dX9_chance_74 : decode cX9_chance 74 = .ok (.invokestatic 230, 3) := by decide +kernel
theorem dX9_chance_77 : decode cX9_chance 77 = .ok (.iaload, 1) := by decide +kernel
theorem dX9_chance_78 : decode cX9_chance 78 = .ok (.ifCond .le 75, 3) := by decide +kernel
theorem dX9_chance_81 : decode cX9_chance 81 = .ok (.aload_n 0, 1) := by decide +kernel
theorem dX9_chance_82 : decode cX9_chance 82 = .ok (.getfield 16, 3) := by decide +kernel
theorem dX9_chance_85 : decode cX9_chance 85 = .ok (.iload_n 2, 1) := by decide +kernel
theorem dX9_chance_86 : decode cX9_chance 86 = .ok (.iload 7, 2) := by decide +kernel
theorem dX9_chance_88 : decode cX9_chance 88 = .ok (.invokestatic 129, 3) := by decide +kernel
theorem dX9_chance_91 : decode cX9_chance 91 = .ok (.iaload, 1) := by decide +kernel
theorem dX9_chance_92 : decode cX9_chance 92 = .ok (.ifCond .le 61, 3) := by decide +kernel
theorem dX9_chance_95 : decode cX9_chance 95 = .ok (.aload_n 0, 1) := by decide +kernel
theorem dX9_chance_96 : decode cX9_chance 96 = .ok (.iload_n 1, 1) := by decide +kernel
theorem dX9_chance_97 : decode cX9_chance 97 = .ok (.iload 6, 2) := by decide +kernel
theorem dX9_chance_99 : decode cX9_chance 99 = .ok (.invokestatic 230, 3) := by decide +kernel
theorem dX9_chance_102 : decode cX9_chance 102 = .ok (.iconst (-1), 1) := by decide +kernel
theorem dX9_chance_103 : decode cX9_chance 103 = .ok (.aload_n 0, 1) := by decide +kernel
theorem dX9_chance_104 : decode cX9_chance 104 = .ok (.getfield 25, 3) := by decide +kernel
theorem dX9_chance_107 : decode cX9_chance 107 = .ok (.invokevirtual 149, 3) := by decide +kernel
theorem dX9_chance_110 : decode cX9_chance 110 = .ok (.aload_n 0, 1) := by decide +kernel
theorem dX9_chance_111 : decode cX9_chance 111 = .ok (.iload_n 2, 1) := by decide +kernel
theorem dX9_chance_112 : decode cX9_chance 112 = .ok (.iload 7, 2) := by decide +kernel
theorem dX9_chance_114 : decode cX9_chance 114 = .ok (.invokestatic 129, 3) := by decide +kernel
theorem dX9_chance_117 : decode cX9_chance 117 = .ok (.iconst (-1), 1) := by decide +kernel
theorem dX9_chance_118 : decode cX9_chance 118 = .ok (.aload_n 0, 1) := by decide +kernel
theorem dX9_chance_119 : decode cX9_chance 119 = .ok (.getfield 28, 3) := by decide +kernel
theorem dX9_chance_122 : decode cX9_chance 122 = .ok (.invokevirtual 149, 3) := by decide +kernel
theorem dX9_chance_125 : decode cX9_chance 125 = .ok (.iinc 5 1, 3) := by decide +kernel
theorem dX9_chance_128 : decode cX9_chance 128 = .ok (.iload 4, 2) := by decide +kernel
theorem dX9_chance_130 : decode cX9_chance 130 = .ok (.aload_n 0, 1) := by decide +kernel
theorem dX9_chance_131 : decode cX9_chance 131 = .ok (.invokevirtual 153, 3) := by decide +kernel
theorem dX9_chance_134 : decode cX9_chance 134 = .ok (.aload_n 0, 1) := by decide +kernel
theorem dX9_chance_135 : decode cX9_chance 135 = .ok (.getfield 16, 3) := by decide +kernel
theorem dX9_chance_138 : decode cX9_chance 138 = .ok (.sipush 303, 3) := by decide +kernel
theorem dX9_chance_141 : decode cX9_chance 141 = .ok (.iaload, 1) := by decide +kernel
theorem dX9_chance_142 : decode cX9_chance 142 = .ok (.if_icmp .lt 7, 3) := by decide +kernel
theorem dX9_chance_145 : decode cX9_chance 145 = .ok (.iconst 1, 1) := by decide +kernel
theorem dX9_chance_146 : decode cX9_chance 146 = .ok (.goto 4, 3) := by decide +kernel
theorem dX9_chance_149 : decode cX9_chance 149 = .ok (.iconst 0, 1) := by decide +kernel
theorem dX9_chance_150 : decode cX9_chance 150 = .ok (.iadd, 1) := by decide +kernel
theorem dX9_chance_151 : decode cX9_chance 151 = .ok (.istore 4, 2) := by decide +kernel
theorem dX9_chance_153 : decode cX9_chance 153 = .ok (.iinc 7 1, 3) := by decide +kernel
theorem dX9_chance_156 : decode cX9_chance 156 = .ok (.goto (-103), 3) := by decide +kernel
theorem dX9_chance_159 : decode cX9_chance 159 = .ok (.iinc 6 1, 3) := by decide +kernel
theorem dX9_chance_162 : decode cX9_chance 162 = .ok (.goto (-119), 3) := by decide +kernel
theorem dX9_chance_165 : decode cX9_chance 165 = .ok (.iload_n 3, 1) := by decide +kernel
theorem dX9_chance_166 : decode cX9_chance 166 = .ok (.ifCond .ne 8, 3) := by decide +kernel
theorem dX9_chance_169 : decode cX9_chance 169 = .ok (.iload 4, 2) := by decide +kernel
theorem dX9_chance_171 : decode cX9_chance 171 = .ok (.goto 5, 3) := by decide +kernel
theorem dX9_chance_174 : decode cX9_chance 174 = .ok (.iload 5, 2) := by decide +kernel
theorem dX9_chance_176 : decode cX9_chance 176 = .ok (.ireturn, 1) := by decide +kernel
set_option maxRecDepth 20000 in
theorem ggX9_joined_X9_isMeaning : GoodIn wsX9_joined wsX9_isMeaning := goodIn_r _ [7, 8, 9, 10, 6, 11] (by decide +kernel) (by decide +kernel)
set_option maxRecDepth 20000 in
theorem gX9_joined_X9_isMeaning : GoodIn wsX9_joined (va_wsS RX9 159 yX9_isMeaning wsX9_isMeaning) := goodIn_app (goodIn_of _ (by decide +kernel)) ggX9_joined_X9_isMeaning
set_option maxRecDepth 20000 in
theorem ggX9_joined_X9_earAt : GoodIn wsX9_joined wsX9_earAt := goodIn_r _ [14] (by decide +kernel) (by decide +kernel)
set_option maxRecDepth 20000 in
theorem gX9_joined_X9_earAt : GoodIn wsX9_joined (va_wsS RX9 230 yX9_earAt wsX9_earAt) := goodIn_app (goodIn_of _ (by decide +kernel)) ggX9_joined_X9_earAt
set_option maxRecDepth 20000 in
theorem ggX9_joined_X9_say : GoodIn wsX9_joined wsX9_say := goodIn_r _ [18, 1, 19, 20, 21, 6, 22, 23, 24, 25, 34, 35, 36, 37, 38, 39, 40, 41, 42, 43, 44, 45, 46] (by decide +kernel) (by decide +kernel)
set_option maxRecDepth 20000 in
theorem gX9_joined_X9_say : GoodIn wsX9_joined (wsV RX9 149 RX9 yX9_say wsX9_say) := goodIn_app (goodIn_of _ (by decide +kernel)) ggX9_joined_X9_say
set_option maxRecDepth 20000 in
theorem ggX9_joined_X9_farOf : GoodIn wsX9_joined wsX9_farOf := goodIn_r _ [29, 2, 3, 30, 31, 32, 6, 33, 34, 35, 36, 37, 38, 39, 40, 41, 42, 43, 44, 45, 46] (by decide +kernel) (by decide +kernel)
set_option maxRecDepth 20000 in
theorem gX9_joined_X9_farOf : GoodIn wsX9_joined (wsV RX9 146 RX9 yX9_farOf wsX9_farOf) := goodIn_app (goodIn_of _ (by decide +kernel)) ggX9_joined_X9_farOf
theorem dX9_joined_0 : decode cX9_joined 0 = .ok (.iload_n 1, 1) := by decide +kernel
theorem dX9_joined_1 : decode cX9_joined 1 = .ok (.invokestatic 159, 3) := by decide +kernel
theorem dX9_joined_4 : decode cX9_joined 4 = .ok (.ifCond .ne 5, 3) := by decide +kernel
theorem dX9_joined_7 : decode cX9_joined 7 = .ok (.iconst (-1), 1) := by decide +kernel
theorem dX9_joined_8 : decode cX9_joined 8 = .ok (.ireturn, 1) := by decide +kernel
theorem dX9_joined_9 : decode cX9_joined 9 = .ok (.bipush (-4), 2) := by decide +kernel
theorem dX9_joined_11 : decode cX9_joined 11 = .ok (.istore_n 2, 1) := by decide +kernel
theorem dX9_joined_12 : decode cX9_joined 12 = .ok (.iconst 0, 1) := by decide +kernel
theorem dX9_joined_13 : decode cX9_joined 13 = .ok (.istore_n 3, 1) := by decide +kernel
theorem dX9_joined_14 : decode cX9_joined 14 = .ok (.iconst 0, 1) := by decide +kernel
theorem dX9_joined_15 : decode cX9_joined 15 = .ok (.istore 4, 2) := by decide +kernel
theorem dX9_joined_17 : decode cX9_joined 17 = .ok (.iload 4, 2) := by decide +kernel
theorem dX9_joined_19 : decode cX9_joined 19 = .ok (.iconst 3, 1) := by decide +kernel
theorem dX9_joined_20 : decode cX9_joined 20 = .ok (.if_icmp .ge 123, 3) := by decide +kernel
theorem dX9_joined_23 : decode cX9_joined 23 = .ok (.iconst 0, 1) := by decide +kernel
theorem dX9_joined_24 : decode cX9_joined 24 = .ok (.istore 5, 2) := by decide +kernel
theorem dX9_joined_26 : decode cX9_joined 26 = .ok (.iconst 0, 1) := by decide +kernel
theorem dX9_joined_27 : decode cX9_joined 27 = .ok (.istore 6, 2) := by decide +kernel
theorem dX9_joined_29 : decode cX9_joined 29 = .ok (.iload 6, 2) := by decide +kernel
theorem dX9_joined_31 : decode cX9_joined 31 = .ok (.iconst 3, 1) := by decide +kernel
theorem dX9_joined_32 : decode cX9_joined 32 = .ok (.if_icmp .ge 75, 3) := by decide +kernel
theorem dX9_joined_35 : decode cX9_joined 35 = .ok (.aload_n 0, 1) := by decide +kernel
theorem dX9_joined_36 : decode cX9_joined 36 = .ok (.getfield 16, 3) := by decide +kernel
theorem dX9_joined_39 : decode cX9_joined 39 = .ok (.iload 4, 2) := by decide +kernel
theorem dX9_joined_41 : decode cX9_joined 41 = .ok (.iload_n 1, 1) := by decide +kernel
theorem dX9_joined_42 : decode cX9_joined 42 = .ok (.invokestatic 230, 3) := by decide +kernel
theorem dX9_joined_45 : decode cX9_joined 45 = .ok (.iaload, 1) := by decide +kernel
theorem dX9_joined_46 : decode cX9_joined 46 = .ok (.ifCond .le 61, 3) := by decide +kernel
theorem dX9_joined_49 : decode cX9_joined 49 = .ok (.aload_n 0, 1) := by decide +kernel
theorem dX9_joined_50 : decode cX9_joined 50 = .ok (.iload 4, 2) := by decide +kernel
theorem dX9_joined_52 : decode cX9_joined 52 = .ok (.iload_n 1, 1) := by decide +kernel
theorem dX9_joined_53 : decode cX9_joined 53 = .ok (.invokestatic 230, 3) := by decide +kernel
theorem dX9_joined_56 : decode cX9_joined 56 = .ok (.iconst (-1), 1) := by decide +kernel
theorem dX9_joined_57 : decode cX9_joined 57 = .ok (.aload_n 0, 1) := by decide +kernel
theorem dX9_joined_58 : decode cX9_joined 58 = .ok (.getfield 25, 3) := by decide +kernel
theorem dX9_joined_61 : decode cX9_joined 61 = .ok (.invokevirtual 149, 3) := by decide +kernel
theorem dX9_joined_64 : decode cX9_joined 64 = .ok (.aload_n 0, 1) := by decide +kernel
theorem dX9_joined_65 : decode cX9_joined 65 = .ok (.iload 6, 2) := by decide +kernel
theorem dX9_joined_67 : decode cX9_joined 67 = .ok (.iload_n 1, 1) := by decide +kernel
theorem dX9_joined_68 : decode cX9_joined 68 = .ok (.invokestatic 230, 3) := by decide +kernel
theorem dX9_joined_71 : decode cX9_joined 71 = .ok (.iconst (-1), 1) := by decide +kernel
theorem dX9_joined_72 : decode cX9_joined 72 = .ok (.aload_n 0, 1) := by decide +kernel
theorem dX9_joined_73 : decode cX9_joined 73 = .ok (.getfield 28, 3) := by decide +kernel
theorem dX9_joined_76 : decode cX9_joined 76 = .ok (.invokevirtual 149, 3) := by decide +kernel
theorem dX9_joined_79 : decode cX9_joined 79 = .ok (.iload 5, 2) := by decide +kernel
theorem dX9_joined_81 : decode cX9_joined 81 = .ok (.aload_n 0, 1) := by decide +kernel
theorem dX9_joined_82 : decode cX9_joined 82 = .ok (.getfield 28, 3) := by decide +kernel
theorem dX9_joined_85 : decode cX9_joined 85 = .ok (.iconst 0, 1) := by decide +kernel
theorem dX9_joined_86 : decode cX9_joined 86 = .ok (.iaload, 1) := by decide +kernel
theorem dX9_joined_87 : decode cX9_joined 87 = .ok (.ifCond .ne 7, 3) := by decide +kernel
theorem dX9_joined_90 : decode cX9_joined 90 = .ok (.iconst 0, 1) := by decide +kernel
theorem dX9_joined_91 : decode cX9_joined 91 = .ok (.goto 7, 3) := by decide +kernel
theorem dX9_joined_94 : decode cX9_joined 94 = .ok (.aload_n 0, 1) := by decide +kernel
theorem dX9_joined_95 : decode cX9_joined 95 = .ok (.invokevirtual 146, 3) := by decide +kernel
theorem dX9_joined_98 : decode cX9_joined 98 = .ok (.iadd, 1) := by decide +kernel
theorem dX9_joined_99 : decode cX9_joined 99 = .ok (.istore 5, 2) := by decide +kernel
theorem dX9_joined_101 : decode cX9_joined 101 = .ok (.iinc 6 1, 3) := by decide +kernel
theorem dX9_joined_104 : decode cX9_joined 104 = .ok (.goto (-75), 3) := by decide +kernel
theorem dX9_joined_107 : decode cX9_joined 107 = .ok (.aload_n 0, 1) := by decide +kernel
theorem dX9_joined_108 : decode cX9_joined 108 = .ok (.getfield 16, 3) := by decide +kernel
theorem dX9_joined_111 : decode cX9_joined 111 = .ok (.iload 4, 2) := by decide +kernel
theorem dX9_joined_113 : decode cX9_joined 113 = .ok (.iload_n 1, 1) := by decide +kernel
theorem dX9_joined_114 : decode cX9_joined 114 = .ok (.invokestatic 230, 3) := by decide +kernel
theorem dX9_joined_117 : decode cX9_joined 117 = .ok (.iaload, 1) := by decide +kernel
theorem dX9_joined_118 : decode cX9_joined 118 = .ok (.ifCond .le 19, 3) := by decide +kernel
theorem dX9_joined_121 : decode cX9_joined 121 = .ok (.iload_n 2, 1) := by decide +kernel
theorem dX9_joined_122 : decode cX9_joined 122 = .ok (.ifCond .lt 9, 3) := by decide +kernel
theorem dX9_joined_125 : decode cX9_joined 125 = .ok (.iload 5, 2) := by decide +kernel
theorem dX9_joined_127 : decode cX9_joined 127 = .ok (.iload_n 3, 1) := by decide +kernel
theorem dX9_joined_128 : decode cX9_joined 128 = .ok (.if_icmp .ge 9, 3) := by decide +kernel
theorem dX9_joined_131 : decode cX9_joined 131 = .ok (.iload 4, 2) := by decide +kernel
theorem dX9_joined_133 : decode cX9_joined 133 = .ok (.istore_n 2, 1) := by decide +kernel
theorem dX9_joined_134 : decode cX9_joined 134 = .ok (.iload 5, 2) := by decide +kernel
theorem dX9_joined_136 : decode cX9_joined 136 = .ok (.istore_n 3, 1) := by decide +kernel
theorem dX9_joined_137 : decode cX9_joined 137 = .ok (.iinc 4 1, 3) := by decide +kernel
theorem dX9_joined_140 : decode cX9_joined 140 = .ok (.goto (-123), 3) := by decide +kernel
theorem dX9_joined_143 : decode cX9_joined 143 = .ok (.iload_n 2, 1) := by decide +kernel
theorem dX9_joined_144 : decode cX9_joined 144 = .ok (.ireturn, 1) := by decide +kernel
theorem dX9_hear_0 : decode cX9_hear 0 = .ok (.lconst 1, 1) := by decide +kernel
theorem dX9_hear_1 : decode cX9_hear 1 = .ok (.lstore_n 2, 1) := by decide +kernel
theorem dX9_hear_2 : decode cX9_hear 2 = .ok (.lconst 1, 1) := by decide +kernel
theorem dX9_hear_3 : decode cX9_hear 3 = .ok (.lstore 4, 2) := by decide +kernel
theorem dX9_hear_5 : decode cX9_hear 5 = .ok (.iconst 0, 1) := by decide +kernel
theorem dX9_hear_6 : decode cX9_hear 6 = .ok (.istore 6, 2) := by decide +kernel
theorem dX9_hear_8 : decode cX9_hear 8 = .ok (.iload 6, 2) := by decide +kernel
theorem dX9_hear_10 : decode cX9_hear 10 = .ok (.iload_n 1, 1) := by decide +kernel
theorem dX9_hear_11 : decode cX9_hear 11 = .ok (.if_icmp .ge 25, 3) := by decide +kernel
theorem dX9_hear_14 : decode cX9_hear 14 = .ok (.lload_n 2, 1) := by decide +kernel
theorem dX9_hear_15 : decode cX9_hear 15 = .ok (.iload_n 0, 1) := by decide +kernel
theorem dX9_hear_16 : decode cX9_hear 16 = .ok (.i2l, 1) := by decide +kernel
theorem dX9_hear_17 : decode cX9_hear 17 = .ok (.lmul, 1) := by decide +kernel
theorem dX9_hear_18 : decode cX9_hear 18 = .ok (.lstore_n 2, 1) := by decide +kernel
theorem dX9_hear_19 : decode cX9_hear 19 = .ok (.lload 4, 2) := by decide +kernel
theorem dX9_hear_21 : decode cX9_hear 21 = .ok (.sipush 1000, 3) := by decide +kernel
theorem dX9_hear_24 : decode cX9_hear 24 = .ok (.iload_n 0, 1) := by decide +kernel
theorem dX9_hear_25 : decode cX9_hear 25 = .ok (.isub, 1) := by decide +kernel
theorem dX9_hear_26 : decode cX9_hear 26 = .ok (.i2l, 1) := by decide +kernel
theorem dX9_hear_27 : decode cX9_hear 27 = .ok (.lmul, 1) := by decide +kernel
theorem dX9_hear_28 : decode cX9_hear 28 = .ok (.lstore 4, 2) := by decide +kernel
theorem dX9_hear_30 : decode cX9_hear 30 = .ok (.iinc 6 1, 3) := by decide +kernel
theorem dX9_hear_33 : decode cX9_hear 33 = .ok (.goto (-25), 3) := by decide +kernel
theorem dX9_hear_36 : decode cX9_hear 36 = .ok (.lload_n 2, 1) := by decide +kernel
theorem dX9_hear_37 : decode cX9_hear 37 = .ok (.ldc2_w 201, 3) := by decide +kernel
theorem dX9_hear_40 : decode cX9_hear 40 = .ok (.lmul, 1) := by decide +kernel
theorem dX9_hear_41 : decode cX9_hear 41 = .ok (.lload_n 2, 1) := by decide +kernel
theorem dX9_hear_42 : decode cX9_hear 42 = .ok (.lload 4, 2) := by decide +kernel
theorem dX9_hear_44 : decode cX9_hear 44 = .ok (.ladd, 1) := by decide +kernel
theorem dX9_hear_45 : decode cX9_hear 45 = .ok (.ldiv, 1) := by decide +kernel
theorem dX9_hear_46 : decode cX9_hear 46 = .ok (.l2i, 1) := by decide +kernel
theorem dX9_hear_47 : decode cX9_hear 47 = .ok (.ireturn, 1) := by decide +kernel
set_option maxRecDepth 20000 in
theorem ggX9_children_X9_in : GoodIn wsX9_children wsX9_in := goodIn_r _ [7] (by decide +kernel) (by decide +kernel)
set_option maxRecDepth 20000 in
theorem gX9_children_X9_in : GoodIn wsX9_children (va_wsS RX9 49 yX9_in wsX9_in) := goodIn_app (goodIn_of _ (by decide +kernel)) ggX9_children_X9_in
set_option maxRecDepth 20000 in
theorem ggX9_children_X9_hear : GoodIn wsX9_children wsX9_hear := goodIn_r _ [10, 1] (by decide +kernel) (by decide +kernel)
set_option maxRecDepth 20000 in
theorem gX9_children_X9_hear : GoodIn wsX9_children (va_wsS RX9 237 yX9_hear wsX9_hear) := goodIn_app (goodIn_of _ (by decide +kernel)) ggX9_children_X9_hear
theorem dX9_children_0 : decode cX9_children 0 = .ok (.iload_n 1, 1) := by decide +kernel
theorem dX9_children_1 : decode cX9_children 1 = .ok (.i2l, 1) := by decide +kernel
theorem dX9_children_2 : decode cX9_children 2 = .ok (.lconst 0, 1) := by decide +kernel
theorem dX9_children_3 : decode cX9_children 3 = .ok (.ldc2_w 201, 3) := by decide +kernel
theorem dX9_children_6 : decode cX9_children 6 = .ok (.invokestatic 49, 3) := by decide +kernel
theorem dX9_children_9 : decode cX9_children 9 = .ok (.ifCond .eq 27, 3) := by decide +kernel
theorem dX9_children_12 : decode cX9_children 12 = .ok (.iload_n 2, 1) := by decide +kernel
theorem dX9_children_13 : decode cX9_children 13 = .ok (.i2l, 1) := by decide +kernel
theorem dX9_children_14 : decode cX9_children 14 = .ok (.lconst 1, 1) := by decide +kernel
theorem dX9_children_15 : decode cX9_children 15 = .ok (.ldc2_w 233, 3) := by decide +kernel
theorem dX9_children_18 : decode cX9_children 18 = .ok (.invokestatic 49, 3) := by decide +kernel
theorem dX9_children_21 : decode cX9_children 21 = .ok (.ifCond .eq 15, 3) := by decide +kernel
theorem dX9_children_24 : decode cX9_children 24 = .ok (.iload_n 3, 1) := by decide +kernel
theorem dX9_children_25 : decode cX9_children 25 = .ok (.i2l, 1) := by decide +kernel
theorem dX9_children_26 : decode cX9_children 26 = .ok (.lconst 0, 1) := by decide +kernel
theorem dX9_children_27 : decode cX9_children 27 = .ok (.ldc2_w 235, 3) := by decide +kernel
theorem dX9_children_30 : decode cX9_children 30 = .ok (.invokestatic 49, 3) := by decide +kernel
theorem dX9_children_33 : decode cX9_children 33 = .ok (.ifCond .ne 5, 3) := by decide +kernel
theorem dX9_children_36 : decode cX9_children 36 = .ok (.iconst (-1), 1) := by decide +kernel
theorem dX9_children_37 : decode cX9_children 37 = .ok (.ireturn, 1) := by decide +kernel
theorem dX9_children_38 : decode cX9_children 38 = .ok (.iload_n 1, 1) := by decide +kernel
theorem dX9_children_39 : decode cX9_children 39 = .ok (.istore 4, 2) := by decide +kernel
theorem dX9_children_41 : decode cX9_children 41 = .ok (.iconst 0, 1) := by decide +kernel
theorem dX9_children_42 : decode cX9_children 42 = .ok (.istore 5, 2) := by decide +kernel
theorem dX9_children_44 : decode cX9_children 44 = .ok (.iload 5, 2) := by decide +kernel
theorem dX9_children_46 : decode cX9_children 46 = .ok (.iload_n 3, 1) := by decide +kernel
theorem dX9_children_47 : decode cX9_children 47 = .ok (.if_icmp .ge 17, 3) := by decide +kernel
theorem dX9_children_50 : decode cX9_children 50 = .ok (.iload 4, 2) := by decide +kernel
theorem dX9_children_52 : decode cX9_children 52 = .ok (.iload_n 2, 1) := by decide +kernel
theorem dX9_children_53 : decode cX9_children 53 = .ok (.invokestatic 237, 3) := by decide +kernel
theorem dX9_children_56 : decode cX9_children 56 = .ok (.istore 4, 2) := by decide +kernel
theorem dX9_children_58 : decode cX9_children 58 = .ok (.iinc 5 1, 3) := by decide +kernel
theorem dX9_children_61 : decode cX9_children 61 = .ok (.goto (-17), 3) := by decide +kernel
theorem dX9_children_64 : decode cX9_children 64 = .ok (.iload 4, 2) := by decide +kernel
theorem dX9_children_66 : decode cX9_children 66 = .ok (.ireturn, 1) := by decide +kernel
set_option maxRecDepth 20000 in
theorem ggX9_even_X9_in : GoodIn wsX9_even wsX9_in := goodIn_r _ [6] (by decide +kernel) (by decide +kernel)
set_option maxRecDepth 20000 in
theorem gX9_even_X9_in : GoodIn wsX9_even (va_wsS RX9 49 yX9_in wsX9_in) := goodIn_app (goodIn_of _ (by decide +kernel)) ggX9_even_X9_in
set_option maxRecDepth 20000 in
theorem ggX9_even_X9_hear : GoodIn wsX9_even wsX9_hear := goodIn_r _ [9, 1] (by decide +kernel) (by decide +kernel)
set_option maxRecDepth 20000 in
theorem gX9_even_X9_hear : GoodIn wsX9_even (va_wsS RX9 237 yX9_hear wsX9_hear) := goodIn_app (goodIn_of _ (by decide +kernel)) ggX9_even_X9_hear
theorem dX9_even_0 : decode cX9_even 0 = .ok (.iload_n 1, 1) := by decide +kernel
theorem dX9_even_1 : decode cX9_even 1 = .ok (.i2l, 1) := by decide +kernel
theorem dX9_even_2 : decode cX9_even 2 = .ok (.lconst 0, 1) := by decide +kernel
theorem dX9_even_3 : decode cX9_even 3 = .ok (.ldc2_w 201, 3) := by decide +kernel
theorem dX9_even_6 : decode cX9_even 6 = .ok (.invokestatic 49, 3) := by decide +kernel
theorem dX9_even_9 : decode cX9_even 9 = .ok (.ifCond .eq 15, 3) := by decide +kernel
theorem dX9_even_12 : decode cX9_even 12 = .ok (.iload_n 2, 1) := by decide +kernel
theorem dX9_even_13 : decode cX9_even 13 = .ok (.i2l, 1) := by decide +kernel
theorem dX9_even_14 : decode cX9_even 14 = .ok (.lconst 1, 1) := by decide +kernel
theorem dX9_even_15 : decode cX9_even 15 = .ok (.ldc2_w 233, 3) := by decide +kernel
theorem dX9_even_18 : decode cX9_even 18 = .ok (.invokestatic 49, 3) := by decide +kernel
theorem dX9_even_21 : decode cX9_even 21 = .ok (.ifCond .ne 5, 3) := by decide +kernel
theorem dX9_even_24 : decode cX9_even 24 = .ok (.iconst (-1), 1) := by decide +kernel
theorem dX9_even_25 : decode cX9_even 25 = .ok (.ireturn, 1) := by decide +kernel
theorem dX9_even_26 : decode cX9_even 26 = .ok (.iload_n 1, 1) := by decide +kernel
theorem dX9_even_27 : decode cX9_even 27 = .ok (.istore_n 3, 1) := by decide +kernel
theorem dX9_even_28 : decode cX9_even 28 = .ok (.iconst 0, 1) := by decide +kernel
theorem dX9_even_29 : decode cX9_even 29 = .ok (.istore 4, 2) := by decide +kernel
theorem dX9_even_31 : decode cX9_even 31 = .ok (.iload 4, 2) := by decide +kernel
theorem dX9_even_33 : decode cX9_even 33 = .ok (.bipush 20, 2) := by decide +kernel
theorem dX9_even_35 : decode cX9_even 35 = .ok (.if_icmp .gt 31, 3) := by decide +kernel
theorem dX9_even_38 : decode cX9_even 38 = .ok (.iload_n 3, 1) := by decide +kernel
theorem dX9_even_39 : decode cX9_even 39 = .ok (.sipush 950, 3) := by decide +kernel
theorem dX9_even_42 : decode cX9_even 42 = .ok (.if_icmp .ge 9, 3) := by decide +kernel
theorem dX9_even_45 : decode cX9_even 45 = .ok (.iload_n 3, 1) := by decide +kernel
theorem dX9_even_46 : decode cX9_even 46 = .ok (.bipush 50, 2) := by decide +kernel
theorem dX9_even_48 : decode cX9_even 48 = .ok (.if_icmp .gt 6, 3) := by decide +kernel
theorem dX9_even_51 : decode cX9_even 51 = .ok (.iload 4, 2) := by decide +kernel
theorem dX9_even_53 : decode cX9_even 53 = .ok (.ireturn, 1) := by decide +kernel
theorem dX9_even_54 : decode cX9_even 54 = .ok (.iload_n 3, 1) := by decide +kernel
theorem dX9_even_55 : decode cX9_even 55 = .ok (.iload_n 2, 1) := by decide +kernel
theorem dX9_even_56 : decode cX9_even 56 = .ok (.invokestatic 237, 3) := by decide +kernel
theorem dX9_even_59 : decode cX9_even 59 = .ok (.istore_n 3, 1) := by decide +kernel
theorem dX9_even_60 : decode cX9_even 60 = .ok (.iinc 4 1, 3) := by decide +kernel
theorem dX9_even_63 : decode cX9_even 63 = .ok (.goto (-32), 3) := by decide +kernel
theorem dX9_even_66 : decode cX9_even 66 = .ok (.bipush (-4), 2) := by decide +kernel
theorem dX9_even_68 : decode cX9_even 68 = .ok (.ireturn, 1) := by decide +kernel
set_option maxRecDepth 20000 in
theorem ggX9_canSay_X9_has : GoodIn wsX9_canSay wsX9_has := goodIn_r _ [5] (by decide +kernel) (by decide +kernel)
set_option maxRecDepth 20000 in
theorem gX9_canSay_X9_has : GoodIn wsX9_canSay (va_wsS RX9 137 yX9_has wsX9_has) := goodIn_app (goodIn_of _ (by decide +kernel)) ggX9_canSay_X9_has
theorem dX9_canSay_0 : decode cX9_canSay 0 = .ok (.iload_n 1, 1) := by decide +kernel
theorem dX9_canSay_1 : decode cX9_canSay 1 = .ok (.iload_n 2, 1) := by decide +kernel
theorem dX9_canSay_2 : decode cX9_canSay 2 = .ok (.invokestatic 137, 3) := by decide +kernel
theorem dX9_canSay_5 : decode cX9_canSay 5 = .ok (.istore_n 3, 1) := by decide +kernel
theorem dX9_canSay_6 : decode cX9_canSay 6 = .ok (.iconst 0, 1) := by decide +kernel
theorem dX9_canSay_7 : decode cX9_canSay 7 = .ok (.istore 4, 2) := by decide +kernel
theorem dX9_canSay_9 : decode cX9_canSay 9 = .ok (.iload 4, 2) := by decide +kernel
theorem dX9_canSay_11 : decode cX9_canSay 11 = .ok (.aload_n 0, 1) := by decide +kernel
theorem dX9_canSay_12 : decode cX9_canSay 12 = .ok (.getfield 16, 3) := by decide +kernel
theorem dX9_canSay_15 : decode cX9_canSay 15 = .ok (.sipush 304, 3) := by decide +kernel
theorem dX9_canSay_18 : decode cX9_canSay 18 = .ok (.iaload, 1) := by decide +kernel
theorem dX9_canSay_19 : decode cX9_canSay 19 = .ok (.if_icmp .ge 72, 3) := by decide +kernel
theorem dX9_canSay_22 : decode cX9_canSay 22 = .ok (.sipush 305, 3) := by decide +kernel
theorem dX9_canSay_25 : decode cX9_canSay 25 = .ok (.iconst 3, 1) := by decide +kernel
theorem dX9_canSay_26 : decode cX9_canSay 26 = .ok (.iload 4, 2) := by decide +kernel
theorem dX9_canSay_28 : decode cX9_canSay 28 = .ok (.imul, 1) := by decide +kernel
theorem dX9_canSay_29 : decode cX9_canSay 29 = .ok (.iadd, 1) := by decide +kernel
theorem dX9_canSay_30 : decode cX9_canSay 30 = .ok (.istore 5, 2) := by decide +kernel
theorem dX9_canSay_32 : decode cX9_canSay 32 = .ok (.iload_n 3, 1) := by decide +kernel
theorem dX9_canSay_33 : decode cX9_canSay 33 = .ok (.ifCond .ne 46, 3) := by decide +kernel
theorem dX9_canSay_36 : decode cX9_canSay 36 = .ok (.aload_n 0, 1) := by decide +kernel
theorem dX9_canSay_37 : decode cX9_canSay 37 = .ok (.getfield 16, 3) := by decide +kernel
theorem dX9_canSay_40 : decode cX9_canSay 40 = .ok (.iload 5, 2) := by decide +kernel
theorem dX9_canSay_42 : decode cX9_canSay 42 = .ok (.iaload, 1) := by decide +kernel
theorem dX9_canSay_43 : decode cX9_canSay 43 = .ok (.iload_n 2, 1) := by decide +kernel
theorem dX9_canSay_44 : decode cX9_canSay 44 = .ok (.if_icmp .ne 39, 3) := by decide +kernel
theorem dX9_canSay_47 : decode cX9_canSay 47 = .ok (.iload_n 1, 1) := by decide +kernel
theorem dX9_canSay_48 : decode cX9_canSay 48 = .ok (.aload_n 0, 1) := by decide +kernel
theorem dX9_canSay_49 : decode cX9_canSay 49 = .ok (.getfield 16, 3) := by decide +kernel
theorem dX9_canSay_52 : decode cX9_canSay 52 = .ok (.iload 5, 2) := by decide +kernel
theorem dX9_canSay_54 : decode cX9_canSay 54 = .ok (.iconst 1, 1) := by decide +kernel
theorem dX9_canSay_55 : decode cX9_canSay 55 = .ok (.iadd, 1) := by decide +kernel
theorem dX9_canSay_56 : decode cX9_canSay 56 = .ok (.iaload, 1) := by decide +kernel
theorem dX9_canSay_57 : decode cX9_canSay 57 = .ok (.invokestatic 137, 3) := by decide +kernel
theorem dX9_canSay_60 : decode cX9_canSay 60 = .ok (.ifCond .eq 23, 3) := by decide +kernel
theorem dX9_canSay_63 : decode cX9_canSay 63 = .ok (.iload_n 1, 1) := by decide +kernel
theorem dX9_canSay_64 : decode cX9_canSay 64 = .ok (.aload_n 0, 1) := by decide +kernel
theorem dX9_canSay_65 : decode cX9_canSay 65 = .ok (.getfield 16, 3) := by decide +kernel
theorem dX9_canSay_68 : decode cX9_canSay 68 = .ok (.iload 5, 2) := by decide +kernel
theorem dX9_canSay_70 : decode cX9_canSay 70 = .ok (.iconst 2, 1) := by decide +kernel
theorem dX9_canSay_71 : decode cX9_canSay 71 = .ok (.iadd, 1) := by decide +kernel
theorem dX9_canSay_72 : decode cX9_canSay 72 = .ok (.iaload, 1) := by decide +kernel
theorem dX9_canSay_73 : decode cX9_canSay 73 = .ok (.invokestatic 137, 3) := by decide +kernel
theorem dX9_canSay_76 : decode cX9_canSay 76 = .ok (.ifCond .eq 7, 3) := by decide +kernel
theorem dX9_canSay_79 : decode cX9_canSay 79 = .ok (.iconst 1, 1) := by decide +kernel
theorem dX9_canSay_80 : decode cX9_canSay 80 = .ok (.goto 4, 3) := by decide +kernel
theorem dX9_canSay_83 : decode cX9_canSay 83 = .ok (.iconst 0, 1) := by decide +kernel
theorem dX9_canSay_84 : decode cX9_canSay 84 = .ok (.istore_n 3, 1) := by decide +kernel
theorem dX9_canSay_85 : decode cX9_canSay 85 = .ok (.iinc 4 1, 3) := by decide +kernel
theorem dX9_canSay_88 : decode cX9_canSay 88 = .ok (.goto (-79), 3) := by decide +kernel
theorem dX9_canSay_91 : decode cX9_canSay 91 = .ok (.iload_n 3, 1) := by decide +kernel
theorem dX9_canSay_92 : decode cX9_canSay 92 = .ok (.ireturn, 1) := by decide +kernel
set_option maxRecDepth 20000 in
theorem ggX9_isEnoughFor_X9_has : GoodIn wsX9_isEnoughFor wsX9_has := goodIn_r _ [5] (by decide +kernel) (by decide +kernel)
set_option maxRecDepth 20000 in
theorem gX9_isEnoughFor_X9_has : GoodIn wsX9_isEnoughFor (va_wsS RX9 137 yX9_has wsX9_has) := goodIn_app (goodIn_of _ (by decide +kernel)) ggX9_isEnoughFor_X9_has
set_option maxRecDepth 20000 in
theorem ggX9_isEnoughFor_X9_canSay : GoodIn wsX9_isEnoughFor wsX9_canSay := goodIn_r _ [9, 1, 2, 3, 4, 5, 10, 11, 12, 13, 14, 15, 16, 17, 18, 19, 20, 21, 22] (by decide +kernel) (by decide +kernel)
set_option maxRecDepth 20000 in
theorem gX9_isEnoughFor_X9_canSay : GoodIn wsX9_isEnoughFor (wsV RX9 240 RX9 yX9_canSay wsX9_canSay) := goodIn_app (goodIn_of _ (by decide +kernel)) ggX9_isEnoughFor_X9_canSay
theorem dX9_isEnoughFor_0 : decode cX9_isEnoughFor 0 = .ok (.iconst 1, 1) := by decide +kernel
theorem dX9_isEnoughFor_1 : decode cX9_isEnoughFor 1 = .ok (.istore_n 2, 1) := by decide +kernel
theorem dX9_isEnoughFor_2 : decode cX9_isEnoughFor 2 = .ok (.iconst 0, 1) := by decide +kernel
theorem dX9_isEnoughFor_3 : decode cX9_isEnoughFor 3 = .ok (.istore_n 3, 1) := by decide +kernel
theorem dX9_isEnoughFor_4 : decode cX9_isEnoughFor 4 = .ok (.iload_n 3, 1) := by decide +kernel
theorem dX9_isEnoughFor_5 : decode cX9_isEnoughFor 5 = .ok (.aload_n 0, 1) := by decide +kernel
theorem dX9_isEnoughFor_6 : decode cX9_isEnoughFor 6 = .ok (.getfield 16, 3) := by decide +kernel
theorem dX9_isEnoughFor_9 : decode cX9_isEnoughFor 9 = .ok (.sipush 329, 3) := by decide +kernel
theorem dX9_isEnoughFor_12 : decode cX9_isEnoughFor 12 = .ok (.iaload, 1) := by decide +kernel
theorem dX9_isEnoughFor_13 : decode cX9_isEnoughFor 13 = .ok (.if_icmp .ge 63, 3) := by decide +kernel
theorem dX9_isEnoughFor_16 : decode cX9_isEnoughFor 16 = .ok (.iconst 0, 1) := by decide +kernel
theorem dX9_isEnoughFor_17 : decode cX9_isEnoughFor 17 = .ok (.istore 4, 2) := by decide +kernel
theorem dX9_isEnoughFor_19 : decode cX9_isEnoughFor 19 = .ok (.iload 4, 2) := by decide +kernel
theorem dX9_isEnoughFor_21 : decode cX9_isEnoughFor 21 = .ok (.bipush 8, 2) := by decide +kernel
theorem dX9_isEnoughFor_23 : decode cX9_isEnoughFor 23 = .ok (.if_icmp .ge 47, 3) := by decide +kernel
theorem dX9_isEnoughFor_26 : decode cX9_isEnoughFor 26 = .ok (.iload_n 2, 1) := by decide +kernel
theorem dX9_isEnoughFor_27 : decode cX9_isEnoughFor 27 = .ok (.ifCond .eq 35, 3) := by decide +kernel
theorem dX9_isEnoughFor_30 : decode cX9_isEnoughFor 30 = .ok (.aload_n 0, 1) := by decide +kernel
theorem dX9_isEnoughFor_31 : decode cX9_isEnoughFor 31 = .ok (.getfield 16, 3) := by decide +kernel
theorem dX9_isEnoughFor_34 : decode cX9_isEnoughFor 34 = .ok (.sipush 330, 3) := by decide +kernel
theorem dX9_isEnoughFor_37 : decode cX9_isEnoughFor 37 = .ok (.iload_n 3, 1) := by decide +kernel
theorem dX9_isEnoughFor_38 : decode cX9_isEnoughFor 38 = .ok (.iadd, 1) := by decide +kernel
theorem dX9_isEnoughFor_39 : decode cX9_isEnoughFor 39 = .ok (.iaload, 1) := by decide +kernel
theorem dX9_isEnoughFor_40 : decode cX9_isEnoughFor 40 = .ok (.iload 4, 2) := by decide +kernel
theorem dX9_isEnoughFor_42 : decode cX9_isEnoughFor 42 = .ok (.invokestatic 137, 3) := by decide +kernel
theorem dX9_isEnoughFor_45 : decode cX9_isEnoughFor 45 = .ok (.ifCond .eq 13, 3) := by decide +kernel
theorem dX9_isEnoughFor_48 : decode cX9_isEnoughFor 48 = .ok (.aload_n 0, 1) := by decide +kernel
theorem dX9_isEnoughFor_49 : decode cX9_isEnoughFor 49 = .ok (.iload_n 1, 1) := by decide +kernel
theorem dX9_isEnoughFor_50 : decode cX9_isEnoughFor 50 = .ok (.iload 4, 2) := by decide +kernel
theorem dX9_isEnoughFor_52 : decode cX9_isEnoughFor 52 = .ok (.invokevirtual 240, 3) := by decide +kernel
theorem dX9_isEnoughFor_55 : decode cX9_isEnoughFor 55 = .ok (.ifCond .eq 7, 3) := by decide +kernel
theorem dX9_isEnoughFor_58 : decode cX9_isEnoughFor 58 = .ok (.iconst 1, 1) := by decide +kernel
theorem dX9_isEnoughFor_59 : decode cX9_isEnoughFor 59 = .ok (.goto 4, 3) := by decide +kernel
theorem dX9_isEnoughFor_62 : decode cX9_isEnoughFor 62 = .ok (.iconst 0, 1) := by decide +kernel
theorem dX9_isEnoughFor_63 : decode cX9_isEnoughFor 63 = .ok (.istore_n 2, 1) := by decide +kernel
theorem dX9_isEnoughFor_64 : decode cX9_isEnoughFor 64 = .ok (.iinc 4 1, 3) := by decide +kernel
theorem dX9_isEnoughFor_67 : decode cX9_isEnoughFor 67 = .ok (.goto (-48), 3) := by decide +kernel
theorem dX9_isEnoughFor_70 : decode cX9_isEnoughFor 70 = .ok (.iinc 3 1, 3) := by decide +kernel
theorem dX9_isEnoughFor_73 : decode cX9_isEnoughFor 73 = .ok (.goto (-69), 3) := by decide +kernel
theorem dX9_isEnoughFor_76 : decode cX9_isEnoughFor 76 = .ok (.iload_n 2, 1) := by decide +kernel
theorem dX9_isEnoughFor_77 : decode cX9_isEnoughFor 77 = .ok (.ireturn, 1) := by decide +kernel
set_option maxRecDepth 20000 in
theorem ggX9_fewest_X9_in : GoodIn wsX9_fewest wsX9_in := goodIn_r _ [4] (by decide +kernel) (by decide +kernel)
set_option maxRecDepth 20000 in
theorem gX9_fewest_X9_in : GoodIn wsX9_fewest (va_wsS RX9 49 yX9_in wsX9_in) := goodIn_app (goodIn_of _ (by decide +kernel)) ggX9_fewest_X9_in
set_option maxRecDepth 20000 in
theorem ggX9_fewest_X9_ones : GoodIn wsX9_fewest wsX9_ones := goodIn_r _ [7] (by decide +kernel) (by decide +kernel)
set_option maxRecDepth 20000 in
theorem gX9_fewest_X9_ones : GoodIn wsX9_fewest (va_wsS RX9 125 yX9_ones wsX9_ones) := goodIn_app (goodIn_of _ (by decide +kernel)) ggX9_fewest_X9_ones
set_option maxRecDepth 20000 in
theorem ggX9_fewest_X9_isEnoughFor : GoodIn wsX9_fewest wsX9_isEnoughFor := goodIn_r _ [11, 12, 13, 14, 3, 15, 16, 17, 18, 19, 20, 21, 22, 23, 24, 25, 26, 27, 28, 29, 30, 31, 32] (by decide +kernel) (by decide +kernel)
set_option maxRecDepth 20000 in
theorem gX9_fewest_X9_isEnoughFor : GoodIn wsX9_fewest (wsV RX9 243 RX9 yX9_isEnoughFor wsX9_isEnoughFor) := goodIn_app (goodIn_of _ (by decide +kernel)) ggX9_fewest_X9_isEnoughFor
theorem dX9_fewest_0 : decode cX9_fewest 0 = .ok (.iload_n 1, 1) := by decide +kernel
theorem dX9_fewest_1 : decode cX9_fewest 1 = .ok (.i2l, 1) := by decide +kernel
theorem dX9_fewest_2 : decode cX9_fewest 2 = .ok (.lconst 0, 1) := by decide +kernel
theorem dX9_fewest_3 : decode cX9_fewest 3 = .ok (.lconst 1, 1) := by decide +kernel
theorem dX9_fewest_4 : decode cX9_fewest 4 = .ok (.invokestatic 49, 3) := by decide +kernel
theorem dX9_fewest_7 : decode cX9_fewest 7 = .ok (.ifCond .ne 5, 3) := by decide +kernel
theorem dX9_fewest_10 : decode cX9_fewest 10 = .ok (.iconst (-1), 1) := by decide +kernel
theorem dX9_fewest_11 : decode cX9_fewest 11 = .ok (.ireturn, 1) := by decide +kernel
theorem dX9_fewest_12 : decode cX9_fewest 12 = .ok (.sipush 255, 3) := by decide +kernel
theorem dX9_fewest_15 : decode cX9_fewest 15 = .ok (.istore_n 2, 1) := by decide +kernel
theorem dX9_fewest_16 : decode cX9_fewest 16 = .ok (.sipush 255, 3) := by decide +kernel
theorem dX9_fewest_19 : decode cX9_fewest 19 = .ok (.istore_n 3, 1) := by decide +kernel
theorem dX9_fewest_20 : decode cX9_fewest 20 = .ok (.iload_n 3, 1) := by decide +kernel
theorem dX9_fewest_21 : decode cX9_fewest 21 = .ok (.ifCond .lt 34, 3) := by decide +kernel
theorem dX9_fewest_24 : decode cX9_fewest 24 = .ok (.iload_n 3, 1) := by decide +kernel
theorem dX9_fewest_25 : decode cX9_fewest 25 = .ok (.invokestatic 125, 3) := by decide +kernel
theorem dX9_fewest_28 : decode cX9_fewest 28 = .ok (.iload_n 2, 1) := by decide +kernel
theorem dX9_fewest_29 : decode cX9_fewest 29 = .ok (.invokestatic 125, 3) := by decide +kernel
theorem dX9_fewest_32 : decode cX9_fewest 32 = .ok (.if_icmp .gt 15, 3) := by decide +kernel
theorem dX9_fewest_35 : decode cX9_fewest 35 = .ok (.aload_n 0, 1) := by decide +kernel
theorem dX9_fewest_36 : decode cX9_fewest 36 = .ok (.iload_n 3, 1) := by decide +kernel
theorem dX9_fewest_37 : decode cX9_fewest 37 = .ok (.invokevirtual 243, 3) := by decide +kernel
theorem dX9_fewest_40 : decode cX9_fewest 40 = .ok (.ifCond .eq 7, 3) := by decide +kernel
theorem dX9_fewest_43 : decode cX9_fewest 43 = .ok (.iload_n 3, 1) := by decide +kernel
theorem dX9_fewest_44 : decode cX9_fewest 44 = .ok (.goto 4, 3) := by decide +kernel
theorem dX9_fewest_47 : decode cX9_fewest 47 = .ok (.iload_n 2, 1) := by decide +kernel
theorem dX9_fewest_48 : decode cX9_fewest 48 = .ok (.istore_n 2, 1) := by decide +kernel
theorem dX9_fewest_49 : decode cX9_fewest 49 = .ok (.iinc 3 (-1), 3) := by decide +kernel
theorem dX9_fewest_52 : decode cX9_fewest 52 = .ok (.goto (-32), 3) := by decide +kernel
theorem dX9_fewest_55 : decode cX9_fewest 55 = .ok (.iload_n 1, 1) := by decide +kernel
theorem dX9_fewest_56 : decode cX9_fewest 56 = .ok (.ifCond .ne 7, 3) := by decide +kernel
theorem dX9_fewest_59 : decode cX9_fewest 59 = .ok (.iload_n 2, 1) := by decide +kernel
theorem dX9_fewest_60 : decode cX9_fewest 60 = .ok (.goto 7, 3) := by decide +kernel
theorem dX9_fewest_63 : decode cX9_fewest 63 = .ok (.iload_n 2, 1) := by decide +kernel
theorem dX9_fewest_64 : decode cX9_fewest 64 = .ok (.invokestatic 125, 3) := by decide +kernel
theorem dX9_fewest_67 : decode cX9_fewest 67 = .ok (.ireturn, 1) := by decide +kernel
theorem dX9_both_0 : decode cX9_both 0 = .ok (.aload_n 0, 1) := by decide +kernel
theorem dX9_both_1 : decode cX9_both 1 = .ok (.getfield 16, 3) := by decide +kernel
theorem dX9_both_4 : decode cX9_both 4 = .ok (.sipush 280, 3) := by decide +kernel
theorem dX9_both_7 : decode cX9_both 7 = .ok (.iaload, 1) := by decide +kernel
theorem dX9_both_8 : decode cX9_both 8 = .ok (.aload_n 0, 1) := by decide +kernel
theorem dX9_both_9 : decode cX9_both 9 = .ok (.getfield 16, 3) := by decide +kernel
theorem dX9_both_12 : decode cX9_both 12 = .ok (.sipush 281, 3) := by decide +kernel
theorem dX9_both_15 : decode cX9_both 15 = .ok (.iaload, 1) := by decide +kernel
theorem dX9_both_16 : decode cX9_both 16 = .ok (.iand, 1) := by decide +kernel
theorem dX9_both_17 : decode cX9_both 17 = .ok (.ireturn, 1) := by decide +kernel
set_option maxRecDepth 20000 in
theorem ggX9_lost_X9_in : GoodIn wsX9_lost wsX9_in := goodIn_r _ [5] (by decide +kernel) (by decide +kernel)
set_option maxRecDepth 20000 in
theorem gX9_lost_X9_in : GoodIn wsX9_lost (va_wsS RX9 49 yX9_in wsX9_in) := goodIn_app (goodIn_of _ (by decide +kernel)) ggX9_lost_X9_in
set_option maxRecDepth 20000 in
theorem ggX9_lost_X9_wordAt : GoodIn wsX9_lost wsX9_wordAt := goodIn_r _ [8] (by decide +kernel) (by decide +kernel)
set_option maxRecDepth 20000 in
theorem gX9_lost_X9_wordAt : GoodIn wsX9_lost (va_wsS RX9 129 yX9_wordAt wsX9_wordAt) := goodIn_app (goodIn_of _ (by decide +kernel)) ggX9_lost_X9_wordAt
set_option maxRecDepth 20000 in
theorem ggX9_lost_X9_said : GoodIn wsX9_lost wsX9_said := goodIn_r _ [12, 1, 13, 14, 4, 15, 16, 17, 18, 19, 20, 21, 22, 23, 24, 25, 26, 27, 28] (by decide +kernel) (by decide +kernel)
set_option maxRecDepth 20000 in
theorem gX9_lost_X9_said : GoodIn wsX9_lost (wsV RX9 140 RX9 yX9_said wsX9_said) := goodIn_app (goodIn_of _ (by decide +kernel)) ggX9_lost_X9_said
theorem dX9_lost_0 : decode cX9_lost 0 = .ok (.iload_n 1, 1) := by decide +kernel
theorem dX9_lost_1 : decode cX9_lost 1 = .ok (.i2l, 1) := by decide +kernel
theorem dX9_lost_2 : decode cX9_lost 2 = .ok (.lconst 0, 1) := by decide +kernel
theorem dX9_lost_3 : decode cX9_lost 3 = .ok (.lconst 1, 1) := by decide +kernel
theorem dX9_lost_4 : decode cX9_lost 4 = .ok (.invokestatic 49, 3) := by decide +kernel
theorem dX9_lost_7 : decode cX9_lost 7 = .ok (.ifCond .ne 5, 3) := by decide +kernel
theorem dX9_lost_10 : decode cX9_lost 10 = .ok (.iconst (-1), 1) := by decide +kernel
theorem dX9_lost_11 : decode cX9_lost 11 = .ok (.ireturn, 1) := by decide +kernel
theorem dX9_lost_12 : decode cX9_lost 12 = .ok (.iconst 0, 1) := by decide +kernel
theorem dX9_lost_13 : decode cX9_lost 13 = .ok (.istore_n 2, 1) := by decide +kernel
theorem dX9_lost_14 : decode cX9_lost 14 = .ok (.iconst 0, 1) := by decide +kernel
theorem dX9_lost_15 : decode cX9_lost 15 = .ok (.istore_n 3, 1) := by decide +kernel
theorem dX9_lost_16 : decode cX9_lost 16 = .ok (.iload_n 3, 1) := by decide +kernel
theorem dX9_lost_17 : decode cX9_lost 17 = .ok (.bipush 8, 2) := by decide +kernel
theorem dX9_lost_19 : decode cX9_lost 19 = .ok (.if_icmp .ge 74, 3) := by decide +kernel
theorem dX9_lost_22 : decode cX9_lost 22 = .ok (.iload_n 1, 1) := by decide +kernel
theorem dX9_lost_23 : decode cX9_lost 23 = .ok (.iload_n 3, 1) := by decide +kernel
theorem dX9_lost_24 : decode cX9_lost 24 = .ok (.invokestatic 129, 3) := by decide +kernel
theorem dX9_lost_27 : decode cX9_lost 27 = .ok (.istore 4, 2) := by decide +kernel
theorem dX9_lost_29 : decode cX9_lost 29 = .ok (.iconst 0, 1) := by decide +kernel
theorem dX9_lost_30 : decode cX9_lost 30 = .ok (.istore 5, 2) := by decide +kernel
theorem dX9_lost_32 : decode cX9_lost 32 = .ok (.iload 5, 2) := by decide +kernel
theorem dX9_lost_34 : decode cX9_lost 34 = .ok (.aload_n 0, 1) := by decide +kernel
theorem dX9_lost_35 : decode cX9_lost 35 = .ok (.getfield 16, 3) := by decide +kernel
theorem dX9_lost_38 : decode cX9_lost 38 = .ok (.iload 4, 2) := by decide +kernel
theorem dX9_lost_40 : decode cX9_lost 40 = .ok (.iaload, 1) := by decide +kernel
theorem dX9_lost_41 : decode cX9_lost 41 = .ok (.if_icmp .ge 46, 3) := by decide +kernel
theorem dX9_lost_44 : decode cX9_lost 44 = .ok (.aload_n 0, 1) := by decide +kernel
theorem dX9_lost_45 : decode cX9_lost 45 = .ok (.getfield 16, 3) := by decide +kernel
theorem dX9_lost_48 : decode cX9_lost 48 = .ok (.iload 4, 2) := by decide +kernel
theorem dX9_lost_50 : decode cX9_lost 50 = .ok (.iconst 1, 1) := by decide +kernel
theorem dX9_lost_51 : decode cX9_lost 51 = .ok (.iadd, 1) := by decide +kernel
theorem dX9_lost_52 : decode cX9_lost 52 = .ok (.iload 5, 2) := by decide +kernel
theorem dX9_lost_54 : decode cX9_lost 54 = .ok (.iadd, 1) := by decide +kernel
theorem dX9_lost_55 : decode cX9_lost 55 = .ok (.iaload, 1) := by decide +kernel
theorem dX9_lost_56 : decode cX9_lost 56 = .ok (.istore 6, 2) := by decide +kernel
theorem dX9_lost_58 : decode cX9_lost 58 = .ok (.iload_n 2, 1) := by decide +kernel
theorem dX9_lost_59 : decode cX9_lost 59 = .ok (.aload_n 0, 1) := by decide +kernel
theorem dX9_lost_60 : decode cX9_lost 60 = .ok (.iconst 1, 1) := by decide +kernel
theorem dX9_lost_61 : decode cX9_lost 61 = .ok (.iload_n 1, 1) := by decide +kernel
theorem dX9_lost_62 : decode cX9_lost 62 = .ok (.isub, 1) := by decide +kernel
theorem dX9_lost_63 : decode cX9_lost 63 = .ok (.iload 6, 2) := by decide +kernel
theorem dX9_lost_65 : decode cX9_lost 65 = .ok (.invokevirtual 140, 3) := by decide +kernel
theorem dX9_lost_68 : decode cX9_lost 68 = .ok (.ifCond .ge 10, 3) := by decide +kernel
theorem dX9_lost_71 : decode cX9_lost 71 = .ok (.iconst 1, 1) := by decide +kernel
theorem dX9_lost_72 : decode cX9_lost 72 = .ok (.iload 6, 2) := by decide +kernel
theorem dX9_lost_74 : decode cX9_lost 74 = .ok (.ishl, 1) := by decide +kernel
theorem dX9_lost_75 : decode cX9_lost 75 = .ok (.goto 4, 3) := by decide +kernel
theorem dX9_lost_78 : decode cX9_lost 78 = .ok (.iconst 0, 1) := by decide +kernel
theorem dX9_lost_79 : decode cX9_lost 79 = .ok (.ior, 1) := by decide +kernel
theorem dX9_lost_80 : decode cX9_lost 80 = .ok (.istore_n 2, 1) := by decide +kernel
theorem dX9_lost_81 : decode cX9_lost 81 = .ok (.iinc 5 1, 3) := by decide +kernel
theorem dX9_lost_84 : decode cX9_lost 84 = .ok (.goto (-52), 3) := by decide +kernel
theorem dX9_lost_87 : decode cX9_lost 87 = .ok (.iinc 3 1, 3) := by decide +kernel
theorem dX9_lost_90 : decode cX9_lost 90 = .ok (.goto (-74), 3) := by decide +kernel
theorem dX9_lost_93 : decode cX9_lost 93 = .ok (.iload_n 2, 1) := by decide +kernel
theorem dX9_lost_94 : decode cX9_lost 94 = .ok (.ireturn, 1) := by decide +kernel
theorem dX9_keep_0 : decode cX9_keep 0 = .ok (.aload_n 0, 1) := by decide +kernel
theorem dX9_keep_1 : decode cX9_keep 1 = .ok (.getfield 119, 3) := by decide +kernel
theorem dX9_keep_4 : decode cX9_keep 4 = .ok (.iconst 2, 1) := by decide +kernel
theorem dX9_keep_5 : decode cX9_keep 5 = .ok (.if_icmp .ne 6, 3) := by decide +kernel
theorem dX9_keep_8 : decode cX9_keep 8 = .ok (.bipush (-3), 2) := by decide +kernel
theorem dX9_keep_10 : decode cX9_keep 10 = .ok (.ireturn, 1) := by decide +kernel
theorem dX9_keep_11 : decode cX9_keep 11 = .ok (.iconst 0, 1) := by decide +kernel
theorem dX9_keep_12 : decode cX9_keep 12 = .ok (.istore_n 1, 1) := by decide +kernel
theorem dX9_keep_13 : decode cX9_keep 13 = .ok (.iload_n 1, 1) := by decide +kernel
theorem dX9_keep_14 : decode cX9_keep 14 = .ok (.bipush 16, 2) := by decide +kernel
theorem dX9_keep_16 : decode cX9_keep 16 = .ok (.if_icmp .ge 29, 3) := by decide +kernel
theorem dX9_keep_19 : decode cX9_keep 19 = .ok (.aload_n 0, 1) := by decide +kernel
theorem dX9_keep_20 : decode cX9_keep 20 = .ok (.getfield 22, 3) := by decide +kernel
theorem dX9_keep_23 : decode cX9_keep 23 = .ok (.bipush 16, 2) := by decide +kernel
theorem dX9_keep_25 : decode cX9_keep 25 = .ok (.aload_n 0, 1) := by decide +kernel
theorem dX9_keep_26 : decode cX9_keep 26 = .ok (.getfield 119, 3) := by decide +kernel
theorem dX9_keep_29 : decode cX9_keep 29 = .ok (.imul, 1) := by decide +kernel
theorem dX9_keep_30 : decode cX9_keep 30 = .ok (.iload_n 1, 1) := by decide +kernel
theorem dX9_keep_31 : decode cX9_keep 31 = .ok (.iadd, 1) := by decide +kernel
theorem dX9_keep_32 : decode cX9_keep 32 = .ok (.aload_n 0, 1) := by decide +kernel
theorem dX9_keep_33 : decode cX9_keep 33 = .ok (.getfield 19, 3) := by decide +kernel
theorem dX9_keep_36 : decode cX9_keep 36 = .ok (.iload_n 1, 1) := by decide +kernel
theorem dX9_keep_37 : decode cX9_keep 37 = .ok (.iaload, 1) := by decide +kernel
theorem dX9_keep_38 : decode cX9_keep 38 = .ok (.iastore, 1) := by decide +kernel
theorem dX9_keep_39 : decode cX9_keep 39 = .ok (.iinc 1 1, 3) := by decide +kernel
theorem dX9_keep_42 : decode cX9_keep 42 = .ok (.goto (-29), 3) := by decide +kernel
theorem dX9_keep_45 : decode cX9_keep 45 = .ok (.aload_n 0, 1) := by decide +kernel
theorem dX9_keep_46 : decode cX9_keep 46 = .ok (.dup, 1) := by decide +kernel
theorem dX9_keep_47 : decode cX9_keep 47 = .ok (.getfield 119, 3) := by decide +kernel
theorem dX9_keep_50 : decode cX9_keep 50 = .ok (.iconst 1, 1) := by decide +kernel
theorem dX9_keep_51 : decode cX9_keep 51 = .ok (.iadd, 1) := by decide +kernel
theorem dX9_keep_52 : decode cX9_keep 52 = .ok (.putfield 119, 3) := by decide +kernel
theorem dX9_keep_55 : decode cX9_keep 55 = .ok (.aload_n 0, 1) := by decide +kernel
theorem dX9_keep_56 : decode cX9_keep 56 = .ok (.getfield 119, 3) := by decide +kernel
theorem dX9_keep_59 : decode cX9_keep 59 = .ok (.ireturn, 1) := by decide +kernel
theorem dX9_back_0 : decode cX9_back 0 = .ok (.aload_n 0, 1) := by decide +kernel
theorem dX9_back_1 : decode cX9_back 1 = .ok (.getfield 119, 3) := by decide +kernel
theorem dX9_back_4 : decode cX9_back 4 = .ok (.ifCond .ne 6, 3) := by decide +kernel
theorem dX9_back_7 : decode cX9_back 7 = .ok (.bipush (-2), 2) := by decide +kernel
theorem dX9_back_9 : decode cX9_back 9 = .ok (.ireturn, 1) := by decide +kernel
theorem dX9_back_10 : decode cX9_back 10 = .ok (.aload_n 0, 1) := by decide +kernel
theorem dX9_back_11 : decode cX9_back 11 = .ok (.dup, 1) := by decide +kernel
theorem dX9_back_12 : decode cX9_back 12 = .ok (.getfield 119, 3) := by decide +kernel
theorem dX9_back_15 : decode cX9_back 15 = .ok (.iconst 1, 1) := by decide +kernel
theorem dX9_back_16 : decode cX9_back 16 = .ok (.isub, 1) := by decide +kernel
theorem dX9_back_17 : decode cX9_back 17 = .ok (.putfield 119, 3) := by decide +kernel
theorem dX9_back_20 : decode cX9_back 20 = .ok (.iconst 0, 1) := by decide +kernel
theorem dX9_back_21 : decode cX9_back 21 = .ok (.istore_n 1, 1) := by decide +kernel
theorem dX9_back_22 : decode cX9_back 22 = .ok (.iload_n 1, 1) := by decide +kernel
theorem dX9_back_23 : decode cX9_back 23 = .ok (.bipush 16, 2) := by decide +kernel
theorem dX9_back_25 : decode cX9_back 25 = .ok (.if_icmp .ge 29, 3) := by decide +kernel
theorem dX9_back_28 : decode cX9_back 28 = .ok (.aload_n 0, 1) := by decide +kernel
theorem dX9_back_29 : decode cX9_back 29 = .ok (.getfield 19, 3) := by decide +kernel
theorem dX9_back_32 : decode cX9_back 32 = .ok (.iload_n 1, 1) := by decide +kernel
theorem dX9_back_33 : decode cX9_back 33 = .ok (.aload_n 0, 1) := by decide +kernel
theorem dX9_back_34 : decode cX9_back 34 = .ok (.getfield 22, 3) := by decide +kernel
theorem dX9_back_37 : decode cX9_back 37 = .ok (.bipush 16, 2) := by decide +kernel
theorem dX9_back_39 : decode cX9_back 39 = .ok (.aload_n 0, 1) := by decide +kernel
theorem dX9_back_40 : decode cX9_back 40 = .ok (.getfield 119, 3) := by decide +kernel
theorem dX9_back_43 : decode cX9_back 43 = .ok (.imul, 1) := by decide +kernel
theorem dX9_back_44 : decode cX9_back 44 = .ok (.iload_n 1, 1) := by decide +kernel
theorem dX9_back_45 : decode cX9_back 45 = .ok (.iadd, 1) := by decide +kernel
theorem dX9_back_46 : decode cX9_back 46 = .ok (.iaload, 1) := by decide +kernel
theorem dX9_back_47 : decode cX9_back 47 = .ok (.iastore, 1) := by decide +kernel
theorem dX9_back_48 : decode cX9_back 48 = .ok (.iinc 1 1, 3) := by decide +kernel
theorem dX9_back_51 : decode cX9_back 51 = .ok (.goto (-29), 3) := by decide +kernel
theorem dX9_back_54 : decode cX9_back 54 = .ok (.aload_n 0, 1) := by decide +kernel
theorem dX9_back_55 : decode cX9_back 55 = .ok (.getfield 119, 3) := by decide +kernel
theorem dX9_back_58 : decode cX9_back 58 = .ok (.ireturn, 1) := by decide +kernel
set_option maxRecDepth 20000 in
theorem ggX9_count_X9_toldSet : GoodIn wsX9_count wsX9_toldSet := goodIn_r _ [8, 9, 10, 11, 7, 12, 2, 13, 14, 15, 19, 20, 21, 22, 23, 24, 25, 26, 27, 28, 29, 30, 31] (by decide +kernel) (by decide +kernel)
set_option maxRecDepth 20000 in
theorem gX9_count_X9_toldSet : GoodIn wsX9_count (wsV RX9 122 RX9 yX9_toldSet wsX9_toldSet) := goodIn_app (goodIn_of _ (by decide +kernel)) ggX9_count_X9_toldSet
set_option maxRecDepth 20000 in
theorem ggX9_count_X9_ones : GoodIn wsX9_count wsX9_ones := goodIn_r _ [18] (by decide +kernel) (by decide +kernel)
set_option maxRecDepth 20000 in
theorem gX9_count_X9_ones : GoodIn wsX9_count (va_wsS RX9 125 yX9_ones wsX9_ones) := goodIn_app (goodIn_of _ (by decide +kernel)) ggX9_count_X9_ones
theorem dX9_count_0 : decode cX9_count 0 = .ok (.iload_n 1, 1) := by decide +kernel
theorem dX9_count_1 : decode cX9_count 1 = .ok (.tableswitch 97 0 6 #[43, 51, 56, 65, 74, 79, 88], 43) := by decide +kernel
theorem dX9_count_44 : decode cX9_count 44 = .ok (.aload_n 0, 1) := by decide +kernel
theorem dX9_count_45 : decode cX9_count 45 = .ok (.invokevirtual 122, 3) := by decide +kernel
theorem dX9_count_48 : decode cX9_count 48 = .ok (.invokestatic 125, 3) := by decide +kernel
theorem dX9_count_51 : decode cX9_count 51 = .ok (.ireturn, 1) := by decide +kernel
theorem dX9_count_52 : decode cX9_count 52 = .ok (.aload_n 0, 1) := by decide +kernel
theorem dX9_count_53 : decode cX9_count 53 = .ok (.getfield 53, 3) := by decide +kernel
theorem dX9_count_56 : decode cX9_count 56 = .ok (.ireturn, 1) := by decide +kernel
theorem dX9_count_57 : decode cX9_count 57 = .ok (.aload_n 0, 1) := by decide +kernel
theorem dX9_count_58 : decode cX9_count 58 = .ok (.getfield 16, 3) := by decide +kernel
theorem dX9_count_61 : decode cX9_count 61 = .ok (.sipush 329, 3) := by decide +kernel
theorem dX9_count_64 : decode cX9_count 64 = .ok (.iaload, 1) := by decide +kernel
theorem dX9_count_65 : decode cX9_count 65 = .ok (.ireturn, 1) := by decide +kernel
theorem dX9_count_66 : decode cX9_count 66 = .ok (.aload_n 0, 1) := by decide +kernel
theorem dX9_count_67 : decode cX9_count 67 = .ok (.getfield 16, 3) := by decide +kernel
theorem dX9_count_70 : decode cX9_count 70 = .ok (.sipush 304, 3) := by decide +kernel
theorem dX9_count_73 : decode cX9_count 73 = .ok (.iaload, 1) := by decide +kernel
theorem dX9_count_74 : decode cX9_count 74 = .ok (.ireturn, 1) := by decide +kernel
theorem dX9_count_75 : decode cX9_count 75 = .ok (.aload_n 0, 1) := by decide +kernel
theorem dX9_count_76 : decode cX9_count 76 = .ok (.getfield 119, 3) := by decide +kernel
theorem dX9_count_79 : decode cX9_count 79 = .ok (.ireturn, 1) := by decide +kernel
theorem dX9_count_80 : decode cX9_count 80 = .ok (.aload_n 0, 1) := by decide +kernel
theorem dX9_count_81 : decode cX9_count 81 = .ok (.getfield 16, 3) := by decide +kernel
theorem dX9_count_84 : decode cX9_count 84 = .ok (.sipush 298, 3) := by decide +kernel
theorem dX9_count_87 : decode cX9_count 87 = .ok (.iaload, 1) := by decide +kernel
theorem dX9_count_88 : decode cX9_count 88 = .ok (.ireturn, 1) := by decide +kernel
theorem dX9_count_89 : decode cX9_count 89 = .ok (.aload_n 0, 1) := by decide +kernel
theorem dX9_count_90 : decode cX9_count 90 = .ok (.getfield 16, 3) := by decide +kernel
theorem dX9_count_93 : decode cX9_count 93 = .ok (.sipush 299, 3) := by decide +kernel
theorem dX9_count_96 : decode cX9_count 96 = .ok (.iaload, 1) := by decide +kernel
theorem dX9_count_97 : decode cX9_count 97 = .ok (.ireturn, 1) := by decide +kernel
theorem dX9_count_98 : decode cX9_count 98 = .ok (.iconst (-1), 1) := by decide +kernel
theorem dX9_count_99 : decode cX9_count 99 = .ok (.ireturn, 1) := by decide +kernel
theorem dJ6_bitCount_0f7a4_0 : decode cJ6_bitCount_0f7a4 0 = .ok (.iload_n 0, 1) := by decide +kernel
theorem dJ6_bitCount_0f7a4_1 : decode cJ6_bitCount_0f7a4 1 = .ok (.iload_n 0, 1) := by decide +kernel
theorem dJ6_bitCount_0f7a4_2 : decode cJ6_bitCount_0f7a4 2 = .ok (.iconst 1, 1) := by decide +kernel
theorem dJ6_bitCount_0f7a4_3 : decode cJ6_bitCount_0f7a4 3 = .ok (.iushr, 1) := by decide +kernel
theorem dJ6_bitCount_0f7a4_4 : decode cJ6_bitCount_0f7a4 4 = .ok (.ldc_w 265, 3) := by decide +kernel
theorem dJ6_bitCount_0f7a4_7 : decode cJ6_bitCount_0f7a4 7 = .ok (.iand, 1) := by decide +kernel
theorem dJ6_bitCount_0f7a4_8 : decode cJ6_bitCount_0f7a4 8 = .ok (.isub, 1) := by decide +kernel
theorem dJ6_bitCount_0f7a4_9 : decode cJ6_bitCount_0f7a4 9 = .ok (.istore_n 0, 1) := by decide +kernel
theorem dJ6_bitCount_0f7a4_10 : decode cJ6_bitCount_0f7a4 10 = .ok (.iload_n 0, 1) := by decide +kernel
theorem dJ6_bitCount_0f7a4_11 : decode cJ6_bitCount_0f7a4 11 = .ok (.ldc_w 266, 3) := by decide +kernel
theorem dJ6_bitCount_0f7a4_14 : decode cJ6_bitCount_0f7a4 14 = .ok (.iand, 1) := by decide +kernel
theorem dJ6_bitCount_0f7a4_15 : decode cJ6_bitCount_0f7a4 15 = .ok (.iload_n 0, 1) := by decide +kernel
theorem dJ6_bitCount_0f7a4_16 : decode cJ6_bitCount_0f7a4 16 = .ok (.iconst 2, 1) := by decide +kernel
theorem dJ6_bitCount_0f7a4_17 : decode cJ6_bitCount_0f7a4 17 = .ok (.iushr, 1) := by decide +kernel
theorem dJ6_bitCount_0f7a4_18 : decode cJ6_bitCount_0f7a4 18 = .ok (.ldc_w 266, 3) := by decide +kernel
theorem dJ6_bitCount_0f7a4_21 : decode cJ6_bitCount_0f7a4 21 = .ok (.iand, 1) := by decide +kernel
theorem dJ6_bitCount_0f7a4_22 : decode cJ6_bitCount_0f7a4 22 = .ok (.iadd, 1) := by decide +kernel
theorem dJ6_bitCount_0f7a4_23 : decode cJ6_bitCount_0f7a4 23 = .ok (.istore_n 0, 1) := by decide +kernel
theorem dJ6_bitCount_0f7a4_24 : decode cJ6_bitCount_0f7a4 24 = .ok (.iload_n 0, 1) := by decide +kernel
theorem dJ6_bitCount_0f7a4_25 : decode cJ6_bitCount_0f7a4 25 = .ok (.iload_n 0, 1) := by decide +kernel
theorem dJ6_bitCount_0f7a4_26 : decode cJ6_bitCount_0f7a4 26 = .ok (.iconst 4, 1) := by decide +kernel
theorem dJ6_bitCount_0f7a4_27 : decode cJ6_bitCount_0f7a4 27 = .ok (.iushr, 1) := by decide +kernel
theorem dJ6_bitCount_0f7a4_28 : decode cJ6_bitCount_0f7a4 28 = .ok (.iadd, 1) := by decide +kernel
theorem dJ6_bitCount_0f7a4_29 : decode cJ6_bitCount_0f7a4 29 = .ok (.ldc_w 267, 3) := by decide +kernel
theorem dJ6_bitCount_0f7a4_32 : decode cJ6_bitCount_0f7a4 32 = .ok (.iand, 1) := by decide +kernel
theorem dJ6_bitCount_0f7a4_33 : decode cJ6_bitCount_0f7a4 33 = .ok (.istore_n 0, 1) := by decide +kernel
theorem dJ6_bitCount_0f7a4_34 : decode cJ6_bitCount_0f7a4 34 = .ok (.iload_n 0, 1) := by decide +kernel
theorem dJ6_bitCount_0f7a4_35 : decode cJ6_bitCount_0f7a4 35 = .ok (.iload_n 0, 1) := by decide +kernel
theorem dJ6_bitCount_0f7a4_36 : decode cJ6_bitCount_0f7a4 36 = .ok (.bipush 8, 2) := by decide +kernel
theorem dJ6_bitCount_0f7a4_38 : decode cJ6_bitCount_0f7a4 38 = .ok (.iushr, 1) := by decide +kernel
theorem dJ6_bitCount_0f7a4_39 : decode cJ6_bitCount_0f7a4 39 = .ok (.iadd, 1) := by decide +kernel
theorem dJ6_bitCount_0f7a4_40 : decode cJ6_bitCount_0f7a4 40 = .ok (.istore_n 0, 1) := by decide +kernel
theorem dJ6_bitCount_0f7a4_41 : decode cJ6_bitCount_0f7a4 41 = .ok (.iload_n 0, 1) := by decide +kernel
theorem dJ6_bitCount_0f7a4_42 : decode cJ6_bitCount_0f7a4 42 = .ok (.iload_n 0, 1) := by decide +kernel
theorem dJ6_bitCount_0f7a4_43 : decode cJ6_bitCount_0f7a4 43 = .ok (.bipush 16, 2) := by decide +kernel
theorem dJ6_bitCount_0f7a4_45 : decode cJ6_bitCount_0f7a4 45 = .ok (.iushr, 1) := by decide +kernel
theorem dJ6_bitCount_0f7a4_46 : decode cJ6_bitCount_0f7a4 46 = .ok (.iadd, 1) := by decide +kernel
theorem dJ6_bitCount_0f7a4_47 : decode cJ6_bitCount_0f7a4 47 = .ok (.istore_n 0, 1) := by decide +kernel
theorem dJ6_bitCount_0f7a4_48 : decode cJ6_bitCount_0f7a4 48 = .ok (.iload_n 0, 1) := by decide +kernel
theorem dJ6_bitCount_0f7a4_49 : decode cJ6_bitCount_0f7a4 49 = .ok (.bipush 63, 2) := by decide +kernel
theorem dJ6_bitCount_0f7a4_51 : decode cJ6_bitCount_0f7a4 51 = .ok (.iand, 1) := by decide +kernel
theorem dJ6_bitCount_0f7a4_52 : decode cJ6_bitCount_0f7a4 52 = .ok (.ireturn, 1) := by decide +kernel
theorem dJ9_max_7cf53_0 : decode cJ9_max_7cf53 0 = .ok (.iload_n 0, 1) := by decide +kernel
theorem dJ9_max_7cf53_1 : decode cJ9_max_7cf53 1 = .ok (.iload_n 1, 1) := by decide +kernel
theorem dJ9_max_7cf53_2 : decode cJ9_max_7cf53 2 = .ok (.if_icmp .lt 7, 3) := by decide +kernel
theorem dJ9_max_7cf53_5 : decode cJ9_max_7cf53 5 = .ok (.iload_n 0, 1) := by decide +kernel
theorem dJ9_max_7cf53_6 : decode cJ9_max_7cf53 6 = .ok (.goto 4, 3) := by decide +kernel
theorem dJ9_max_7cf53_9 : decode cJ9_max_7cf53 9 = .ok (.iload_n 1, 1) := by decide +kernel
theorem dJ9_max_7cf53_10 : decode cJ9_max_7cf53 10 = .ok (.ireturn, 1) := by decide +kernel
theorem dJ9_min_7cf53_0 : decode cJ9_min_7cf53 0 = .ok (.iload_n 0, 1) := by decide +kernel
theorem dJ9_min_7cf53_1 : decode cJ9_min_7cf53 1 = .ok (.iload_n 1, 1) := by decide +kernel
theorem dJ9_min_7cf53_2 : decode cJ9_min_7cf53 2 = .ok (.if_icmp .gt 7, 3) := by decide +kernel
theorem dJ9_min_7cf53_5 : decode cJ9_min_7cf53 5 = .ok (.iload_n 0, 1) := by decide +kernel
theorem dJ9_min_7cf53_6 : decode cJ9_min_7cf53 6 = .ok (.goto 4, 3) := by decide +kernel
theorem dJ9_min_7cf53_9 : decode cJ9_min_7cf53 9 = .ok (.iload_n 1, 1) := by decide +kernel
theorem dJ9_min_7cf53_10 : decode cJ9_min_7cf53 10 = .ok (.ireturn, 1) := by decide +kernel
theorem dJ7_fill_d0a16_0 : decode cJ7_fill_d0a16 0 = .ok (.iconst 0, 1) := by decide +kernel
theorem dJ7_fill_d0a16_1 : decode cJ7_fill_d0a16 1 = .ok (.istore_n 3, 1) := by decide +kernel
theorem dJ7_fill_d0a16_2 : decode cJ7_fill_d0a16 2 = .ok (.aload_n 0, 1) := by decide +kernel
theorem dJ7_fill_d0a16_3 : decode cJ7_fill_d0a16 3 = .ok (.arraylength, 1) := by decide +kernel
theorem dJ7_fill_d0a16_4 : decode cJ7_fill_d0a16 4 = .ok (.istore 4, 2) := by decide +kernel
theorem dJ7_fill_d0a16_6 : decode cJ7_fill_d0a16 6 = .ok (.iload_n 3, 1) := by decide +kernel
theorem dJ7_fill_d0a16_7 : decode cJ7_fill_d0a16 7 = .ok (.iload 4, 2) := by decide +kernel
theorem dJ7_fill_d0a16_9 : decode cJ7_fill_d0a16 9 = .ok (.if_icmp .ge 13, 3) := by decide +kernel
theorem dJ7_fill_d0a16_12 : decode cJ7_fill_d0a16 12 = .ok (.aload_n 0, 1) := by decide +kernel
theorem dJ7_fill_d0a16_13 : decode cJ7_fill_d0a16 13 = .ok (.iload_n 3, 1) := by decide +kernel
theorem dJ7_fill_d0a16_14 : decode cJ7_fill_d0a16 14 = .ok (.lload_n 1, 1) := by decide +kernel
theorem dJ7_fill_d0a16_15 : decode cJ7_fill_d0a16 15 = .ok (.lastore, 1) := by decide +kernel
theorem dJ7_fill_d0a16_16 : decode cJ7_fill_d0a16 16 = .ok (.iinc 3 1, 3) := by decide +kernel
theorem dJ7_fill_d0a16_19 : decode cJ7_fill_d0a16 19 = .ok (.goto (-13), 3) := by decide +kernel
theorem dJ7_fill_d0a16_22 : decode cJ7_fill_d0a16 22 = .ok (.return_, 1) := by decide +kernel
theorem dJ7_fill_53178_0 : decode cJ7_fill_53178 0 = .ok (.iconst 0, 1) := by decide +kernel
theorem dJ7_fill_53178_1 : decode cJ7_fill_53178 1 = .ok (.istore_n 2, 1) := by decide +kernel
theorem dJ7_fill_53178_2 : decode cJ7_fill_53178 2 = .ok (.aload_n 0, 1) := by decide +kernel
theorem dJ7_fill_53178_3 : decode cJ7_fill_53178 3 = .ok (.arraylength, 1) := by decide +kernel
theorem dJ7_fill_53178_4 : decode cJ7_fill_53178 4 = .ok (.istore_n 3, 1) := by decide +kernel
theorem dJ7_fill_53178_5 : decode cJ7_fill_53178 5 = .ok (.iload_n 2, 1) := by decide +kernel
theorem dJ7_fill_53178_6 : decode cJ7_fill_53178 6 = .ok (.iload_n 3, 1) := by decide +kernel
theorem dJ7_fill_53178_7 : decode cJ7_fill_53178 7 = .ok (.if_icmp .ge 13, 3) := by decide +kernel
theorem dJ7_fill_53178_10 : decode cJ7_fill_53178 10 = .ok (.aload_n 0, 1) := by decide +kernel
theorem dJ7_fill_53178_11 : decode cJ7_fill_53178 11 = .ok (.iload_n 2, 1) := by decide +kernel
theorem dJ7_fill_53178_12 : decode cJ7_fill_53178 12 = .ok (.iload_n 1, 1) := by decide +kernel
theorem dJ7_fill_53178_13 : decode cJ7_fill_53178 13 = .ok (.iastore, 1) := by decide +kernel
theorem dJ7_fill_53178_14 : decode cJ7_fill_53178 14 = .ok (.iinc 2 1, 3) := by decide +kernel
theorem dJ7_fill_53178_17 : decode cJ7_fill_53178 17 = .ok (.goto (-12), 3) := by decide +kernel
theorem dJ7_fill_53178_20 : decode cJ7_fill_53178 20 = .ok (.return_, 1) := by decide +kernel
