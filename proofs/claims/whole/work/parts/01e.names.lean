set_option maxRecDepth 20000 in
theorem ggX10_meetBy_X10_draw : GoodIn wsX10_meetBy wsX10_draw := goodIn_r _ [6, 7, 8, 9, 10, 11] (by decide +kernel) (by decide +kernel)
set_option maxRecDepth 20000 in
theorem gX10_meetBy_X10_draw : GoodIn wsX10_meetBy (va_wsS RX10 213 yX10_draw wsX10_draw) := goodIn_app (goodIn_of _ (by decide +kernel)) ggX10_meetBy_X10_draw
theorem dX10_meetBy_0 : decode cX10_meetBy 0 = .ok (.aload_n 0, 1) := by decide +kernel
theorem dX10_meetBy_1 : decode cX10_meetBy 1 = .ok (.getfield 19, 3) := by decide +kernel
theorem dX10_meetBy_4 : decode cX10_meetBy 4 = .ok (.iconst 2, 1) := by decide +kernel
theorem dX10_meetBy_5 : decode cX10_meetBy 5 = .ok (.iload_n 2, 1) := by decide +kernel
theorem dX10_meetBy_6 : decode cX10_meetBy 6 = .ok (.imul, 1) := by decide +kernel
theorem dX10_meetBy_7 : decode cX10_meetBy 7 = .ok (.iaload, 1) := by decide +kernel
theorem dX10_meetBy_8 : decode cX10_meetBy 8 = .ok (.istore 4, 2) := by decide +kernel
theorem dX10_meetBy_10 : decode cX10_meetBy 10 = .ok (.aload_n 0, 1) := by decide +kernel
theorem dX10_meetBy_11 : decode cX10_meetBy 11 = .ok (.getfield 19, 3) := by decide +kernel
theorem dX10_meetBy_14 : decode cX10_meetBy 14 = .ok (.iconst 2, 1) := by decide +kernel
theorem dX10_meetBy_15 : decode cX10_meetBy 15 = .ok (.iload_n 2, 1) := by decide +kernel
theorem dX10_meetBy_16 : decode cX10_meetBy 16 = .ok (.imul, 1) := by decide +kernel
theorem dX10_meetBy_17 : decode cX10_meetBy 17 = .ok (.iconst 1, 1) := by decide +kernel
theorem dX10_meetBy_18 : decode cX10_meetBy 18 = .ok (.iadd, 1) := by decide +kernel
theorem dX10_meetBy_19 : decode cX10_meetBy 19 = .ok (.iaload, 1) := by decide +kernel
theorem dX10_meetBy_20 : decode cX10_meetBy 20 = .ok (.istore 5, 2) := by decide +kernel
theorem dX10_meetBy_22 : decode cX10_meetBy 22 = .ok (.iload_n 1, 1) := by decide +kernel
theorem dX10_meetBy_23 : decode cX10_meetBy 23 = .ok (.iload_n 2, 1) := by decide +kernel
theorem dX10_meetBy_24 : decode cX10_meetBy 24 = .ok (.iload_n 3, 1) := by decide +kernel
theorem dX10_meetBy_25 : decode cX10_meetBy 25 = .ok (.iconst 1, 1) := by decide +kernel
theorem dX10_meetBy_26 : decode cX10_meetBy 26 = .ok (.invokestatic 213, 3) := by decide +kernel
theorem dX10_meetBy_29 : decode cX10_meetBy 29 = .ok (.bipush 10, 2) := by decide +kernel
theorem dX10_meetBy_31 : decode cX10_meetBy 31 = .ok (.irem, 1) := by decide +kernel
theorem dX10_meetBy_32 : decode cX10_meetBy 32 = .ok (.aload_n 0, 1) := by decide +kernel
theorem dX10_meetBy_33 : decode cX10_meetBy 33 = .ok (.getfield 16, 3) := by decide +kernel
theorem dX10_meetBy_36 : decode cX10_meetBy 36 = .ok (.sipush 302, 3) := by decide +kernel
theorem dX10_meetBy_39 : decode cX10_meetBy 39 = .ok (.iaload, 1) := by decide +kernel
theorem dX10_meetBy_40 : decode cX10_meetBy 40 = .ok (.if_icmp .ge 7, 3) := by decide +kernel
theorem dX10_meetBy_43 : decode cX10_meetBy 43 = .ok (.iconst 1, 1) := by decide +kernel
theorem dX10_meetBy_44 : decode cX10_meetBy 44 = .ok (.goto 4, 3) := by decide +kernel
theorem dX10_meetBy_47 : decode cX10_meetBy 47 = .ok (.iconst 0, 1) := by decide +kernel
theorem dX10_meetBy_48 : decode cX10_meetBy 48 = .ok (.istore 6, 2) := by decide +kernel
theorem dX10_meetBy_50 : decode cX10_meetBy 50 = .ok (.iload_n 1, 1) := by decide +kernel
theorem dX10_meetBy_51 : decode cX10_meetBy 51 = .ok (.iload_n 2, 1) := by decide +kernel
theorem dX10_meetBy_52 : decode cX10_meetBy 52 = .ok (.iload_n 3, 1) := by decide +kernel
theorem dX10_meetBy_53 : decode cX10_meetBy 53 = .ok (.iconst 2, 1) := by decide +kernel
theorem dX10_meetBy_54 : decode cX10_meetBy 54 = .ok (.invokestatic 213, 3) := by decide +kernel
theorem dX10_meetBy_57 : decode cX10_meetBy 57 = .ok (.aload_n 0, 1) := by decide +kernel
theorem dX10_meetBy_58 : decode cX10_meetBy 58 = .ok (.getfield 16, 3) := by decide +kernel
theorem dX10_meetBy_61 : decode cX10_meetBy 61 = .ok (.sipush 298, 3) := by decide +kernel
theorem dX10_meetBy_64 : decode cX10_meetBy 64 = .ok (.iaload, 1) := by decide +kernel
theorem dX10_meetBy_65 : decode cX10_meetBy 65 = .ok (.irem, 1) := by decide +kernel
theorem dX10_meetBy_66 : decode cX10_meetBy 66 = .ok (.iload 4, 2) := by decide +kernel
theorem dX10_meetBy_68 : decode cX10_meetBy 68 = .ok (.if_icmp .ge 7, 3) := by decide +kernel
theorem dX10_meetBy_71 : decode cX10_meetBy 71 = .ok (.iconst 1, 1) := by decide +kernel
theorem dX10_meetBy_72 : decode cX10_meetBy 72 = .ok (.goto 4, 3) := by decide +kernel
theorem dX10_meetBy_75 : decode cX10_meetBy 75 = .ok (.iconst 0, 1) := by decide +kernel
theorem dX10_meetBy_76 : decode cX10_meetBy 76 = .ok (.istore 7, 2) := by decide +kernel
theorem dX10_meetBy_78 : decode cX10_meetBy 78 = .ok (.iload_n 1, 1) := by decide +kernel
theorem dX10_meetBy_79 : decode cX10_meetBy 79 = .ok (.iload_n 2, 1) := by decide +kernel
theorem dX10_meetBy_80 : decode cX10_meetBy 80 = .ok (.iload_n 3, 1) := by decide +kernel
theorem dX10_meetBy_81 : decode cX10_meetBy 81 = .ok (.iconst 3, 1) := by decide +kernel
theorem dX10_meetBy_82 : decode cX10_meetBy 82 = .ok (.invokestatic 213, 3) := by decide +kernel
theorem dX10_meetBy_85 : decode cX10_meetBy 85 = .ok (.aload_n 0, 1) := by decide +kernel
theorem dX10_meetBy_86 : decode cX10_meetBy 86 = .ok (.getfield 16, 3) := by decide +kernel
theorem dX10_meetBy_89 : decode cX10_meetBy 89 = .ok (.sipush 299, 3) := by decide +kernel
theorem dX10_meetBy_92 : decode cX10_meetBy 92 = .ok (.iaload, 1) := by decide +kernel
theorem dX10_meetBy_93 : decode cX10_meetBy 93 = .ok (.irem, 1) := by decide +kernel
theorem dX10_meetBy_94 : decode cX10_meetBy 94 = .ok (.iload 5, 2) := by decide +kernel
theorem dX10_meetBy_96 : decode cX10_meetBy 96 = .ok (.if_icmp .ge 7, 3) := by decide +kernel
theorem dX10_meetBy_99 : decode cX10_meetBy 99 = .ok (.iconst 0, 1) := by decide +kernel
theorem dX10_meetBy_100 : decode cX10_meetBy 100 = .ok (.goto 4, 3) := by decide +kernel
theorem dX10_meetBy_103 : decode cX10_meetBy 103 = .ok (.iconst 1, 1) := by decide +kernel
theorem dX10_meetBy_104 : decode cX10_meetBy 104 = .ok (.istore 8, 2) := by decide +kernel
theorem dX10_meetBy_106 : decode cX10_meetBy 106 = .ok (.iload 7, 2) := by decide +kernel
theorem dX10_meetBy_108 : decode cX10_meetBy 108 = .ok (.iload 8, 2) := by decide +kernel
theorem dX10_meetBy_110 : decode cX10_meetBy 110 = .ok (.if_icmp .eq 39, 3) := by decide +kernel
theorem dX10_meetBy_113 : decode cX10_meetBy 113 = .ok (.iload_n 1, 1) := by decide +kernel
theorem dX10_meetBy_114 : decode cX10_meetBy 114 = .ok (.iload_n 2, 1) := by decide +kernel
theorem dX10_meetBy_115 : decode cX10_meetBy 115 = .ok (.iload_n 3, 1) := by decide +kernel
theorem dX10_meetBy_116 : decode cX10_meetBy 116 = .ok (.iconst 4, 1) := by decide +kernel
theorem dX10_meetBy_117 : decode cX10_meetBy 117 = .ok (.invokestatic 213, 3) := by decide +kernel
theorem dX10_meetBy_120 : decode cX10_meetBy 120 = .ok (.bipush 10, 2) := by decide +kernel
theorem dX10_meetBy_122 : decode cX10_meetBy 122 = .ok (.irem, 1) := by decide +kernel
theorem dX10_meetBy_123 : decode cX10_meetBy 123 = .ok (.aload_n 0, 1) := by decide +kernel
theorem dX10_meetBy_124 : decode cX10_meetBy 124 = .ok (.getfield 16, 3) := by decide +kernel
theorem dX10_meetBy_127 : decode cX10_meetBy 127 = .ok (.sipush 300, 3) := by decide +kernel
theorem dX10_meetBy_130 : decode cX10_meetBy 130 = .ok (.iload 6, 2) := by decide +kernel
theorem dX10_meetBy_132 : decode cX10_meetBy 132 = .ok (.ifCond .eq 7, 3) := by decide +kernel
theorem dX10_meetBy_135 : decode cX10_meetBy 135 = .ok (.iconst 1, 1) := by decide +kernel
theorem dX10_meetBy_136 : decode cX10_meetBy 136 = .ok (.goto 4, 3) := by decide +kernel
theorem dX10_meetBy_139 : decode cX10_meetBy 139 = .ok (.iconst 0, 1) := by decide +kernel
theorem dX10_meetBy_140 : decode cX10_meetBy 140 = .ok (.iadd, 1) := by decide +kernel
theorem dX10_meetBy_141 : decode cX10_meetBy 141 = .ok (.iaload, 1) := by decide +kernel
theorem dX10_meetBy_142 : decode cX10_meetBy 142 = .ok (.if_icmp .ge 7, 3) := by decide +kernel
theorem dX10_meetBy_145 : decode cX10_meetBy 145 = .ok (.iconst 1, 1) := by decide +kernel
theorem dX10_meetBy_146 : decode cX10_meetBy 146 = .ok (.goto 4, 3) := by decide +kernel
theorem dX10_meetBy_149 : decode cX10_meetBy 149 = .ok (.iconst 0, 1) := by decide +kernel
theorem dX10_meetBy_150 : decode cX10_meetBy 150 = .ok (.istore 9, 2) := by decide +kernel
theorem dX10_meetBy_152 : decode cX10_meetBy 152 = .ok (.iload 9, 2) := by decide +kernel
theorem dX10_meetBy_154 : decode cX10_meetBy 154 = .ok (.ifCond .eq 31, 3) := by decide +kernel
theorem dX10_meetBy_157 : decode cX10_meetBy 157 = .ok (.iload 6, 2) := by decide +kernel
theorem dX10_meetBy_159 : decode cX10_meetBy 159 = .ok (.ifCond .eq 26, 3) := by decide +kernel
theorem dX10_meetBy_162 : decode cX10_meetBy 162 = .ok (.aload_n 0, 1) := by decide +kernel
theorem dX10_meetBy_163 : decode cX10_meetBy 163 = .ok (.getfield 19, 3) := by decide +kernel
theorem dX10_meetBy_166 : decode cX10_meetBy 166 = .ok (.iconst 2, 1) := by decide +kernel
theorem dX10_meetBy_167 : decode cX10_meetBy 167 = .ok (.iload_n 2, 1) := by decide +kernel
theorem dX10_meetBy_168 : decode cX10_meetBy 168 = .ok (.imul, 1) := by decide +kernel
theorem dX10_meetBy_169 : decode cX10_meetBy 169 = .ok (.iconst 1, 1) := by decide +kernel
theorem dX10_meetBy_170 : decode cX10_meetBy 170 = .ok (.iadd, 1) := by decide +kernel
theorem dX10_meetBy_171 : decode cX10_meetBy 171 = .ok (.iload 5, 2) := by decide +kernel
theorem dX10_meetBy_173 : decode cX10_meetBy 173 = .ok (.iload 7, 2) := by decide +kernel
theorem dX10_meetBy_175 : decode cX10_meetBy 175 = .ok (.ifCond .ne 7, 3) := by decide +kernel
theorem dX10_meetBy_178 : decode cX10_meetBy 178 = .ok (.iconst 1, 1) := by decide +kernel
theorem dX10_meetBy_179 : decode cX10_meetBy 179 = .ok (.goto 4, 3) := by decide +kernel
theorem dX10_meetBy_182 : decode cX10_meetBy 182 = .ok (.iconst (-1), 1) := by decide +kernel
theorem dX10_meetBy_183 : decode cX10_meetBy 183 = .ok (.iadd, 1) := by decide +kernel
theorem dX10_meetBy_184 : decode cX10_meetBy 184 = .ok (.iastore, 1) := by decide +kernel
theorem dX10_meetBy_185 : decode cX10_meetBy 185 = .ok (.iload 9, 2) := by decide +kernel
theorem dX10_meetBy_187 : decode cX10_meetBy 187 = .ok (.ifCond .eq 30, 3) := by decide +kernel
theorem dX10_meetBy_190 : decode cX10_meetBy 190 = .ok (.iload 6, 2) := by decide +kernel
theorem dX10_meetBy_192 : decode cX10_meetBy 192 = .ok (.ifCond .ne 25, 3) := by decide +kernel
theorem dX10_meetBy_195 : decode cX10_meetBy 195 = .ok (.aload_n 0, 1) := by decide +kernel
theorem dX10_meetBy_196 : decode cX10_meetBy 196 = .ok (.getfield 19, 3) := by decide +kernel
theorem dX10_meetBy_199 : decode cX10_meetBy 199 = .ok (.iconst 2, 1) := by decide +kernel
theorem dX10_meetBy_200 : decode cX10_meetBy 200 = .ok (.iload_n 2, 1) := by decide +kernel
theorem dX10_meetBy_201 : decode cX10_meetBy 201 = .ok (.imul, 1) := by decide +kernel
theorem dX10_meetBy_202 : decode cX10_meetBy 202 = .ok (.iload 4, 2) := by decide +kernel
theorem dX10_meetBy_204 : decode cX10_meetBy 204 = .ok (.iload 8, 2) := by decide +kernel
theorem dX10_meetBy_206 : decode cX10_meetBy 206 = .ok (.iconst 1, 1) := by decide +kernel
theorem dX10_meetBy_207 : decode cX10_meetBy 207 = .ok (.if_icmp .ne 7, 3) := by decide +kernel
theorem dX10_meetBy_210 : decode cX10_meetBy 210 = .ok (.iconst 1, 1) := by decide +kernel
theorem dX10_meetBy_211 : decode cX10_meetBy 211 = .ok (.goto 4, 3) := by decide +kernel
theorem dX10_meetBy_214 : decode cX10_meetBy 214 = .ok (.iconst (-1), 1) := by decide +kernel
theorem dX10_meetBy_215 : decode cX10_meetBy 215 = .ok (.iadd, 1) := by decide +kernel
theorem dX10_meetBy_216 : decode cX10_meetBy 216 = .ok (.iastore, 1) := by decide +kernel
theorem dX10_meetBy_217 : decode cX10_meetBy 217 = .ok (.return_, 1) := by decide +kernel
set_option maxRecDepth 20000 in
theorem ggX10_tongueBy_X10_isTold : GoodIn wsX10_tongueBy wsX10_isTold := goodIn_r _ [7, 2, 8, 9, 6, 10, 44, 45, 46, 47, 48, 49, 50, 51, 52, 53, 54, 55, 56] (by decide +kernel) (by decide +kernel)
set_option maxRecDepth 20000 in
theorem gX10_tongueBy_X10_isTold : GoodIn wsX10_tongueBy (wsV RX10 132 RX10 yX10_isTold wsX10_isTold) := goodIn_app (goodIn_of _ (by decide +kernel)) ggX10_tongueBy_X10_isTold
set_option maxRecDepth 20000 in
theorem ggX10_tongueBy_X10_isAlike : GoodIn wsX10_tongueBy wsX10_isAlike := goodIn_r _ [14, 2, 15, 16, 17, 6, 18, 19, 20, 8, 9, 10, 21, 22, 23, 24, 25, 26, 27, 28, 29, 30, 31, 32, 33, 34, 35, 36, 37, 38, 39, 40, 41, 42, 43, 44, 45, 46, 47, 48, 49, 50, 51, 52, 53, 54, 55, 56] (by decide +kernel) (by decide +kernel)
set_option maxRecDepth 20000 in
theorem gX10_tongueBy_X10_isAlike : GoodIn wsX10_tongueBy (wsV RX10 170 RX10 yX10_isAlike wsX10_isAlike) := goodIn_app (goodIn_of _ (by decide +kernel)) ggX10_tongueBy_X10_isAlike
theorem dX10_tongueBy_0 : decode cX10_tongueBy 0 = .ok (.iconst 0, 1) := by decide +kernel
theorem dX10_tongueBy_1 : decode cX10_tongueBy 1 = .ok (.istore_n 2, 1) := by decide +kernel
theorem dX10_tongueBy_2 : decode cX10_tongueBy 2 = .ok (.iconst 0, 1) := by decide +kernel
theorem dX10_tongueBy_3 : decode cX10_tongueBy 3 = .ok (.istore_n 3, 1) := by decide +kernel
theorem dX10_tongueBy_4 : decode cX10_tongueBy 4 = .ok (.iload_n 3, 1) := by decide +kernel
theorem dX10_tongueBy_5 : decode cX10_tongueBy 5 = .ok (.bipush 8, 2) := by decide +kernel
theorem dX10_tongueBy_7 : decode cX10_tongueBy 7 = .ok (.if_icmp .ge 117, 3) := by decide +kernel
theorem dX10_tongueBy_10 : decode cX10_tongueBy 10 = .ok (.aload_n 0, 1) := by decide +kernel
theorem dX10_tongueBy_11 : decode cX10_tongueBy 11 = .ok (.getfield 19, 3) := by decide +kernel
theorem dX10_tongueBy_14 : decode cX10_tongueBy 14 = .ok (.iconst 2, 1) := by decide +kernel
theorem dX10_tongueBy_15 : decode cX10_tongueBy 15 = .ok (.iload_n 3, 1) := by decide +kernel
theorem dX10_tongueBy_16 : decode cX10_tongueBy 16 = .ok (.imul, 1) := by decide +kernel
theorem dX10_tongueBy_17 : decode cX10_tongueBy 17 = .ok (.iaload, 1) := by decide +kernel
theorem dX10_tongueBy_18 : decode cX10_tongueBy 18 = .ok (.istore 4, 2) := by decide +kernel
theorem dX10_tongueBy_20 : decode cX10_tongueBy 20 = .ok (.aload_n 0, 1) := by decide +kernel
theorem dX10_tongueBy_21 : decode cX10_tongueBy 21 = .ok (.getfield 19, 3) := by decide +kernel
theorem dX10_tongueBy_24 : decode cX10_tongueBy 24 = .ok (.iconst 2, 1) := by decide +kernel
theorem dX10_tongueBy_25 : decode cX10_tongueBy 25 = .ok (.iload_n 3, 1) := by decide +kernel
theorem dX10_tongueBy_26 : decode cX10_tongueBy 26 = .ok (.imul, 1) := by decide +kernel
theorem dX10_tongueBy_27 : decode cX10_tongueBy 27 = .ok (.iconst 1, 1) := by decide +kernel
theorem dX10_tongueBy_28 : decode cX10_tongueBy 28 = .ok (.iadd, 1) := by decide +kernel
theorem dX10_tongueBy_29 : decode cX10_tongueBy 29 = .ok (.iaload, 1) := by decide +kernel
theorem dX10_tongueBy_30 : decode cX10_tongueBy 30 = .ok (.istore 5, 2) := by decide +kernel
theorem dX10_tongueBy_32 : decode cX10_tongueBy 32 = .ok (.iload_n 1, 1) := by decide +kernel
theorem dX10_tongueBy_33 : decode cX10_tongueBy 33 = .ok (.ifCond .ne 29, 3) := by decide +kernel
theorem dX10_tongueBy_36 : decode cX10_tongueBy 36 = .ok (.iload 4, 2) := by decide +kernel
theorem dX10_tongueBy_38 : decode cX10_tongueBy 38 = .ok (.ifCond .ne 20, 3) := by decide +kernel
theorem dX10_tongueBy_41 : decode cX10_tongueBy 41 = .ok (.iload 5, 2) := by decide +kernel
theorem dX10_tongueBy_43 : decode cX10_tongueBy 43 = .ok (.aload_n 0, 1) := by decide +kernel
theorem dX10_tongueBy_44 : decode cX10_tongueBy 44 = .ok (.getfield 16, 3) := by decide +kernel
theorem dX10_tongueBy_47 : decode cX10_tongueBy 47 = .ok (.sipush 299, 3) := by decide +kernel
theorem dX10_tongueBy_50 : decode cX10_tongueBy 50 = .ok (.iaload, 1) := by decide +kernel
theorem dX10_tongueBy_51 : decode cX10_tongueBy 51 = .ok (.if_icmp .ne 7, 3) := by decide +kernel
theorem dX10_tongueBy_54 : decode cX10_tongueBy 54 = .ok (.iconst 1, 1) := by decide +kernel
theorem dX10_tongueBy_55 : decode cX10_tongueBy 55 = .ok (.goto 30, 3) := by decide +kernel
theorem dX10_tongueBy_58 : decode cX10_tongueBy 58 = .ok (.iconst 0, 1) := by decide +kernel
theorem dX10_tongueBy_59 : decode cX10_tongueBy 59 = .ok (.goto 26, 3) := by decide +kernel
theorem dX10_tongueBy_62 : decode cX10_tongueBy 62 = .ok (.iload 4, 2) := by decide +kernel
theorem dX10_tongueBy_64 : decode cX10_tongueBy 64 = .ok (.aload_n 0, 1) := by decide +kernel
theorem dX10_tongueBy_65 : decode cX10_tongueBy 65 = .ok (.getfield 16, 3) := by decide +kernel
theorem dX10_tongueBy_68 : decode cX10_tongueBy 68 = .ok (.sipush 298, 3) := by decide +kernel
theorem dX10_tongueBy_71 : decode cX10_tongueBy 71 = .ok (.iaload, 1) := by decide +kernel
theorem dX10_tongueBy_72 : decode cX10_tongueBy 72 = .ok (.if_icmp .ne 12, 3) := by decide +kernel
theorem dX10_tongueBy_75 : decode cX10_tongueBy 75 = .ok (.iload 5, 2) := by decide +kernel
theorem dX10_tongueBy_77 : decode cX10_tongueBy 77 = .ok (.ifCond .ne 7, 3) := by decide +kernel
theorem dX10_tongueBy_80 : decode cX10_tongueBy 80 = .ok (.iconst 1, 1) := by decide +kernel
theorem dX10_tongueBy_81 : decode cX10_tongueBy 81 = .ok (.goto 4, 3) := by decide +kernel
theorem dX10_tongueBy_84 : decode cX10_tongueBy 84 = .ok (.iconst 0, 1) := by decide +kernel
theorem dX10_tongueBy_85 : decode cX10_tongueBy 85 = .ok (.istore 6, 2) := by decide +kernel
theorem dX10_tongueBy_87 : decode cX10_tongueBy 87 = .ok (.iload_n 2, 1) := by decide +kernel
theorem dX10_tongueBy_88 : decode cX10_tongueBy 88 = .ok (.aload_n 0, 1) := by decide +kernel
theorem dX10_tongueBy_89 : decode cX10_tongueBy 89 = .ok (.iload_n 3, 1) := by decide +kernel
theorem dX10_tongueBy_90 : decode cX10_tongueBy 90 = .ok (.invokevirtual 132, 3) := by decide +kernel
theorem dX10_tongueBy_93 : decode cX10_tongueBy 93 = .ok (.ifCond .eq 22, 3) := by decide +kernel
theorem dX10_tongueBy_96 : decode cX10_tongueBy 96 = .ok (.iload 6, 2) := by decide +kernel
theorem dX10_tongueBy_98 : decode cX10_tongueBy 98 = .ok (.ifCond .ne 11, 3) := by decide +kernel
theorem dX10_tongueBy_101 : decode cX10_tongueBy 101 = .ok (.aload_n 0, 1) := by decide +kernel
theorem dX10_tongueBy_102 : decode cX10_tongueBy 102 = .ok (.iload_n 3, 1) := by decide +kernel
theorem dX10_tongueBy_103 : decode cX10_tongueBy 103 = .ok (.invokevirtual 170, 3) := by decide +kernel
theorem dX10_tongueBy_106 : decode cX10_tongueBy 106 = .ok (.ifCond .eq 9, 3) := by decide +kernel
theorem dX10_tongueBy_109 : decode cX10_tongueBy 109 = .ok (.iconst 1, 1) := by decide +kernel
theorem dX10_tongueBy_110 : decode cX10_tongueBy 110 = .ok (.iload_n 3, 1) := by decide +kernel
theorem dX10_tongueBy_111 : decode cX10_tongueBy 111 = .ok (.ishl, 1) := by decide +kernel
theorem dX10_tongueBy_112 : decode cX10_tongueBy 112 = .ok (.goto 4, 3) := by decide +kernel
theorem dX10_tongueBy_115 : decode cX10_tongueBy 115 = .ok (.iconst 0, 1) := by decide +kernel
theorem dX10_tongueBy_116 : decode cX10_tongueBy 116 = .ok (.ior, 1) := by decide +kernel
theorem dX10_tongueBy_117 : decode cX10_tongueBy 117 = .ok (.istore_n 2, 1) := by decide +kernel
theorem dX10_tongueBy_118 : decode cX10_tongueBy 118 = .ok (.iinc 3 1, 3) := by decide +kernel
theorem dX10_tongueBy_121 : decode cX10_tongueBy 121 = .ok (.goto (-117), 3) := by decide +kernel
theorem dX10_tongueBy_124 : decode cX10_tongueBy 124 = .ok (.iload_n 2, 1) := by decide +kernel
theorem dX10_tongueBy_125 : decode cX10_tongueBy 125 = .ok (.ireturn, 1) := by decide +kernel
set_option maxRecDepth 20000 in
theorem ggX10_summer_X10_in : GoodIn wsX10_summer wsX10_in := goodIn_r _ [6] (by decide +kernel) (by decide +kernel)
set_option maxRecDepth 20000 in
theorem gX10_summer_X10_in : GoodIn wsX10_summer (va_wsS RX10 49 yX10_in wsX10_in) := goodIn_app (goodIn_of _ (by decide +kernel)) ggX10_summer_X10_in
set_option maxRecDepth 20000 in
theorem ggX10_summer_X10_isTold : GoodIn wsX10_summer wsX10_isTold := goodIn_r _ [10, 11, 12, 13, 5, 14, 68, 69, 70, 71, 72, 73, 74, 75, 76, 77, 78, 79, 80] (by decide +kernel) (by decide +kernel)
set_option maxRecDepth 20000 in
theorem gX10_summer_X10_isTold : GoodIn wsX10_summer (wsV RX10 132 RX10 yX10_isTold wsX10_isTold) := goodIn_app (goodIn_of _ (by decide +kernel)) ggX10_summer_X10_isTold
set_option maxRecDepth 20000 in
theorem ggX10_summer_X10_isAlike : GoodIn wsX10_summer wsX10_isAlike := goodIn_r _ [18, 11, 19, 20, 21, 5, 22, 23, 24, 12, 13, 14, 25, 26, 27, 28, 29, 30, 31, 32, 33, 34, 35, 36, 37, 38, 39, 40, 41, 42, 43, 44, 45, 46, 47, 68, 69, 70, 71, 72, 73, 74, 75, 76, 77, 78, 79, 80] (by decide +kernel) (by decide +kernel)
set_option maxRecDepth 20000 in
theorem gX10_summer_X10_isAlike : GoodIn wsX10_summer (wsV RX10 170 RX10 yX10_isAlike wsX10_isAlike) := goodIn_app (goodIn_of _ (by decide +kernel)) ggX10_summer_X10_isAlike
set_option maxRecDepth 20000 in
theorem ggX10_summer_X10_meetBy : GoodIn wsX10_summer wsX10_meetBy := goodIn_r _ [51, 52, 11, 53, 54, 5, 55, 56, 57, 58, 59, 60, 68, 69, 70, 71, 72, 73, 74, 75, 76, 77, 78, 79, 80] (by decide +kernel) (by decide +kernel)
set_option maxRecDepth 20000 in
theorem gX10_summer_X10_meetBy : GoodIn wsX10_summer (wsV RX10 221 RX10 yX10_meetBy wsX10_meetBy) := goodIn_app (goodIn_of _ (by decide +kernel)) ggX10_summer_X10_meetBy
set_option maxRecDepth 20000 in
theorem ggX10_summer_X10_tongueBy : GoodIn wsX10_summer wsX10_tongueBy := goodIn_r _ [64, 52, 11, 7, 8, 9, 5, 10, 12, 13, 14, 15, 16, 17, 18, 19, 20, 21, 22, 23, 24, 25, 26, 27, 28, 29, 30, 31, 32, 33, 34, 35, 36, 37, 38, 39, 40, 41, 42, 43, 44, 45, 46, 47, 68, 69, 70, 71, 72, 73, 74, 75, 76, 77, 78, 79, 80] (by decide +kernel) (by decide +kernel)
set_option maxRecDepth 20000 in
theorem gX10_summer_X10_tongueBy : GoodIn wsX10_summer (wsV RX10 225 RX10 yX10_tongueBy wsX10_tongueBy) := goodIn_app (goodIn_of _ (by decide +kernel)) ggX10_summer_X10_tongueBy
set_option maxRecDepth 20000 in
theorem ggX10_summer_X10_ones : GoodIn wsX10_summer wsX10_ones := goodIn_r _ [67] (by decide +kernel) (by decide +kernel)
set_option maxRecDepth 20000 in
theorem gX10_summer_X10_ones : GoodIn wsX10_summer (va_wsS RX10 125 yX10_ones wsX10_ones) := goodIn_app (goodIn_of _ (by decide +kernel)) ggX10_summer_X10_ones
theorem dX10_summer_0 : decode cX10_summer 0 = .ok (.iload_n 1, 1) := by decide +kernel
theorem dX10_summer_1 : decode cX10_summer 1 = .ok (.i2l, 1) := by decide +kernel
theorem dX10_summer_2 : decode cX10_summer 2 = .ok (.lconst 0, 1) := by decide +kernel
theorem dX10_summer_3 : decode cX10_summer 3 = .ok (.ldc2_w 217, 3) := by decide +kernel
theorem dX10_summer_6 : decode cX10_summer 6 = .ok (.invokestatic 49, 3) := by decide +kernel
theorem dX10_summer_9 : decode cX10_summer 9 = .ok (.ifCond .eq 15, 3) := by decide +kernel
theorem dX10_summer_12 : decode cX10_summer 12 = .ok (.iload_n 2, 1) := by decide +kernel
theorem dX10_summer_13 : decode cX10_summer 13 = .ok (.i2l, 1) := by decide +kernel
theorem dX10_summer_14 : decode cX10_summer 14 = .ok (.lconst 1, 1) := by decide +kernel
theorem dX10_summer_15 : decode cX10_summer 15 = .ok (.ldc2_w 219, 3) := by decide +kernel
theorem dX10_summer_18 : decode cX10_summer 18 = .ok (.invokestatic 49, 3) := by decide +kernel
theorem dX10_summer_21 : decode cX10_summer 21 = .ok (.ifCond .ne 5, 3) := by decide +kernel
theorem dX10_summer_24 : decode cX10_summer 24 = .ok (.iconst (-1), 1) := by decide +kernel
theorem dX10_summer_25 : decode cX10_summer 25 = .ok (.ireturn, 1) := by decide +kernel
theorem dX10_summer_26 : decode cX10_summer 26 = .ok (.iconst 0, 1) := by decide +kernel
theorem dX10_summer_27 : decode cX10_summer 27 = .ok (.istore_n 3, 1) := by decide +kernel
theorem dX10_summer_28 : decode cX10_summer 28 = .ok (.iload_n 3, 1) := by decide +kernel
theorem dX10_summer_29 : decode cX10_summer 29 = .ok (.bipush 8, 2) := by decide +kernel
theorem dX10_summer_31 : decode cX10_summer 31 = .ok (.if_icmp .ge 60, 3) := by decide +kernel
theorem dX10_summer_34 : decode cX10_summer 34 = .ok (.aload_n 0, 1) := by decide +kernel
theorem dX10_summer_35 : decode cX10_summer 35 = .ok (.iload_n 3, 1) := by decide +kernel
theorem dX10_summer_36 : decode cX10_summer 36 = .ok (.invokevirtual 132, 3) := by decide +kernel
theorem dX10_summer_39 : decode cX10_summer 39 = .ok (.ifCond .eq 15, 3) := by decide +kernel
theorem dX10_summer_42 : decode cX10_summer 42 = .ok (.aload_n 0, 1) := by decide +kernel
theorem dX10_summer_43 : decode cX10_summer 43 = .ok (.iload_n 3, 1) := by decide +kernel
theorem dX10_summer_44 : decode cX10_summer 44 = .ok (.invokevirtual 170, 3) := by decide +kernel
theorem dX10_summer_47 : decode cX10_summer 47 = .ok (.ifCond .ne 7, 3) := by decide +kernel
theorem dX10_summer_50 : decode cX10_summer 50 = .ok (.iconst 1, 1) := by decide +kernel
theorem dX10_summer_51 : decode cX10_summer 51 = .ok (.goto 4, 3) := by decide +kernel
theorem dX10_summer_54 : decode cX10_summer 54 = .ok (.iconst 0, 1) := by decide +kernel
theorem dX10_summer_55 : decode cX10_summer 55 = .ok (.istore 4, 2) := by decide +kernel
theorem dX10_summer_57 : decode cX10_summer 57 = .ok (.iconst 0, 1) := by decide +kernel
theorem dX10_summer_58 : decode cX10_summer 58 = .ok (.istore 5, 2) := by decide +kernel
theorem dX10_summer_60 : decode cX10_summer 60 = .ok (.iload 5, 2) := by decide +kernel
theorem dX10_summer_62 : decode cX10_summer 62 = .ok (.iload_n 2, 1) := by decide +kernel
theorem dX10_summer_63 : decode cX10_summer 63 = .ok (.if_icmp .ge 22, 3) := by decide +kernel
theorem dX10_summer_66 : decode cX10_summer 66 = .ok (.iload 4, 2) := by decide +kernel
theorem dX10_summer_68 : decode cX10_summer 68 = .ok (.ifCond .eq 17, 3) := by decide +kernel
theorem dX10_summer_71 : decode cX10_summer 71 = .ok (.aload_n 0, 1) := by decide +kernel
theorem dX10_summer_72 : decode cX10_summer 72 = .ok (.iload_n 1, 1) := by decide +kernel
theorem dX10_summer_73 : decode cX10_summer 73 = .ok (.iload_n 3, 1) := by decide +kernel
theorem dX10_summer_74 : decode cX10_summer 74 = .ok (.iload 5, 2) := by decide +kernel
theorem dX10_summer_76 : decode cX10_summer 76 = .ok (.invokevirtual 221, 3) := by decide +kernel
theorem dX10_summer_79 : decode cX10_summer 79 = .ok (.iinc 5 1, 3) := by decide +kernel
theorem dX10_summer_82 : decode cX10_summer 82 = .ok (.goto (-22), 3) := by decide +kernel
theorem dX10_summer_85 : decode cX10_summer 85 = .ok (.iinc 3 1, 3) := by decide +kernel
theorem dX10_summer_88 : decode cX10_summer 88 = .ok (.goto (-60), 3) := by decide +kernel
theorem dX10_summer_91 : decode cX10_summer 91 = .ok (.aload_n 0, 1) := by decide +kernel
theorem dX10_summer_92 : decode cX10_summer 92 = .ok (.iconst 0, 1) := by decide +kernel
theorem dX10_summer_93 : decode cX10_summer 93 = .ok (.invokevirtual 225, 3) := by decide +kernel
theorem dX10_summer_96 : decode cX10_summer 96 = .ok (.aload_n 0, 1) := by decide +kernel
theorem dX10_summer_97 : decode cX10_summer 97 = .ok (.iconst 1, 1) := by decide +kernel
theorem dX10_summer_98 : decode cX10_summer 98 = .ok (.invokevirtual 225, 3) := by decide +kernel
theorem dX10_summer_101 : decode cX10_summer 101 = .ok (.ior, 1) := by decide +kernel
theorem dX10_summer_102 : decode cX10_summer 102 = .ok (.invokestatic 125, 3) := by decide +kernel
theorem dX10_summer_105 : decode cX10_summer 105 = .ok (.ireturn, 1) := by decide +kernel
set_option maxRecDepth 20000 in
theorem ggX10_tongue_X10_in : GoodIn wsX10_tongue wsX10_in := goodIn_r _ [4] (by decide +kernel) (by decide +kernel)
set_option maxRecDepth 20000 in
theorem gX10_tongue_X10_in : GoodIn wsX10_tongue (va_wsS RX10 49 yX10_in wsX10_in) := goodIn_app (goodIn_of _ (by decide +kernel)) ggX10_tongue_X10_in
set_option maxRecDepth 20000 in
theorem ggX10_tongue_X10_tongueBy : GoodIn wsX10_tongue wsX10_tongueBy := goodIn_r _ [8, 9, 10, 11, 12, 13, 3, 14, 15, 16, 17, 18, 19, 20, 21, 22, 23, 24, 25, 26, 27, 28, 29, 30, 31, 32, 33, 34, 35, 36, 37, 38, 39, 40, 41, 42, 43, 44, 45, 46, 47, 48, 49, 50, 51, 52, 53, 54, 55, 56, 57, 58, 59, 60, 61, 62, 63] (by decide +kernel) (by decide +kernel)
set_option maxRecDepth 20000 in
theorem gX10_tongue_X10_tongueBy : GoodIn wsX10_tongue (wsV RX10 225 RX10 yX10_tongueBy wsX10_tongueBy) := goodIn_app (goodIn_of _ (by decide +kernel)) ggX10_tongue_X10_tongueBy
theorem dX10_tongue_0 : decode cX10_tongue 0 = .ok (.iload_n 1, 1) := by decide +kernel
theorem dX10_tongue_1 : decode cX10_tongue 1 = .ok (.i2l, 1) := by decide +kernel
theorem dX10_tongue_2 : decode cX10_tongue 2 = .ok (.lconst 0, 1) := by decide +kernel
theorem dX10_tongue_3 : decode cX10_tongue 3 = .ok (.lconst 1, 1) := by decide +kernel
theorem dX10_tongue_4 : decode cX10_tongue 4 = .ok (.invokestatic 49, 3) := by decide +kernel
theorem dX10_tongue_7 : decode cX10_tongue 7 = .ok (.ifCond .eq 11, 3) := by decide +kernel
theorem dX10_tongue_10 : decode cX10_tongue 10 = .ok (.aload_n 0, 1) := by decide +kernel
theorem dX10_tongue_11 : decode cX10_tongue 11 = .ok (.iload_n 1, 1) := by decide +kernel
theorem dX10_tongue_12 : decode cX10_tongue 12 = .ok (.invokevirtual 225, 3) := by decide +kernel
theorem dX10_tongue_15 : decode cX10_tongue 15 = .ok (.goto 4, 3) := by decide +kernel
theorem dX10_tongue_18 : decode cX10_tongue 18 = .ok (.iconst (-1), 1) := by decide +kernel
theorem dX10_tongue_19 : decode cX10_tongue 19 = .ok (.ireturn, 1) := by decide +kernel
set_option maxRecDepth 20000 in
theorem ggX10_from_X10_in : GoodIn wsX10_from wsX10_in := goodIn_r _ [8] (by decide +kernel) (by decide +kernel)
set_option maxRecDepth 20000 in
theorem gX10_from_X10_in : GoodIn wsX10_from (va_wsS RX10 49 yX10_in wsX10_in) := goodIn_app (goodIn_of _ (by decide +kernel)) ggX10_from_X10_in
set_option maxRecDepth 20000 in
theorem ggX10_from_X10_isMeaning : GoodIn wsX10_from wsX10_isMeaning := goodIn_r _ [11, 12, 5, 6, 7, 8] (by decide +kernel) (by decide +kernel)
set_option maxRecDepth 20000 in
theorem gX10_from_X10_isMeaning : GoodIn wsX10_from (va_wsS RX10 159 yX10_isMeaning wsX10_isMeaning) := goodIn_app (goodIn_of _ (by decide +kernel)) ggX10_from_X10_isMeaning
set_option maxRecDepth 20000 in
theorem ggX10_from_X10_earAt : GoodIn wsX10_from wsX10_earAt := goodIn_r _ [15] (by decide +kernel) (by decide +kernel)
set_option maxRecDepth 20000 in
theorem gX10_from_X10_earAt : GoodIn wsX10_from (va_wsS RX10 230 yX10_earAt wsX10_earAt) := goodIn_app (goodIn_of _ (by decide +kernel)) ggX10_from_X10_earAt
set_option maxRecDepth 20000 in
theorem ggX10_from_X10_say : GoodIn wsX10_from wsX10_say := goodIn_r _ [19, 2, 20, 21, 22, 7, 23, 24, 25, 26, 42, 43, 44, 45, 46, 47, 48, 49, 50, 51, 52, 53, 54] (by decide +kernel) (by decide +kernel)
set_option maxRecDepth 20000 in
theorem gX10_from_X10_say : GoodIn wsX10_from (wsV RX10 149 RX10 yX10_say wsX10_say) := goodIn_app (goodIn_of _ (by decide +kernel)) ggX10_from_X10_say
set_option maxRecDepth 20000 in
theorem ggX10_from_X10_wordAt : GoodIn wsX10_from wsX10_wordAt := goodIn_r _ [29] (by decide +kernel) (by decide +kernel)
set_option maxRecDepth 20000 in
theorem gX10_from_X10_wordAt : GoodIn wsX10_from (va_wsS RX10 129 yX10_wordAt wsX10_wordAt) := goodIn_app (goodIn_of _ (by decide +kernel)) ggX10_from_X10_wordAt
set_option maxRecDepth 20000 in
theorem ggX10_from_X10_likeOf : GoodIn wsX10_from wsX10_likeOf := goodIn_r _ [33, 3, 4, 34, 35, 36, 7, 37, 38, 39, 40, 41, 42, 43, 44, 45, 46, 47, 48, 49, 50, 51, 52, 53, 54] (by decide +kernel) (by decide +kernel)
set_option maxRecDepth 20000 in
theorem gX10_from_X10_likeOf : GoodIn wsX10_from (wsV RX10 153 RX10 yX10_likeOf wsX10_likeOf) := goodIn_app (goodIn_of _ (by decide +kernel)) ggX10_from_X10_likeOf
theorem dX10_from_0 : decode cX10_from 0 = .ok (.iload_n 1, 1) := by decide +kernel
theorem dX10_from_1 : decode cX10_from 1 = .ok (.i2l, 1) := by decide +kernel
theorem dX10_from_2 : decode cX10_from 2 = .ok (.lconst 0, 1) := by decide +kernel
theorem dX10_from_3 : decode cX10_from 3 = .ok (.ldc2_w 228, 3) := by decide +kernel
theorem dX10_from_6 : decode cX10_from 6 = .ok (.invokestatic 49, 3) := by decide +kernel
theorem dX10_from_9 : decode cX10_from 9 = .ok (.ifCond .eq 10, 3) := by decide +kernel
theorem dX10_from_12 : decode cX10_from 12 = .ok (.iload_n 2, 1) := by decide +kernel
theorem dX10_from_13 : decode cX10_from 13 = .ok (.invokestatic 159, 3) := by decide +kernel
theorem dX10_from_16 : decode cX10_from 16 = .ok (.ifCond .ne 5, 3) := by decide +kernel
theorem dX10_from_19 : decode cX10_from 19 = .ok (.iconst (-1), 1) := by decide +kernel
theorem dX10_from_20 : decode cX10_from 20 = .ok (.ireturn, 1) := by decide +kernel
theorem dX10_from_21 : decode cX10_from 21 = .ok (.aload_n 0, 1) := by decide +kernel
theorem dX10_from_22 : decode cX10_from 22 = .ok (.getfield 16, 3) := by decide +kernel
theorem dX10_from_25 : decode cX10_from 25 = .ok (.iload_n 1, 1) := by decide +kernel
theorem dX10_from_26 : decode cX10_from 26 = .ok (.iload_n 2, 1) := by decide +kernel
theorem dX10_from_27 : decode cX10_from 27 = .ok (.invokestatic 230, 3) := by decide +kernel
theorem dX10_from_30 : decode cX10_from 30 = .ok (.iaload, 1) := by decide +kernel
theorem dX10_from_31 : decode cX10_from 31 = .ok (.ifCond .ne 6, 3) := by decide +kernel
theorem dX10_from_34 : decode cX10_from 34 = .ok (.bipush (-2), 2) := by decide +kernel
theorem dX10_from_36 : decode cX10_from 36 = .ok (.ireturn, 1) := by decide +kernel
theorem dX10_from_37 : decode cX10_from 37 = .ok (.bipush (-4), 2) := by decide +kernel
theorem dX10_from_39 : decode cX10_from 39 = .ok (.istore_n 3, 1) := by decide +kernel
theorem dX10_from_40 : decode cX10_from 40 = .ok (.iconst 0, 1) := by decide +kernel
theorem dX10_from_41 : decode cX10_from 41 = .ok (.istore 4, 2) := by decide +kernel
theorem dX10_from_43 : decode cX10_from 43 = .ok (.iconst 0, 1) := by decide +kernel
theorem dX10_from_44 : decode cX10_from 44 = .ok (.istore 5, 2) := by decide +kernel
theorem dX10_from_46 : decode cX10_from 46 = .ok (.iload 5, 2) := by decide +kernel
theorem dX10_from_48 : decode cX10_from 48 = .ok (.iconst 2, 1) := by decide +kernel
theorem dX10_from_49 : decode cX10_from 49 = .ok (.if_icmp .ge 103, 3) := by decide +kernel
theorem dX10_from_52 : decode cX10_from 52 = .ok (.aload_n 0, 1) := by decide +kernel
theorem dX10_from_53 : decode cX10_from 53 = .ok (.iload_n 1, 1) := by decide +kernel
theorem dX10_from_54 : decode cX10_from 54 = .ok (.iload_n 2, 1) := by decide +kernel
theorem dX10_from_55 : decode cX10_from 55 = .ok (.invokestatic 230, 3) := by decide +kernel
theorem dX10_from_58 : decode cX10_from 58 = .ok (.iconst (-1), 1) := by decide +kernel
theorem dX10_from_59 : decode cX10_from 59 = .ok (.aload_n 0, 1) := by decide +kernel
theorem dX10_from_60 : decode cX10_from 60 = .ok (.getfield 25, 3) := by decide +kernel
theorem dX10_from_63 : decode cX10_from 63 = .ok (.invokevirtual 149, 3) := by decide +kernel
theorem dX10_from_66 : decode cX10_from 66 = .ok (.aload_n 0, 1) := by decide +kernel
theorem dX10_from_67 : decode cX10_from 67 = .ok (.iload 5, 2) := by decide +kernel
theorem dX10_from_69 : decode cX10_from 69 = .ok (.iload_n 2, 1) := by decide +kernel
theorem dX10_from_70 : decode cX10_from 70 = .ok (.invokestatic 129, 3) := by decide +kernel
theorem dX10_from_73 : decode cX10_from 73 = .ok (.iconst (-1), 1) := by decide +kernel
theorem dX10_from_74 : decode cX10_from 74 = .ok (.aload_n 0, 1) := by decide +kernel
theorem dX10_from_75 : decode cX10_from 75 = .ok (.getfield 28, 3) := by decide +kernel
theorem dX10_from_78 : decode cX10_from 78 = .ok (.invokevirtual 149, 3) := by decide +kernel
theorem dX10_from_81 : decode cX10_from 81 = .ok (.aload_n 0, 1) := by decide +kernel
theorem dX10_from_82 : decode cX10_from 82 = .ok (.getfield 28, 3) := by decide +kernel
theorem dX10_from_85 : decode cX10_from 85 = .ok (.iconst 0, 1) := by decide +kernel
theorem dX10_from_86 : decode cX10_from 86 = .ok (.iaload, 1) := by decide +kernel
theorem dX10_from_87 : decode cX10_from 87 = .ok (.ifCond .ne 7, 3) := by decide +kernel
theorem dX10_from_90 : decode cX10_from 90 = .ok (.iconst (-1), 1) := by decide +kernel
theorem dX10_from_91 : decode cX10_from 91 = .ok (.goto 7, 3) := by decide +kernel
theorem dX10_from_94 : decode cX10_from 94 = .ok (.aload_n 0, 1) := by decide +kernel
theorem dX10_from_95 : decode cX10_from 95 = .ok (.invokevirtual 153, 3) := by decide +kernel
theorem dX10_from_98 : decode cX10_from 98 = .ok (.istore 6, 2) := by decide +kernel
theorem dX10_from_100 : decode cX10_from 100 = .ok (.iload 6, 2) := by decide +kernel
theorem dX10_from_102 : decode cX10_from 102 = .ok (.aload_n 0, 1) := by decide +kernel
theorem dX10_from_103 : decode cX10_from 103 = .ok (.getfield 16, 3) := by decide +kernel
theorem dX10_from_106 : decode cX10_from 106 = .ok (.sipush 303, 3) := by decide +kernel
theorem dX10_from_109 : decode cX10_from 109 = .ok (.iaload, 1) := by decide +kernel
theorem dX10_from_110 : decode cX10_from 110 = .ok (.if_icmp .lt 19, 3) := by decide +kernel
theorem dX10_from_113 : decode cX10_from 113 = .ok (.iload_n 3, 1) := by decide +kernel
theorem dX10_from_114 : decode cX10_from 114 = .ok (.ifCond .lt 10, 3) := by decide +kernel
theorem dX10_from_117 : decode cX10_from 117 = .ok (.iload 6, 2) := by decide +kernel
theorem dX10_from_119 : decode cX10_from 119 = .ok (.iload 4, 2) := by decide +kernel
theorem dX10_from_121 : decode cX10_from 121 = .ok (.if_icmp .le 8, 3) := by decide +kernel
theorem dX10_from_124 : decode cX10_from 124 = .ok (.iload 5, 2) := by decide +kernel
theorem dX10_from_126 : decode cX10_from 126 = .ok (.goto 4, 3) := by decide +kernel
theorem dX10_from_129 : decode cX10_from 129 = .ok (.iload_n 3, 1) := by decide +kernel
theorem dX10_from_130 : decode cX10_from 130 = .ok (.istore_n 3, 1) := by decide +kernel
theorem dX10_from_131 : decode cX10_from 131 = .ok (.iload_n 3, 1) := by decide +kernel
theorem dX10_from_132 : decode cX10_from 132 = .ok (.iload 5, 2) := by decide +kernel
theorem dX10_from_134 : decode cX10_from 134 = .ok (.if_icmp .ne 8, 3) := by decide +kernel
theorem dX10_from_137 : decode cX10_from 137 = .ok (.iload 6, 2) := by decide +kernel
theorem dX10_from_139 : decode cX10_from 139 = .ok (.goto 5, 3) := by decide +kernel
theorem dX10_from_142 : decode cX10_from 142 = .ok (.iload 4, 2) := by decide +kernel
theorem dX10_from_144 : decode cX10_from 144 = .ok (.istore 4, 2) := by decide +kernel
theorem dX10_from_146 : decode cX10_from 146 = .ok (.iinc 5 1, 3) := by decide +kernel
theorem dX10_from_149 : decode cX10_from 149 = .ok (.goto (-103), 3) := by decide +kernel
theorem dX10_from_152 : decode cX10_from 152 = .ok (.iload_n 3, 1) := by decide +kernel
theorem dX10_from_153 : decode cX10_from 153 = .ok (.ireturn, 1) := by decide +kernel
set_option maxRecDepth 20000 in
theorem ggX10_chance_X10_in : GoodIn wsX10_chance wsX10_in := goodIn_r _ [8] (by decide +kernel) (by decide +kernel)
set_option maxRecDepth 20000 in
theorem gX10_chance_X10_in : GoodIn wsX10_chance (va_wsS RX10 49 yX10_in wsX10_in) := goodIn_app (goodIn_of _ (by decide +kernel)) ggX10_chance_X10_in
set_option maxRecDepth 20000 in
theorem ggX10_chance_X10_earAt : GoodIn wsX10_chance wsX10_earAt := goodIn_r _ [11] (by decide +kernel) (by decide +kernel)
set_option maxRecDepth 20000 in
theorem gX10_chance_X10_earAt : GoodIn wsX10_chance (va_wsS RX10 230 yX10_earAt wsX10_earAt) := goodIn_app (goodIn_of _ (by decide +kernel)) ggX10_chance_X10_earAt
set_option maxRecDepth 20000 in
theorem ggX10_chance_X10_wordAt : GoodIn wsX10_chance wsX10_wordAt := goodIn_r _ [14] (by decide +kernel) (by decide +kernel)
set_option maxRecDepth 20000 in
theorem gX10_chance_X10_wordAt : GoodIn wsX10_chance (va_wsS RX10 129 yX10_wordAt wsX10_wordAt) := goodIn_app (goodIn_of _ (by decide +kernel)) ggX10_chance_X10_wordAt
set_option maxRecDepth 20000 in
theorem ggX10_chance_X10_say : GoodIn wsX10_chance wsX10_say := goodIn_r _ [18, 2, 19, 20, 21, 7, 22, 23, 24, 25, 38, 39, 40, 41, 42, 43, 44, 45, 46, 47, 48, 49, 50] (by decide +kernel) (by decide +kernel)
set_option maxRecDepth 20000 in
theorem gX10_chance_X10_say : GoodIn wsX10_chance (wsV RX10 149 RX10 yX10_say wsX10_say) := goodIn_app (goodIn_of _ (by decide +kernel)) ggX10_chance_X10_say
set_option maxRecDepth 20000 in
theorem ggX10_chance_X10_likeOf : GoodIn wsX10_chance wsX10_likeOf := goodIn_r _ [29, 3, 4, 30, 31, 32, 7, 33, 34, 35, 36, 37, 38, 39, 40, 41, 42, 43, 44, 45, 46, 47, 48, 49, 50] (by decide +kernel) (by decide +kernel)
set_option maxRecDepth 20000 in
theorem gX10_chance_X10_likeOf : GoodIn wsX10_chance (wsV RX10 153 RX10 yX10_likeOf wsX10_likeOf) := goodIn_app (goodIn_of _ (by decide +kernel)) ggX10_chance_X10_likeOf
theorem dX10_chance_0 : decode cX10_chance 0 = .ok (.iload_n 1, 1) := by decide +kernel
theorem dX10_chance_1 : decode cX10_chance 1 = .ok (.i2l, 1) := by decide +kernel
theorem dX10_chance_2 : decode cX10_chance 2 = .ok (.lconst 0, 1) := by decide +kernel
theorem dX10_chance_3 : decode cX10_chance 3 = .ok (.ldc2_w 228, 3) := by decide +kernel
theorem dX10_chance_6 : decode cX10_chance 6 = .ok (.invokestatic 49, 3) := by decide +kernel
theorem dX10_chance_9 : decode cX10_chance 9 = .ok (.ifCond .eq 23, 3) := by decide +kernel
theorem dX10_chance_12 : decode cX10_chance 12 = .ok (.iload_n 2, 1) := by decide +kernel
theorem dX10_chance_13 : decode cX10_chance 13 = .ok (.i2l, 1) := by decide +kernel
theorem dX10_chance_14 : decode cX10_chance 14 = .ok (.lconst 0, 1) := by decide +kernel
theorem dX10_chance_15 : decode cX10_chance 15 = .ok (.lconst 1, 1) := by decide +kernel
theorem dX10_chance_16 : decode cX10_chance 16 = .ok (.invokestatic 49, 3) := by decide +kernel
theorem dX10_chance_19 : decode cX10_chance 19 = .ok (.ifCond .eq 13, 3) := by decide +kernel
theorem dX10_chance_22 : decode cX10_chance 22 = .ok (.iload_n 3, 1) := by decide +kernel
theorem dX10_chance_23 : decode cX10_chance 23 = .ok (.i2l, 1) := by decide +kernel
theorem dX10_chance_24 : decode cX10_chance 24 = .ok (.lconst 0, 1) := by decide +kernel
theorem dX10_chance_25 : decode cX10_chance 25 = .ok (.lconst 1, 1) := by decide +kernel
theorem dX10_chance_26 : decode cX10_chance 26 = .ok (.invokestatic 49, 3) := by decide +kernel
theorem dX10_chance_29 : decode cX10_chance 29 = .ok (.ifCond .ne 5, 3) := by decide +kernel
theorem dX10_chance_32 : decode cX10_chance 32 = .ok (.iconst (-1), 1) := by decide +kernel
theorem dX10_chance_33 : decode cX10_chance 33 = .ok (.ireturn, 1) := by decide +kernel
theorem dX10_chance_34 : decode cX10_chance 34 = .ok (.iconst 0, 1) := by decide +kernel
theorem dX10_chance_35 : decode cX10_chance 35 = .ok (.istore 4, 2) := by decide +kernel
theorem dX10_chance_37 : decode cX10_chance 37 = .ok (.iconst 0, 1) := by decide +kernel
theorem dX10_chance_38 : decode cX10_chance 38 = .ok (.istore 5, 2) := by decide +kernel
theorem dX10_chance_40 : decode cX10_chance 40 = .ok (.iconst 0, 1) := by decide +kernel
theorem dX10_chance_41 : decode cX10_chance 41 = .ok (.istore 6, 2) := by decide +kernel
theorem dX10_chance_43 : decode cX10_chance 43 = .ok (.iload 6, 2) := by decide +kernel
theorem dX10_chance_45 : decode cX10_chance 45 = .ok (.bipush 8, 2) := by decide +kernel
theorem dX10_chance_47 : decode cX10_chance 47 = .ok (.if_icmp .ge 118, 3) := by decide +kernel
theorem dX10_chance_50 : decode cX10_chance 50 = .ok (.iconst 0, 1) := by decide +kernel
theorem dX10_chance_51 : decode cX10_chance 51 = .ok (.istore 7, 2) := by decide +kernel
theorem dX10_chance_53 : decode cX10_chance 53 = .ok (.iload 7, 2) := by decide +kernel
theorem dX10_chance_55 : decode cX10_chance 55 = .ok (.bipush 8, 2) := by decide +kernel
theorem dX10_chance_57 : decode cX10_chance 57 = .ok (.if_icmp .ge 102, 3) := by decide +kernel
theorem dX10_chance_60 : decode cX10_chance 60 = .ok (.iload 6, 2) := by decide +kernel
theorem dX10_chance_62 : decode cX10_chance 62 = .ok (.iload 7, 2) := by decide +kernel
theorem dX10_chance_64 : decode cX10_chance 64 = .ok (.if_icmp .eq 89, 3) := by decide +kernel
theorem dX10_chance_67 : decode cX10_chance 67 = .ok (.aload_n 0, 1) := by decide +kernel
theorem dX10_chance_68 : decode cX10_chance 68 = .ok (.getfield 16, 3) := by decide +kernel
theorem dX10_chance_71 : decode cX10_chance 71 = .ok (.iload_n 1, 1) := by decide +kernel
theorem dX10_chance_72 : decode cX10_chance 72 = .ok (.iload 6, 2) := by decide +kernel
theorem dX10_chance_74 : decode cX10_chance 74 = .ok (.invokestatic 230, 3) := by decide +kernel
theorem dX10_chance_77 : decode cX10_chance 77 = .ok (.iaload, 1) := by decide +kernel
theorem dX10_chance_78 : decode cX10_chance 78 = .ok (.ifCond .le 75, 3) := by decide +kernel
theorem dX10_chance_81 : decode cX10_chance 81 = .ok (.aload_n 0, 1) := by decide +kernel
theorem dX10_chance_82 : decode cX10_chance 82 = .ok (.getfield 16, 3) := by decide +kernel
theorem dX10_chance_85 : decode cX10_chance 85 = .ok (.iload_n 2, 1) := by decide +kernel
theorem dX10_chance_86 : decode cX10_chance 86 = .ok (.iload 7, 2) := by decide +kernel
theorem dX10_chance_88 : decode cX10_chance 88 = .ok (.invokestatic 129, 3) := by decide +kernel
theorem dX10_chance_91 : decode cX10_chance 91 = .ok (.iaload, 1) := by decide +kernel
theorem dX10_chance_92 : decode cX10_chance 92 = .ok (.ifCond .le 61, 3) := by decide +kernel
theorem dX10_chance_95 : decode cX10_chance 95 = .ok (.aload_n 0, 1) := by decide +kernel
theorem dX10_chance_96 : decode cX10_chance 96 = .ok (.iload_n 1, 1) := by decide +kernel
theorem dX10_chance_97 : decode cX10_chance 97 = .ok (.iload 6, 2) := by decide +kernel
theorem dX10_chance_99 : decode cX10_chance 99 = .ok (.invokestatic 230, 3) := by decide +kernel
theorem dX10_chance_102 : decode cX10_chance 102 = .ok (.iconst (-1), 1) := by decide +kernel
theorem dX10_chance_103 : decode cX10_chance 103 = .ok (.aload_n 0, 1) := by decide +kernel
theorem dX10_chance_104 : decode cX10_chance 104 = .ok (.getfield 25, 3) := by decide +kernel
theorem dX10_chance_107 : decode cX10_chance 107 = .ok (.invokevirtual 149, 3) := by decide +kernel
theorem dX10_chance_110 : decode cX10_chance 110 = .ok (.aload_n 0, 1) := by decide +kernel
theorem dX10_chance_111 : decode cX10_chance 111 = .ok (.iload_n 2, 1) := by decide +kernel
theorem dX10_chance_112 : decode cX10_chance 112 = .ok (.iload 7, 2) := by decide +kernel
theorem dX10_chance_114 : decode cX10_chance 114 = .ok (.invokestatic 129, 3) := by decide +kernel
theorem dX10_chance_117 : decode cX10_chance 117 = .ok (.iconst (-1), 1) := by decide +kernel
theorem dX10_chance_118 : decode cX10_chance 118 = .ok (.aload_n 0, 1) := by decide +kernel
theorem dX10_chance_119 : decode cX10_chance 119 = .ok (.getfield 28, 3) := by decide +kernel
theorem dX10_chance_122 : decode cX10_chance 122 = .ok (.invokevirtual 149, 3) := by decide +kernel
theorem dX10_chance_125 : decode cX10_chance 125 = .ok (.iinc 5 1, 3) := by decide +kernel
theorem dX10_chance_128 : decode cX10_chance 128 = .ok (.iload 4, 2) := by decide +kernel
theorem dX10_chance_130 : decode cX10_chance 130 = .ok (.aload_n 0, 1) := by decide +kernel
theorem dX10_chance_131 : decode cX10_chance 131 = .ok (.invokevirtual 153, 3) := by decide +kernel
theorem dX10_chance_134 : decode cX10_chance 134 = .ok (.aload_n 0, 1) := by decide +kernel
theorem dX10_chance_135 : decode cX10_chance 135 = .ok (.getfield 16, 3) := by decide +kernel
theorem dX10_chance_138 : decode cX10_chance 138 = .ok (.sipush 303, 3) := by decide +kernel
theorem dX10_chance_141 : decode cX10_chance 141 = .ok (.iaload, 1) := by decide +kernel
theorem dX10_chance_142 : decode cX10_chance 142 = .ok (.if_icmp .lt 7, 3) := by decide +kernel
theorem dX10_chance_145 : decode cX10_chance 145 = .ok (.iconst 1, 1) := by decide +kernel
theorem dX10_chance_146 : decode cX10_chance 146 = .ok (.goto 4, 3) := by decide +kernel
theorem dX10_chance_149 : decode cX10_chance 149 = .ok (.iconst 0, 1) := by decide +kernel
theorem dX10_chance_150 : decode cX10_chance 150 = .ok (.iadd, 1) := by decide +kernel
theorem dX10_chance_151 : decode cX10_chance 151 = .ok (.istore 4, 2) := by decide +kernel
theorem dX10_chance_153 : decode cX10_chance 153 = .ok (.iinc 7 1, 3) := by decide +kernel
theorem dX10_chance_156 : decode cX10_chance 156 = .ok (.goto (-103), 3) := by decide +kernel
theorem dX10_chance_159 : decode cX10_chance 159 = .ok (.iinc 6 1, 3) := by decide +kernel
theorem dX10_chance_162 : decode cX10_chance 162 = .ok (.goto (-119), 3) := by decide +kernel
theorem dX10_chance_165 : decode cX10_chance 165 = .ok (.iload_n 3, 1) := by decide +kernel
theorem dX10_chance_166 : decode cX10_chance 166 = .ok (.ifCond .ne 8, 3) := by decide +kernel
theorem dX10_chance_169 : decode cX10_chance 169 = .ok (.iload 4, 2) := by decide +kernel
theorem dX10_chance_171 : decode cX10_chance 171 = .ok (.goto 5, 3) := by decide +kernel
theorem dX10_chance_174 : decode cX10_chance 174 = .ok (.iload 5, 2) := by decide +kernel
theorem dX10_chance_176 : decode cX10_chance 176 = .ok (.ireturn, 1) := by decide +kernel
set_option maxRecDepth 20000 in
theorem ggX10_joined_X10_isMeaning : GoodIn wsX10_joined wsX10_isMeaning := goodIn_r _ [7, 8, 9, 10, 6, 11] (by decide +kernel) (by decide +kernel)
set_option maxRecDepth 20000 in
theorem gX10_joined_X10_isMeaning : GoodIn wsX10_joined (va_wsS RX10 159 yX10_isMeaning wsX10_isMeaning) := goodIn_app (goodIn_of _ (by decide +kernel)) ggX10_joined_X10_isMeaning
set_option maxRecDepth 20000 in
theorem ggX10_joined_X10_earAt : GoodIn wsX10_joined wsX10_earAt := goodIn_r _ [14] (by decide +kernel) (by decide +kernel)
set_option maxRecDepth 20000 in
theorem gX10_joined_X10_earAt : GoodIn wsX10_joined (va_wsS RX10 230 yX10_earAt wsX10_earAt) := goodIn_app (goodIn_of _ (by decide +kernel)) ggX10_joined_X10_earAt
set_option maxRecDepth 20000 in
theorem ggX10_joined_X10_say : GoodIn wsX10_joined wsX10_say := goodIn_r _ [18, 1, 19, 20, 21, 6, 22, 23, 24, 25, 34, 35, 36, 37, 38, 39, 40, 41, 42, 43, 44, 45, 46] (by decide +kernel) (by decide +kernel)
set_option maxRecDepth 20000 in
theorem gX10_joined_X10_say : GoodIn wsX10_joined (wsV RX10 149 RX10 yX10_say wsX10_say) := goodIn_app (goodIn_of _ (by decide +kernel)) ggX10_joined_X10_say
set_option maxRecDepth 20000 in
theorem ggX10_joined_X10_farOf : GoodIn wsX10_joined wsX10_farOf := goodIn_r _ [29, 2, 3, 30, 31, 32, 6, 33, 34, 35, 36, 37, 38, 39, 40, 41, 42, 43, 44, 45, 46] (by decide +kernel) (by decide +kernel)
set_option maxRecDepth 20000 in
theorem gX10_joined_X10_farOf : GoodIn wsX10_joined (wsV RX10 146 RX10 yX10_farOf wsX10_farOf) := goodIn_app (goodIn_of _ (by decide +kernel)) ggX10_joined_X10_farOf
theorem dX10_joined_0 : decode cX10_joined 0 = .ok (.iload_n 1, 1) := by decide +kernel
theorem dX10_joined_1 : decode cX10_joined 1 = .ok (.invokestatic 159, 3) := by decide +kernel
theorem dX10_joined_4 : decode cX10_joined 4 = .ok (.ifCond .ne 5, 3) := by decide +kernel
theorem dX10_joined_7 : decode cX10_joined 7 = .ok (.iconst (-1), 1) := by decide +kernel
theorem dX10_joined_8 : decode cX10_joined 8 = .ok (.ireturn, 1) := by decide +kernel
theorem dX10_joined_9 : decode cX10_joined 9 = .ok (.bipush (-4), 2) := by decide +kernel
theorem dX10_joined_11 : decode cX10_joined 11 = .ok (.istore_n 2, 1) := by decide +kernel
theorem dX10_joined_12 : decode cX10_joined 12 = .ok (.iconst 0, 1) := by decide +kernel
theorem dX10_joined_13 : decode cX10_joined 13 = .ok (.istore_n 3, 1) := by decide +kernel
theorem dX10_joined_14 : decode cX10_joined 14 = .ok (.iconst 0, 1) := by decide +kernel
theorem dX10_joined_15 : decode cX10_joined 15 = .ok (.istore 4, 2) := by decide +kernel
theorem dX10_joined_17 : decode cX10_joined 17 = .ok (.iload 4, 2) := by decide +kernel
theorem dX10_joined_19 : decode cX10_joined 19 = .ok (.iconst 3, 1) := by decide +kernel
theorem dX10_joined_20 : decode cX10_joined 20 = .ok (.if_icmp .ge 123, 3) := by decide +kernel
theorem dX10_joined_23 : decode cX10_joined 23 = .ok (.iconst 0, 1) := by decide +kernel
theorem dX10_joined_24 : decode cX10_joined 24 = .ok (.istore 5, 2) := by decide +kernel
theorem dX10_joined_26 : decode cX10_joined 26 = .ok (.iconst 0, 1) := by decide +kernel
theorem dX10_joined_27 : decode cX10_joined 27 = .ok (.istore 6, 2) := by decide +kernel
theorem dX10_joined_29 : decode cX10_joined 29 = .ok (.iload 6, 2) := by decide +kernel
theorem dX10_joined_31 : decode cX10_joined 31 = .ok (.iconst 3, 1) := by decide +kernel
theorem dX10_joined_32 : decode cX10_joined 32 = .ok (.if_icmp .ge 75, 3) := by decide +kernel
theorem dX10_joined_35 : decode cX10_joined 35 = .ok (.aload_n 0, 1) := by decide +kernel
theorem dX10_joined_36 : decode cX10_joined 36 = .ok (.getfield 16, 3) := by decide +kernel
theorem dX10_joined_39 : decode cX10_joined 39 = .ok (.iload 4, 2) := by decide +kernel
theorem dX10_joined_41 : decode cX10_joined 41 = .ok (.iload_n 1, 1) := by decide +kernel
theorem dX10_joined_42 : decode cX10_joined 42 = .ok (.invokestatic 230, 3) := by decide +kernel
theorem dX10_joined_45 : decode cX10_joined 45 = .ok (.iaload, 1) := by decide +kernel
theorem dX10_joined_46 : decode cX10_joined 46 = .ok (.ifCond .le 61, 3) := by decide +kernel
theorem dX10_joined_49 : decode cX10_joined 49 = .ok (.aload_n 0, 1) := by decide +kernel
theorem dX10_joined_50 : decode cX10_joined 50 = .ok (.iload 4, 2) := by decide +kernel
theorem dX10_joined_52 : decode cX10_joined 52 = .ok (.iload_n 1, 1) := by decide +kernel
theorem dX10_joined_53 : decode cX10_joined 53 = .ok (.invokestatic 230, 3) := by decide +kernel
theorem dX10_joined_56 : decode cX10_joined 56 = .ok (.iconst (-1), 1) := by decide +kernel
theorem dX10_joined_57 : decode cX10_joined 57 = .ok (.aload_n 0, 1) := by decide +kernel
theorem dX10_joined_58 : decode cX10_joined 58 = .ok (.getfield 25, 3) := by decide +kernel
theorem dX10_joined_61 : decode cX10_joined 61 = .ok (.invokevirtual 149, 3) := by decide +kernel
theorem dX10_joined_64 : decode cX10_joined 64 = .ok (.aload_n 0, 1) := by decide +kernel
theorem dX10_joined_65 : decode cX10_joined 65 = .ok (.iload 6, 2) := by decide +kernel
theorem dX10_joined_67 : decode cX10_joined 67 = .ok (.iload_n 1, 1) := by decide +kernel
theorem dX10_joined_68 : decode cX10_joined 68 = .ok (.invokestatic 230, 3) := by decide +kernel
theorem dX10_joined_71 : decode cX10_joined 71 = .ok (.iconst (-1), 1) := by decide +kernel
theorem dX10_joined_72 : decode cX10_joined 72 = .ok (.aload_n 0, 1) := by decide +kernel
theorem dX10_joined_73 : decode cX10_joined 73 = .ok (.getfield 28, 3) := by decide +kernel
theorem dX10_joined_76 : decode cX10_joined 76 = .ok (.invokevirtual 149, 3) := by decide +kernel
theorem dX10_joined_79 : decode cX10_joined 79 = .ok (.iload 5, 2) := by decide +kernel
theorem dX10_joined_81 : decode cX10_joined 81 = .ok (.aload_n 0, 1) := by decide +kernel
theorem dX10_joined_82 : decode cX10_joined 82 = .ok (.getfield 28, 3) := by decide +kernel
theorem dX10_joined_85 : decode cX10_joined 85 = .ok (.iconst 0, 1) := by decide +kernel
theorem dX10_joined_86 : decode cX10_joined 86 = .ok (.iaload, 1) := by decide +kernel
theorem dX10_joined_87 : decode cX10_joined 87 = .ok (.ifCond .ne 7, 3) := by decide +kernel
theorem dX10_joined_90 : decode cX10_joined 90 = .ok (.iconst 0, 1) := by decide +kernel
theorem dX10_joined_91 : decode cX10_joined 91 = .ok (.goto 7, 3) := by decide +kernel
theorem dX10_joined_94 : decode cX10_joined 94 = .ok (.aload_n 0, 1) := by decide +kernel
theorem dX10_joined_95 : decode cX10_joined 95 = .ok (.invokevirtual 146, 3) := by decide +kernel
theorem dX10_joined_98 : decode cX10_joined 98 = .ok (.iadd, 1) := by decide +kernel
theorem dX10_joined_99 : decode cX10_joined 99 = .ok (.istore 5, 2) := by decide +kernel
theorem dX10_joined_101 : decode cX10_joined 101 = .ok (.iinc 6 1, 3) := by decide +kernel
theorem dX10_joined_104 : decode cX10_joined 104 = .ok (.goto (-75), 3) := by decide +kernel
theorem dX10_joined_107 : decode cX10_joined 107 = .ok (.aload_n 0, 1) := by decide +kernel
theorem dX10_joined_108 : decode cX10_joined 108 = .ok (.getfield 16, 3) := by decide +kernel
theorem dX10_joined_111 : decode cX10_joined 111 = .ok (.iload 4, 2) := by decide +kernel
theorem dX10_joined_113 : decode cX10_joined 113 = .ok (.iload_n 1, 1) := by decide +kernel
theorem dX10_joined_114 : decode cX10_joined 114 = .ok (.invokestatic 230, 3) := by decide +kernel
theorem dX10_joined_117 : decode cX10_joined 117 = .ok (.iaload, 1) := by decide +kernel
theorem dX10_joined_118 : decode cX10_joined 118 = .ok (.ifCond .le 19, 3) := by decide +kernel
theorem dX10_joined_121 : decode cX10_joined 121 = .ok (.iload_n 2, 1) := by decide +kernel
theorem dX10_joined_122 : decode cX10_joined 122 = .ok (.ifCond .lt 9, 3) := by decide +kernel
theorem dX10_joined_125 : decode cX10_joined 125 = .ok (.iload 5, 2) := by decide +kernel
theorem dX10_joined_127 : decode cX10_joined 127 = .ok (.iload_n 3, 1) := by decide +kernel
theorem dX10_joined_128 : decode cX10_joined 128 = .ok (.if_icmp .ge 9, 3) := by decide +kernel
theorem dX10_joined_131 : decode cX10_joined 131 = .ok (.iload 4, 2) := by decide +kernel
theorem dX10_joined_133 : decode cX10_joined 133 = .ok (.istore_n 2, 1) := by decide +kernel
theorem dX10_joined_134 : decode cX10_joined 134 = .ok (.iload 5, 2) := by decide +kernel
theorem dX10_joined_136 : decode cX10_joined 136 = .ok (.istore_n 3, 1) := by decide +kernel
theorem dX10_joined_137 : decode cX10_joined 137 = .ok (.iinc 4 1, 3) := by decide +kernel
theorem dX10_joined_140 : decode cX10_joined 140 = .ok (.goto (-123), 3) := by decide +kernel
theorem dX10_joined_143 : decode cX10_joined 143 = .ok (.iload_n 2, 1) := by decide +kernel
theorem dX10_joined_144 : decode cX10_joined 144 = .ok (.ireturn, 1) := by decide +kernel
theorem dX10_hear_0 : decode cX10_hear 0 = .ok (.lconst 1, 1) := by decide +kernel
theorem dX10_hear_1 : decode cX10_hear 1 = .ok (.lstore_n 2, 1) := by decide +kernel
theorem dX10_hear_2 : decode cX10_hear 2 = .ok (.lconst 1, 1) := by decide +kernel
theorem dX10_hear_3 : decode cX10_hear 3 = .ok (.lstore 4, 2) := by decide +kernel
theorem dX10_hear_5 : decode cX10_hear 5 = .ok (.iconst 0, 1) := by decide +kernel
theorem dX10_hear_6 : decode cX10_hear 6 = .ok (.istore 6, 2) := by decide +kernel
theorem dX10_hear_8 : decode cX10_hear 8 = .ok (.iload 6, 2) := by decide +kernel
theorem dX10_hear_10 : decode cX10_hear 10 = .ok (.iload_n 1, 1) := by decide +kernel
theorem dX10_hear_11 : decode cX10_hear 11 = .ok (.if_icmp .ge 25, 3) := by decide +kernel
theorem dX10_hear_14 : decode cX10_hear 14 = .ok (.lload_n 2, 1) := by decide +kernel
theorem dX10_hear_15 : decode cX10_hear 15 = .ok (.iload_n 0, 1) := by decide +kernel
theorem dX10_hear_16 : decode cX10_hear 16 = .ok (.i2l, 1) := by decide +kernel
theorem dX10_hear_17 : decode cX10_hear 17 = .ok (.lmul, 1) := by decide +kernel
theorem dX10_hear_18 : decode cX10_hear 18 = .ok (.lstore_n 2, 1) := by decide +kernel
theorem dX10_hear_19 : decode cX10_hear 19 = .ok (.lload 4, 2) := by decide +kernel
theorem dX10_hear_21 : decode cX10_hear 21 = .ok (.sipush 1000, 3) := by decide +kernel
theorem dX10_hear_24 : decode cX10_hear 24 = .ok (.iload_n 0, 1) := by decide +kernel
theorem dX10_hear_25 : decode cX10_hear 25 = .ok (.isub, 1) := by decide +kernel
theorem dX10_hear_26 : decode cX10_hear 26 = .ok (.i2l, 1) := by decide +kernel
theorem dX10_hear_27 : decode cX10_hear 27 = .ok (.lmul, 1) := by decide +kernel
theorem dX10_hear_28 : decode cX10_hear 28 = .ok (.lstore 4, 2) := by decide +kernel
theorem dX10_hear_30 : decode cX10_hear 30 = .ok (.iinc 6 1, 3) := by decide +kernel
theorem dX10_hear_33 : decode cX10_hear 33 = .ok (.goto (-25), 3) := by decide +kernel
theorem dX10_hear_36 : decode cX10_hear 36 = .ok (.lload_n 2, 1) := by decide +kernel
theorem dX10_hear_37 : decode cX10_hear 37 = .ok (.ldc2_w 201, 3) := by decide +kernel
theorem dX10_hear_40 : decode cX10_hear 40 = .ok (.lmul, 1) := by decide +kernel
theorem dX10_hear_41 : decode cX10_hear 41 = .ok (.lload_n 2, 1) := by decide +kernel
theorem dX10_hear_42 : decode cX10_hear 42 = .ok (.lload 4, 2) := by decide +kernel
theorem dX10_hear_44 : decode cX10_hear 44 = .ok (.ladd, 1) := by decide +kernel
theorem dX10_hear_45 : decode cX10_hear 45 = .ok (.ldiv, 1) := by decide +kernel
theorem dX10_hear_46 : decode cX10_hear 46 = .ok (.l2i, 1) := by decide +kernel
theorem dX10_hear_47 : decode cX10_hear 47 = .ok (.ireturn, 1) := by decide +kernel
set_option maxRecDepth 20000 in
theorem ggX10_children_X10_in : GoodIn wsX10_children wsX10_in := goodIn_r _ [7] (by decide +kernel) (by decide +kernel)
set_option maxRecDepth 20000 in
theorem gX10_children_X10_in : GoodIn wsX10_children (va_wsS RX10 49 yX10_in wsX10_in) := goodIn_app (goodIn_of _ (by decide +kernel)) ggX10_children_X10_in
set_option maxRecDepth 20000 in
theorem ggX10_children_X10_hear : GoodIn wsX10_children wsX10_hear := goodIn_r _ [10, 1] (by decide +kernel) (by decide +kernel)
set_option maxRecDepth 20000 in
theorem gX10_children_X10_hear : GoodIn wsX10_children (va_wsS RX10 237 yX10_hear wsX10_hear) := goodIn_app (goodIn_of _ (by decide +kernel)) ggX10_children_X10_hear
theorem dX10_children_0 : decode cX10_children 0 = .ok (.iload_n 1, 1) := by decide +kernel
theorem dX10_children_1 : decode cX10_children 1 = .ok (.i2l, 1) := by decide +kernel
theorem dX10_children_2 : decode cX10_children 2 = .ok (.lconst 0, 1) := by decide +kernel
theorem dX10_children_3 : decode cX10_children 3 = .ok (.ldc2_w 201, 3) := by decide +kernel
theorem dX10_children_6 : decode cX10_children 6 = .ok (.invokestatic 49, 3) := by decide +kernel
theorem dX10_children_9 : decode cX10_children 9 = .ok (.ifCond .eq 27, 3) := by decide +kernel
theorem dX10_children_12 : decode cX10_children 12 = .ok (.iload_n 2, 1) := by decide +kernel
theorem dX10_children_13 : decode cX10_children 13 = .ok (.i2l, 1) := by decide +kernel
theorem dX10_children_14 : decode cX10_children 14 = .ok (.lconst 1, 1) := by decide +kernel
theorem dX10_children_15 : decode cX10_children 15 = .ok (.ldc2_w 233, 3) := by decide +kernel
theorem dX10_children_18 : decode cX10_children 18 = .ok (.invokestatic 49, 3) := by decide +kernel
theorem dX10_children_21 : decode cX10_children 21 = .ok (.ifCond .eq 15, 3) := by decide +kernel
theorem dX10_children_24 : decode cX10_children 24 = .ok (.iload_n 3, 1) := by decide +kernel
theorem dX10_children_25 : decode cX10_children 25 = .ok (.i2l, 1) := by decide +kernel
theorem dX10_children_26 : decode cX10_children 26 = .ok (.lconst 0, 1) := by decide +kernel
theorem dX10_children_27 : decode cX10_children 27 = .ok (.ldc2_w 235, 3) := by decide +kernel
theorem dX10_children_30 : decode cX10_children 30 = .ok (.invokestatic 49, 3) := by decide +kernel
theorem dX10_children_33 : decode cX10_children 33 = .ok (.ifCond .ne 5, 3) := by decide +kernel
theorem dX10_children_36 : decode cX10_children 36 = .ok (.iconst (-1), 1) := by decide +kernel
theorem dX10_children_37 : decode cX10_children 37 = .ok (.ireturn, 1) := by decide +kernel
theorem dX10_children_38 : decode cX10_children 38 = .ok (.iload_n 1, 1) := by decide +kernel
theorem dX10_children_39 : decode cX10_children 39 = .ok (.istore 4, 2) := by decide +kernel
theorem dX10_children_41 : decode cX10_children 41 = .ok (.iconst 0, 1) := by decide +kernel
theorem dX10_children_42 : decode cX10_children 42 = .ok (.istore 5, 2) := by decide +kernel
theorem dX10_children_44 : decode cX10_children 44 = .ok (.iload 5, 2) := by decide +kernel
theorem dX10_children_46 : decode cX10_children 46 = .ok (.iload_n 3, 1) := by decide +kernel
theorem dX10_children_47 : decode cX10_children 47 = .ok (.if_icmp .ge 17, 3) := by decide +kernel
theorem dX10_children_50 : decode cX10_children 50 = .ok (.iload 4, 2) := by decide +kernel
theorem dX10_children_52 : decode cX10_children 52 = .ok (.iload_n 2, 1) := by decide +kernel
theorem dX10_children_53 : decode cX10_children 53 = .ok (.invokestatic 237, 3) := by decide +kernel
theorem dX10_children_56 : decode cX10_children 56 = .ok (.istore 4, 2) := by decide +kernel
theorem dX10_children_58 : decode cX10_children 58 = .ok (.iinc 5 1, 3) := by decide +kernel
theorem dX10_children_61 : decode cX10_children 61 = .ok (.goto (-17), 3) := by decide +kernel
theorem dX10_children_64 : decode cX10_children 64 = .ok (.iload 4, 2) := by decide +kernel
theorem dX10_children_66 : decode cX10_children 66 = .ok (.ireturn, 1) := by decide +kernel
set_option maxRecDepth 20000 in
theorem ggX10_even_X10_in : GoodIn wsX10_even wsX10_in := goodIn_r _ [6] (by decide +kernel) (by decide +kernel)
set_option maxRecDepth 20000 in
theorem gX10_even_X10_in : GoodIn wsX10_even (va_wsS RX10 49 yX10_in wsX10_in) := goodIn_app (goodIn_of _ (by decide +kernel)) ggX10_even_X10_in
set_option maxRecDepth 20000 in
theorem ggX10_even_X10_hear : GoodIn wsX10_even wsX10_hear := goodIn_r _ [9, 1] (by decide +kernel) (by decide +kernel)
set_option maxRecDepth 20000 in
theorem gX10_even_X10_hear : GoodIn wsX10_even (va_wsS RX10 237 yX10_hear wsX10_hear) := goodIn_app (goodIn_of _ (by decide +kernel)) ggX10_even_X10_hear
theorem dX10_even_0 : decode cX10_even 0 = .ok (.iload_n 1, 1) := by decide +kernel
theorem dX10_even_1 : decode cX10_even 1 = .ok (.i2l, 1) := by decide +kernel
theorem dX10_even_2 : decode cX10_even 2 = .ok (.lconst 0, 1) := by decide +kernel
theorem dX10_even_3 : decode cX10_even 3 = .ok (.ldc2_w 201, 3) := by decide +kernel
theorem dX10_even_6 : decode cX10_even 6 = .ok (.invokestatic 49, 3) := by decide +kernel
theorem dX10_even_9 : decode cX10_even 9 = .ok (.ifCond .eq 15, 3) := by decide +kernel
theorem dX10_even_12 : decode cX10_even 12 = .ok (.iload_n 2, 1) := by decide +kernel
theorem dX10_even_13 : decode cX10_even 13 = .ok (.i2l, 1) := by decide +kernel
theorem dX10_even_14 : decode cX10_even 14 = .ok (.lconst 1, 1) := by decide +kernel
theorem dX10_even_15 : decode cX10_even 15 = .ok (.ldc2_w 233, 3) := by decide +kernel
theorem dX10_even_18 : decode cX10_even 18 = .ok (.invokestatic 49, 3) := by decide +kernel
theorem dX10_even_21 : decode cX10_even 21 = .ok (.ifCond .ne 5, 3) := by decide +kernel
theorem dX10_even_24 : decode cX10_even 24 = .ok (.iconst (-1), 1) := by decide +kernel
theorem dX10_even_25 : decode cX10_even 25 = .ok (.ireturn, 1) := by decide +kernel
theorem dX10_even_26 : decode cX10_even 26 = .ok (.iload_n 1, 1) := by decide +kernel
theorem dX10_even_27 : decode cX10_even 27 = .ok (.istore_n 3, 1) := by decide +kernel
theorem dX10_even_28 : decode cX10_even 28 = .ok (.iconst 0, 1) := by decide +kernel
theorem dX10_even_29 : decode cX10_even 29 = .ok (.istore 4, 2) := by decide +kernel
theorem dX10_even_31 : decode cX10_even 31 = .ok (.iload 4, 2) := by decide +kernel
theorem dX10_even_33 : decode cX10_even 33 = .ok (.bipush 20, 2) := by decide +kernel
theorem dX10_even_35 : decode cX10_even 35 = .ok (.if_icmp .gt 31, 3) := by decide +kernel
theorem dX10_even_38 : decode cX10_even 38 = .ok (.iload_n 3, 1) := by decide +kernel
theorem dX10_even_39 : decode cX10_even 39 = .ok (.sipush 950, 3) := by decide +kernel
theorem dX10_even_42 : decode cX10_even 42 = .ok (.if_icmp .ge 9, 3) := by decide +kernel
theorem dX10_even_45 : decode cX10_even 45 = .ok (.iload_n 3, 1) := by decide +kernel
theorem dX10_even_46 : decode cX10_even 46 = .ok (.bipush 50, 2) := by decide +kernel
theorem dX10_even_48 : decode cX10_even 48 = .ok (.if_icmp .gt 6, 3) := by decide +kernel
theorem dX10_even_51 : decode cX10_even 51 = .ok (.iload 4, 2) := by decide +kernel
theorem dX10_even_53 : decode cX10_even 53 = .ok (.ireturn, 1) := by decide +kernel
theorem dX10_even_54 : decode cX10_even 54 = .ok (.iload_n 3, 1) := by decide +kernel
theorem dX10_even_55 : decode cX10_even 55 = .ok (.iload_n 2, 1) := by decide +kernel
theorem dX10_even_56 : decode cX10_even 56 = .ok (.invokestatic 237, 3) := by decide +kernel
theorem dX10_even_59 : decode cX10_even 59 = .ok (.istore_n 3, 1) := by decide +kernel
theorem dX10_even_60 : decode cX10_even 60 = .ok (.iinc 4 1, 3) := by decide +kernel
theorem dX10_even_63 : decode cX10_even 63 = .ok (.goto (-32), 3) := by decide +kernel
theorem dX10_even_66 : decode cX10_even 66 = .ok (.bipush (-4), 2) := by decide +kernel
theorem dX10_even_68 : decode cX10_even 68 = .ok (.ireturn, 1) := by decide +kernel
set_option maxRecDepth 20000 in
theorem ggX10_canSay_X10_has : GoodIn wsX10_canSay wsX10_has := goodIn_r _ [5] (by decide +kernel) (by decide +kernel)
set_option maxRecDepth 20000 in
theorem gX10_canSay_X10_has : GoodIn wsX10_canSay (va_wsS RX10 137 yX10_has wsX10_has) := goodIn_app (goodIn_of _ (by decide +kernel)) ggX10_canSay_X10_has
theorem dX10_canSay_0 : decode cX10_canSay 0 = .ok (.iload_n 1, 1) := by decide +kernel
theorem dX10_canSay_1 : decode cX10_canSay 1 = .ok (.iload_n 2, 1) := by decide +kernel
theorem dX10_canSay_2 : decode cX10_canSay 2 = .ok (.invokestatic 137, 3) := by decide +kernel
theorem dX10_canSay_5 : decode cX10_canSay 5 = .ok (.istore_n 3, 1) := by decide +kernel
theorem dX10_canSay_6 : decode cX10_canSay 6 = .ok (.iconst 0, 1) := by decide +kernel
theorem dX10_canSay_7 : decode cX10_canSay 7 = .ok (.istore 4, 2) := by decide +kernel
theorem dX10_canSay_9 : decode cX10_canSay 9 = .ok (.iload 4, 2) := by decide +kernel
theorem dX10_canSay_11 : decode cX10_canSay 11 = .ok (.aload_n 0, 1) := by decide +kernel
theorem dX10_canSay_12 : decode cX10_canSay 12 = .ok (.getfield 16, 3) := by decide +kernel
theorem dX10_canSay_15 : decode cX10_canSay 15 = .ok (.sipush 304, 3) := by decide +kernel
theorem dX10_canSay_18 : decode cX10_canSay 18 = .ok (.iaload, 1) := by decide +kernel
theorem dX10_canSay_19 : decode cX10_canSay 19 = .ok (.if_icmp .ge 72, 3) := by decide +kernel
theorem dX10_canSay_22 : decode cX10_canSay 22 = .ok (.sipush 305, 3) := by decide +kernel
theorem dX10_canSay_25 : decode cX10_canSay 25 = .ok (.iconst 3, 1) := by decide +kernel
theorem dX10_canSay_26 : decode cX10_canSay 26 = .ok (.iload 4, 2) := by decide +kernel
theorem dX10_canSay_28 : decode cX10_canSay 28 = .ok (.imul, 1) := by decide +kernel
theorem dX10_canSay_29 : decode cX10_canSay 29 = .ok (.iadd, 1) := by decide +kernel
theorem dX10_canSay_30 : decode cX10_canSay 30 = .ok (.istore 5, 2) := by decide +kernel
theorem dX10_canSay_32 : decode cX10_canSay 32 = .ok (.iload_n 3, 1) := by decide +kernel
theorem dX10_canSay_33 : decode cX10_canSay 33 = .ok (.ifCond .ne 46, 3) := by decide +kernel
theorem dX10_canSay_36 : decode cX10_canSay 36 = .ok (.aload_n 0, 1) := by decide +kernel
theorem dX10_canSay_37 : decode cX10_canSay 37 = .ok (.getfield 16, 3) := by decide +kernel
theorem dX10_canSay_40 : decode cX10_canSay 40 = .ok (.iload 5, 2) := by decide +kernel
theorem dX10_canSay_42 : decode cX10_canSay 42 = .ok (.iaload, 1) := by decide +kernel
theorem dX10_canSay_43 : decode cX10_canSay 43 = .ok (.iload_n 2, 1) := by decide +kernel
theorem dX10_canSay_44 : decode cX10_canSay 44 = .ok (.if_icmp .ne 39, 3) := by decide +kernel
theorem dX10_canSay_47 : decode cX10_canSay 47 = .ok (.iload_n 1, 1) := by decide +kernel
theorem dX10_canSay_48 : decode cX10_canSay 48 = .ok (.aload_n 0, 1) := by decide +kernel
theorem dX10_canSay_49 : decode cX10_canSay 49 = .ok (.getfield 16, 3) := by decide +kernel
theorem dX10_canSay_52 : decode cX10_canSay 52 = .ok (.iload 5, 2) := by decide +kernel
theorem dX10_canSay_54 : decode cX10_canSay 54 = .ok (.iconst 1, 1) := by decide +kernel
theorem dX10_canSay_55 : decode cX10_canSay 55 = .ok (.iadd, 1) := by decide +kernel
theorem dX10_canSay_56 : decode cX10_canSay 56 = .ok (.iaload, 1) := by decide +kernel
theorem dX10_canSay_57 : decode cX10_canSay 57 = .ok (.invokestatic 137, 3) := by decide +kernel
theorem dX10_canSay_60 : decode cX10_canSay 60 = .ok (.ifCond .eq 23, 3) := by decide +kernel
theorem dX10_canSay_63 : decode cX10_canSay 63 = .ok (.iload_n 1, 1) := by decide +kernel
theorem dX10_canSay_64 : decode cX10_canSay 64 = .ok (.aload_n 0, 1) := by decide +kernel
theorem dX10_canSay_65 : decode cX10_canSay 65 = .ok (.getfield 16, 3) := by decide +kernel
theorem dX10_canSay_68 : decode cX10_canSay 68 = .ok (.iload 5, 2) := by decide +kernel
theorem dX10_canSay_70 : decode cX10_canSay 70 = .ok (.iconst 2, 1) := by decide +kernel
theorem dX10_canSay_71 : decode cX10_canSay 71 = .ok (.iadd, 1) := by decide +kernel
theorem dX10_canSay_72 : decode cX10_canSay 72 = .ok (.iaload, 1) := by decide +kernel
theorem dX10_canSay_73 : decode cX10_canSay 73 = .ok (.invokestatic 137, 3) := by decide +kernel
theorem dX10_canSay_76 : decode cX10_canSay 76 = .ok (.ifCond .eq 7, 3) := by decide +kernel
theorem dX10_canSay_79 : decode cX10_canSay 79 = .ok (.iconst 1, 1) := by decide +kernel
theorem dX10_canSay_80 : decode cX10_canSay 80 = .ok (.goto 4, 3) := by decide +kernel
theorem dX10_canSay_83 : decode cX10_canSay 83 = .ok (.iconst 0, 1) := by decide +kernel
theorem dX10_canSay_84 : decode cX10_canSay 84 = .ok (.istore_n 3, 1) := by decide +kernel
theorem dX10_canSay_85 : decode cX10_canSay 85 = .ok (.iinc 4 1, 3) := by decide +kernel
theorem dX10_canSay_88 : decode cX10_canSay 88 = .ok (.goto (-79), 3) := by decide +kernel
theorem dX10_canSay_91 : decode cX10_canSay 91 = .ok (.iload_n 3, 1) := by decide +kernel
theorem dX10_canSay_92 : decode cX10_canSay 92 = .ok (.ireturn, 1) := by decide +kernel
set_option maxRecDepth 20000 in
theorem ggX10_isEnoughFor_X10_has : GoodIn wsX10_isEnoughFor wsX10_has := goodIn_r _ [5] (by decide +kernel) (by decide +kernel)
set_option maxRecDepth 20000 in
theorem gX10_isEnoughFor_X10_has : GoodIn wsX10_isEnoughFor (va_wsS RX10 137 yX10_has wsX10_has) := goodIn_app (goodIn_of _ (by decide +kernel)) ggX10_isEnoughFor_X10_has
set_option maxRecDepth 20000 in
theorem ggX10_isEnoughFor_X10_canSay : GoodIn wsX10_isEnoughFor wsX10_canSay := goodIn_r _ [9, 1, 2, 3, 4, 5, 10, 11, 12, 13, 14, 15, 16, 17, 18, 19, 20, 21, 22] (by decide +kernel) (by decide +kernel)
set_option maxRecDepth 20000 in
theorem gX10_isEnoughFor_X10_canSay : GoodIn wsX10_isEnoughFor (wsV RX10 240 RX10 yX10_canSay wsX10_canSay) := goodIn_app (goodIn_of _ (by decide +kernel)) ggX10_isEnoughFor_X10_canSay
theorem dX10_isEnoughFor_0 : decode cX10_isEnoughFor 0 = .ok (.iconst 1, 1) := by decide +kernel
theorem dX10_isEnoughFor_1 : decode cX10_isEnoughFor 1 = .ok (.istore_n 2, 1) := by decide +kernel
theorem dX10_isEnoughFor_2 : decode cX10_isEnoughFor 2 = .ok (.iconst 0, 1) := by decide +kernel
theorem dX10_isEnoughFor_3 : decode cX10_isEnoughFor 3 = .ok (.istore_n 3, 1) := by decide +kernel
theorem dX10_isEnoughFor_4 : decode cX10_isEnoughFor 4 = .ok (.iload_n 3, 1) := by decide +kernel
theorem dX10_isEnoughFor_5 : decode cX10_isEnoughFor 5 = .ok (.aload_n 0, 1) := by decide +kernel
theorem dX10_isEnoughFor_6 : decode cX10_isEnoughFor 6 = .ok (.getfield 16, 3) := by decide +kernel
theorem dX10_isEnoughFor_9 : decode cX10_isEnoughFor 9 = .ok (.sipush 329, 3) := by decide +kernel
theorem dX10_isEnoughFor_12 : decode cX10_isEnoughFor 12 = .ok (.iaload, 1) := by decide +kernel
theorem dX10_isEnoughFor_13 : decode cX10_isEnoughFor 13 = .ok (.if_icmp .ge 63, 3) := by decide +kernel
theorem dX10_isEnoughFor_16 : decode cX10_isEnoughFor 16 = .ok (.iconst 0, 1) := by decide +kernel
theorem dX10_isEnoughFor_17 : decode cX10_isEnoughFor 17 = .ok (.istore 4, 2) := by decide +kernel
theorem dX10_isEnoughFor_19 : decode cX10_isEnoughFor 19 = .ok (.iload 4, 2) := by decide +kernel
theorem dX10_isEnoughFor_21 : decode cX10_isEnoughFor 21 = .ok (.bipush 8, 2) := by decide +kernel
theorem dX10_isEnoughFor_23 : decode cX10_isEnoughFor 23 = .ok (.if_icmp .ge 47, 3) := by decide +kernel
theorem dX10_isEnoughFor_26 : decode cX10_isEnoughFor 26 = .ok (.iload_n 2, 1) := by decide +kernel
theorem dX10_isEnoughFor_27 : decode cX10_isEnoughFor 27 = .ok (.ifCond .eq 35, 3) := by decide +kernel
theorem dX10_isEnoughFor_30 : decode cX10_isEnoughFor 30 = .ok (.aload_n 0, 1) := by decide +kernel
theorem dX10_isEnoughFor_31 : decode cX10_isEnoughFor 31 = .ok (.getfield 16, 3) := by decide +kernel
theorem dX10_isEnoughFor_34 : decode cX10_isEnoughFor 34 = .ok (.sipush 330, 3) := by decide +kernel
theorem dX10_isEnoughFor_37 : decode cX10_isEnoughFor 37 = .ok (.iload_n 3, 1) := by decide +kernel
theorem dX10_isEnoughFor_38 : decode cX10_isEnoughFor 38 = .ok (.iadd, 1) := by decide +kernel
theorem dX10_isEnoughFor_39 : decode cX10_isEnoughFor 39 = .ok (.iaload, 1) := by decide +kernel
theorem dX10_isEnoughFor_40 : decode cX10_isEnoughFor 40 = .ok (.iload 4, 2) := by decide +kernel
theorem dX10_isEnoughFor_42 : decode cX10_isEnoughFor 42 = .ok (.invokestatic 137, 3) := by decide +kernel
theorem dX10_isEnoughFor_45 : decode cX10_isEnoughFor 45 = .ok (.ifCond .eq 13, 3) := by decide +kernel
theorem dX10_isEnoughFor_48 : decode cX10_isEnoughFor 48 = .ok (.aload_n 0, 1) := by decide +kernel
theorem dX10_isEnoughFor_49 : decode cX10_isEnoughFor 49 = .ok (.iload_n 1, 1) := by decide +kernel
theorem dX10_isEnoughFor_50 : decode cX10_isEnoughFor 50 = .ok (.iload 4, 2) := by decide +kernel
theorem dX10_isEnoughFor_52 : decode cX10_isEnoughFor 52 = .ok (.invokevirtual 240, 3) := by decide +kernel
theorem dX10_isEnoughFor_55 : decode cX10_isEnoughFor 55 = .ok (.ifCond .eq 7, 3) := by decide +kernel
theorem dX10_isEnoughFor_58 : decode cX10_isEnoughFor 58 = .ok (.iconst 1, 1) := by decide +kernel
theorem dX10_isEnoughFor_59 : decode cX10_isEnoughFor 59 = .ok (.goto 4, 3) := by decide +kernel
theorem dX10_isEnoughFor_62 : decode cX10_isEnoughFor 62 = .ok (.iconst 0, 1) := by decide +kernel
theorem dX10_isEnoughFor_63 : decode cX10_isEnoughFor 63 = .ok (.istore_n 2, 1) := by decide +kernel
theorem dX10_isEnoughFor_64 : decode cX10_isEnoughFor 64 = .ok (.iinc 4 1, 3) := by decide +kernel
theorem dX10_isEnoughFor_67 : decode cX10_isEnoughFor 67 = .ok (.goto (-48), 3) := by decide +kernel
theorem dX10_isEnoughFor_70 : decode cX10_isEnoughFor 70 = .ok (.iinc 3 1, 3) := by decide +kernel
theorem dX10_isEnoughFor_73 : decode cX10_isEnoughFor 73 = .ok (.goto (-69), 3) := by decide +kernel
theorem dX10_isEnoughFor_76 : decode cX10_isEnoughFor 76 = .ok (.iload_n 2, 1) := by decide +kernel
theorem dX10_isEnoughFor_77 : decode cX10_isEnoughFor 77 = .ok (.ireturn, 1) := by decide +kernel
set_option maxRecDepth 20000 in
theorem ggX10_fewest_X10_in : GoodIn wsX10_fewest wsX10_in := goodIn_r _ [4] (by decide +kernel) (by decide +kernel)
set_option maxRecDepth 20000 in
theorem gX10_fewest_X10_in : GoodIn wsX10_fewest (va_wsS RX10 49 yX10_in wsX10_in) := goodIn_app (goodIn_of _ (by decide +kernel)) ggX10_fewest_X10_in
set_option maxRecDepth 20000 in
theorem ggX10_fewest_X10_ones : GoodIn wsX10_fewest wsX10_ones := goodIn_r _ [7] (by decide +kernel) (by decide +kernel)
set_option maxRecDepth 20000 in
theorem gX10_fewest_X10_ones : GoodIn wsX10_fewest (va_wsS RX10 125 yX10_ones wsX10_ones) := goodIn_app (goodIn_of _ (by decide +kernel)) ggX10_fewest_X10_ones
set_option maxRecDepth 20000 in
theorem ggX10_fewest_X10_isEnoughFor : GoodIn wsX10_fewest wsX10_isEnoughFor := goodIn_r _ [11, 12, 13, 14, 3, 15, 16, 17, 18, 19, 20, 21, 22, 23, 24, 25, 26, 27, 28, 29, 30, 31, 32] (by decide +kernel) (by decide +kernel)
set_option maxRecDepth 20000 in
theorem gX10_fewest_X10_isEnoughFor : GoodIn wsX10_fewest (wsV RX10 243 RX10 yX10_isEnoughFor wsX10_isEnoughFor) := goodIn_app (goodIn_of _ (by decide +kernel)) ggX10_fewest_X10_isEnoughFor
theorem dX10_fewest_0 : decode cX10_fewest 0 = .ok (.iload_n 1, 1) := by decide +kernel
theorem dX10_fewest_1 : decode cX10_fewest 1 = .ok (.i2l, 1) := by decide +kernel
theorem dX10_fewest_2 : decode cX10_fewest 2 = .ok (.lconst 0, 1) := by decide +kernel
theorem dX10_fewest_3 : decode cX10_fewest 3 = .ok (.lconst 1, 1) := by decide +kernel
theorem dX10_fewest_4 : decode cX10_fewest 4 = .ok (.invokestatic 49, 3) := by decide +kernel
theorem dX10_fewest_7 : decode cX10_fewest 7 = .ok (.ifCond .ne 5, 3) := by decide +kernel
theorem dX10_fewest_10 : decode cX10_fewest 10 = .ok (.iconst (-1), 1) := by decide +kernel
theorem dX10_fewest_11 : decode cX10_fewest 11 = .ok (.ireturn, 1) := by decide +kernel
theorem dX10_fewest_12 : decode cX10_fewest 12 = .ok (.sipush 255, 3) := by decide +kernel
theorem dX10_fewest_15 : decode cX10_fewest 15 = .ok (.istore_n 2, 1) := by decide +kernel
theorem dX10_fewest_16 : decode cX10_fewest 16 = .ok (.sipush 255, 3) := by decide +kernel
theorem dX10_fewest_19 : decode cX10_fewest 19 = .ok (.istore_n 3, 1) := by decide +kernel
theorem dX10_fewest_20 : decode cX10_fewest 20 = .ok (.iload_n 3, 1) := by decide +kernel
theorem dX10_fewest_21 : decode cX10_fewest 21 = .ok (.ifCond .lt 34, 3) := by decide +kernel
theorem dX10_fewest_24 : decode cX10_fewest 24 = .ok (.iload_n 3, 1) := by decide +kernel
theorem dX10_fewest_25 : decode cX10_fewest 25 = .ok (.invokestatic 125, 3) := by decide +kernel
theorem dX10_fewest_28 : decode cX10_fewest 28 = .ok (.iload_n 2, 1) := by decide +kernel
theorem dX10_fewest_29 : decode cX10_fewest 29 = .ok (.invokestatic 125, 3) := by decide +kernel
theorem dX10_fewest_32 : decode cX10_fewest 32 = .ok (.if_icmp .gt 15, 3) := by decide +kernel
theorem dX10_fewest_35 : decode cX10_fewest 35 = .ok (.aload_n 0, 1) := by decide +kernel
theorem dX10_fewest_36 : decode cX10_fewest 36 = .ok (.iload_n 3, 1) := by decide +kernel
theorem dX10_fewest_37 : decode cX10_fewest 37 = .ok (.invokevirtual 243, 3) := by decide +kernel
theorem dX10_fewest_40 : decode cX10_fewest 40 = .ok (.ifCond .eq 7, 3) := by decide +kernel
theorem dX10_fewest_43 : decode cX10_fewest 43 = .ok (.iload_n 3, 1) := by decide +kernel
theorem dX10_fewest_44 : decode cX10_fewest 44 = .ok (.goto 4, 3) := by decide +kernel
theorem dX10_fewest_47 : decode cX10_fewest 47 = .ok (.iload_n 2, 1) := by decide +kernel
theorem dX10_fewest_48 : decode cX10_fewest 48 = .ok (.istore_n 2, 1) := by decide +kernel
theorem dX10_fewest_49 : decode cX10_fewest 49 = .ok (.iinc 3 (-1), 3) := by decide +kernel
theorem dX10_fewest_52 : decode cX10_fewest 52 = .ok (.goto (-32), 3) := by decide +kernel
theorem dX10_fewest_55 : decode cX10_fewest 55 = .ok (.iload_n 1, 1) := by decide +kernel
theorem dX10_fewest_56 : decode cX10_fewest 56 = .ok (.ifCond .ne 7, 3) := by decide +kernel
theorem dX10_fewest_59 : decode cX10_fewest 59 = .ok (.iload_n 2, 1) := by decide +kernel
theorem dX10_fewest_60 : decode cX10_fewest 60 = .ok (.goto 7, 3) := by decide +kernel
theorem dX10_fewest_63 : decode cX10_fewest 63 = .ok (.iload_n 2, 1) := by decide +kernel
theorem dX10_fewest_64 : decode cX10_fewest 64 = .ok (.invokestatic 125, 3) := by decide +kernel
theorem dX10_fewest_67 : decode cX10_fewest 67 = .ok (.ireturn, 1) := by decide +kernel
theorem dX10_both_0 : decode cX10_both 0 = .ok (.aload_n 0, 1) := by decide +kernel
theorem dX10_both_1 : decode cX10_both 1 = .ok (.getfield 16, 3) := by decide +kernel
theorem dX10_both_4 : decode cX10_both 4 = .ok (.sipush 280, 3) := by decide +kernel
theorem dX10_both_7 : decode cX10_both 7 = .ok (.iaload, 1) := by decide +kernel
theorem dX10_both_8 : decode cX10_both 8 = .ok (.aload_n 0, 1) := by decide +kernel
theorem dX10_both_9 : decode cX10_both 9 = .ok (.getfield 16, 3) := by decide +kernel
theorem dX10_both_12 : decode cX10_both 12 = .ok (.sipush 281, 3) := by decide +kernel
theorem dX10_both_15 : decode cX10_both 15 = .ok (.iaload, 1) := by decide +kernel
theorem dX10_both_16 : decode cX10_both 16 = .ok (.iand, 1) := by decide +kernel
theorem dX10_both_17 : decode cX10_both 17 = .ok (.ireturn, 1) := by decide +kernel
set_option maxRecDepth 20000 in
theorem ggX10_lost_X10_in : GoodIn wsX10_lost wsX10_in := goodIn_r _ [5] (by decide +kernel) (by decide +kernel)
set_option maxRecDepth 20000 in
theorem gX10_lost_X10_in : GoodIn wsX10_lost (va_wsS RX10 49 yX10_in wsX10_in) := goodIn_app (goodIn_of _ (by decide +kernel)) ggX10_lost_X10_in
set_option maxRecDepth 20000 in
theorem ggX10_lost_X10_wordAt : GoodIn wsX10_lost wsX10_wordAt := goodIn_r _ [8] (by decide +kernel) (by decide +kernel)
set_option maxRecDepth 20000 in
theorem gX10_lost_X10_wordAt : GoodIn wsX10_lost (va_wsS RX10 129 yX10_wordAt wsX10_wordAt) := goodIn_app (goodIn_of _ (by decide +kernel)) ggX10_lost_X10_wordAt
set_option maxRecDepth 20000 in
theorem ggX10_lost_X10_said : GoodIn wsX10_lost wsX10_said := goodIn_r _ [12, 1, 13, 14, 4, 15, 16, 17, 18, 19, 20, 21, 22, 23, 24, 25, 26, 27, 28] (by decide +kernel) (by decide +kernel)
set_option maxRecDepth 20000 in
theorem gX10_lost_X10_said : GoodIn wsX10_lost (wsV RX10 140 RX10 yX10_said wsX10_said) := goodIn_app (goodIn_of _ (by decide +kernel)) ggX10_lost_X10_said
theorem dX10_lost_0 : decode cX10_lost 0 = .ok (.iload_n 1, 1) := by decide +kernel
theorem dX10_lost_1 : decode cX10_lost 1 = .ok (.i2l, 1) := by decide +kernel
theorem dX10_lost_2 : decode cX10_lost 2 = .ok (.lconst 0, 1) := by decide +kernel
theorem dX10_lost_3 : decode cX10_lost 3 = .ok (.lconst 1, 1) := by decide +kernel
theorem dX10_lost_4 : decode cX10_lost 4 = .ok (.invokestatic 49, 3) := by decide +kernel
theorem dX10_lost_7 : decode cX10_lost 7 = .ok (.ifCond .ne 5, 3) := by decide +kernel
theorem dX10_lost_10 : decode cX10_lost 10 = .ok (.iconst (-1), 1) := by decide +kernel
theorem dX10_lost_11 : decode cX10_lost 11 = .ok (.ireturn, 1) := by decide +kernel
theorem dX10_lost_12 : decode cX10_lost 12 = .ok (.iconst 0, 1) := by decide +kernel
theorem dX10_lost_13 : decode cX10_lost 13 = .ok (.istore_n 2, 1) := by decide +kernel
theorem dX10_lost_14 : decode cX10_lost 14 = .ok (.iconst 0, 1) := by decide +kernel
theorem dX10_lost_15 : decode cX10_lost 15 = .ok (.istore_n 3, 1) := by decide +kernel
theorem dX10_lost_16 : decode cX10_lost 16 = .ok (.iload_n 3, 1) := by decide +kernel
theorem dX10_lost_17 : decode cX10_lost 17 = .ok (.bipush 8, 2) := by decide +kernel
theorem dX10_lost_19 : decode cX10_lost 19 = .ok (.if_icmp .ge 74, 3) := by decide +kernel
theorem dX10_lost_22 : decode cX10_lost 22 = .ok (.iload_n 1, 1) := by decide +kernel
theorem dX10_lost_23 : decode cX10_lost 23 = .ok (.iload_n 3, 1) := by decide +kernel
theorem dX10_lost_24 : decode cX10_lost 24 = .ok (.invokestatic 129, 3) := by decide +kernel
theorem dX10_lost_27 : decode cX10_lost 27 = .ok (.istore 4, 2) := by decide +kernel
theorem dX10_lost_29 : decode cX10_lost 29 = .ok (.iconst 0, 1) := by decide +kernel
theorem dX10_lost_30 : decode cX10_lost 30 = .ok (.istore 5, 2) := by decide +kernel
theorem dX10_lost_32 : decode cX10_lost 32 = .ok (.iload 5, 2) := by decide +kernel
theorem dX10_lost_34 : decode cX10_lost 34 = .ok (.aload_n 0, 1) := by decide +kernel
theorem dX10_lost_35 : decode cX10_lost 35 = .ok (.getfield 16, 3) := by decide +kernel
theorem dX10_lost_38 : decode cX10_lost 38 = .ok (.iload 4, 2) := by decide +kernel
theorem dX10_lost_40 : decode cX10_lost 40 = .ok (.iaload, 1) := by decide +kernel
theorem dX10_lost_41 : decode cX10_lost 41 = .ok (.if_icmp .ge 46, 3) := by decide +kernel
theorem dX10_lost_44 : decode cX10_lost 44 = .ok (.aload_n 0, 1) := by decide +kernel
theorem dX10_lost_45 : decode cX10_lost 45 = .ok (.getfield 16, 3) := by decide +kernel
theorem dX10_lost_48 : decode cX10_lost 48 = .ok (.iload 4, 2) := by decide +kernel
theorem dX10_lost_50 : decode cX10_lost 50 = .ok (.iconst 1, 1) := by decide +kernel
theorem dX10_lost_51 : decode cX10_lost 51 = .ok (.iadd, 1) := by decide +kernel
theorem dX10_lost_52 : decode cX10_lost 52 = .ok (.iload 5, 2) := by decide +kernel
theorem dX10_lost_54 : decode cX10_lost 54 = .ok (.iadd, 1) := by decide +kernel
theorem dX10_lost_55 : decode cX10_lost 55 = .ok (.iaload, 1) := by decide +kernel
theorem dX10_lost_56 : decode cX10_lost 56 = .ok (.istore 6, 2) := by decide +kernel
theorem dX10_lost_58 : decode cX10_lost 58 = .ok (.iload_n 2, 1) := by decide +kernel
theorem dX10_lost_59 : decode cX10_lost 59 = .ok (.aload_n 0, 1) := by decide +kernel
theorem dX10_lost_60 : decode cX10_lost 60 = .ok (.iconst 1, 1) := by decide +kernel
theorem dX10_lost_61 : decode cX10_lost 61 = .ok (.iload_n 1, 1) := by decide +kernel
theorem dX10_lost_62 : decode cX10_lost 62 = .ok (.isub, 1) := by decide +kernel
theorem dX10_lost_63 : decode cX10_lost 63 = .ok (.iload 6, 2) := by decide +kernel
theorem dX10_lost_65 : decode cX10_lost 65 = .ok (.invokevirtual 140, 3) := by decide +kernel
theorem dX10_lost_68 : decode cX10_lost 68 = .ok (.ifCond .ge 10, 3) := by decide +kernel
theorem dX10_lost_71 : decode cX10_lost 71 = .ok (.iconst 1, 1) := by decide +kernel
theorem dX10_lost_72 : decode cX10_lost 72 = .ok (.iload 6, 2) := by decide +kernel
theorem dX10_lost_74 : decode cX10_lost 74 = .ok (.ishl, 1) := by decide +kernel
theorem dX10_lost_75 : decode cX10_lost 75 = .ok (.goto 4, 3) := by decide +kernel
theorem dX10_lost_78 : decode cX10_lost 78 = .ok (.iconst 0, 1) := by decide +kernel
theorem dX10_lost_79 : decode cX10_lost 79 = .ok (.ior, 1) := by decide +kernel
theorem dX10_lost_80 : decode cX10_lost 80 = .ok (.istore_n 2, 1) := by decide +kernel
theorem dX10_lost_81 : decode cX10_lost 81 = .ok (.iinc 5 1, 3) := by decide +kernel
theorem dX10_lost_84 : decode cX10_lost 84 = .ok (.goto (-52), 3) := by decide +kernel
theorem dX10_lost_87 : decode cX10_lost 87 = .ok (.iinc 3 1, 3) := by decide +kernel
theorem dX10_lost_90 : decode cX10_lost 90 = .ok (.goto (-74), 3) := by decide +kernel
theorem dX10_lost_93 : decode cX10_lost 93 = .ok (.iload_n 2, 1) := by decide +kernel
theorem dX10_lost_94 : decode cX10_lost 94 = .ok (.ireturn, 1) := by decide +kernel
theorem dX10_keep_0 : decode cX10_keep 0 = .ok (.aload_n 0, 1) := by decide +kernel
theorem dX10_keep_1 : decode cX10_keep 1 = .ok (.getfield 119, 3) := by decide +kernel
theorem dX10_keep_4 : decode cX10_keep 4 = .ok (.iconst 2, 1) := by decide +kernel
theorem dX10_keep_5 : decode cX10_keep 5 = .ok (.if_icmp .ne 6, 3) := by decide +kernel
theorem dX10_keep_8 : decode cX10_keep 8 = .ok (.bipush (-3), 2) := by decide +kernel
theorem dX10_keep_10 : decode cX10_keep 10 = .ok (.ireturn, 1) := by decide +kernel
theorem dX10_keep_11 : decode cX10_keep 11 = .ok (.iconst 0, 1) := by decide +kernel
theorem dX10_keep_12 : decode cX10_keep 12 = .ok (.istore_n 1, 1) := by decide +kernel
theorem dX10_keep_13 : decode cX10_keep 13 = .ok (.iload_n 1, 1) := by decide +kernel
theorem dX10_keep_14 : decode cX10_keep 14 = .ok (.bipush 16, 2) := by decide +kernel
theorem dX10_keep_16 : decode cX10_keep 16 = .ok (.if_icmp .ge 29, 3) := by decide +kernel
theorem dX10_keep_19 : decode cX10_keep 19 = .ok (.aload_n 0, 1) := by decide +kernel
theorem dX10_keep_20 : decode cX10_keep 20 = .ok (.getfield 22, 3) := by decide +kernel
theorem dX10_keep_23 : decode cX10_keep 23 = .ok (.bipush 16, 2) := by decide +kernel
theorem dX10_keep_25 : decode cX10_keep 25 = .ok (.aload_n 0, 1) := by decide +kernel
theorem dX10_keep_26 : decode cX10_keep 26 = .ok (.getfield 119, 3) := by decide +kernel
theorem dX10_keep_29 : decode cX10_keep 29 = .ok (.imul, 1) := by decide +kernel
theorem dX10_keep_30 : decode cX10_keep 30 = .ok (.iload_n 1, 1) := by decide +kernel
theorem dX10_keep_31 : decode cX10_keep 31 = .ok (.iadd, 1) := by decide +kernel
theorem dX10_keep_32 : decode cX10_keep 32 = .ok (.aload_n 0, 1) := by decide +kernel
theorem dX10_keep_33 : decode cX10_keep 33 = .ok (.getfield 19, 3) := by decide +kernel
theorem dX10_keep_36 : decode cX10_keep 36 = .ok (.iload_n 1, 1) := by decide +kernel
theorem dX10_keep_37 : decode cX10_keep 37 = .ok (.iaload, 1) := by decide +kernel
theorem dX10_keep_38 : decode cX10_keep 38 = .ok (.iastore, 1) := by decide +kernel
theorem dX10_keep_39 : decode cX10_keep 39 = .ok (.iinc 1 1, 3) := by decide +kernel
theorem dX10_keep_42 : decode cX10_keep 42 = .ok (.goto (-29), 3) := by decide +kernel
theorem dX10_keep_45 : decode cX10_keep 45 = .ok (.aload_n 0, 1) := by decide +kernel
theorem dX10_keep_46 : decode cX10_keep 46 = .ok (.dup, 1) := by decide +kernel
theorem dX10_keep_47 : decode cX10_keep 47 = .ok (.getfield 119, 3) := by decide +kernel
theorem dX10_keep_50 : decode cX10_keep 50 = .ok (.iconst 1, 1) := by decide +kernel
theorem dX10_keep_51 : decode cX10_keep 51 = .ok (.iadd, 1) := by decide +kernel
theorem dX10_keep_52 : decode cX10_keep 52 = .ok (.putfield 119, 3) := by decide +kernel
theorem dX10_keep_55 : decode cX10_keep 55 = .ok (.aload_n 0, 1) := by decide +kernel
theorem dX10_keep_56 : decode cX10_keep 56 = .ok (.getfield 119, 3) := by decide +kernel
theorem dX10_keep_59 : decode cX10_keep 59 = .ok (.ireturn, 1) := by decide +kernel
theorem dX10_back_0 : decode cX10_back 0 = .ok (.aload_n 0, 1) := by decide +kernel
theorem dX10_back_1 : decode cX10_back 1 = .ok (.getfield 119, 3) := by decide +kernel
theorem dX10_back_4 : decode cX10_back 4 = .ok (.ifCond .ne 6, 3) := by decide +kernel
theorem dX10_back_7 : decode cX10_back 7 = .ok (.bipush (-2), 2) := by decide +kernel
theorem dX10_back_9 : decode cX10_back 9 = .ok (.ireturn, 1) := by decide +kernel
theorem dX10_back_10 : decode cX10_back 10 = .ok (.aload_n 0, 1) := by decide +kernel
theorem dX10_back_11 : decode cX10_back 11 = .ok (.dup, 1) := by decide +kernel
theorem dX10_back_12 : decode cX10_back 12 = .ok (.getfield 119, 3) := by decide +kernel
theorem dX10_back_15 : decode cX10_back 15 = .ok (.iconst 1, 1) := by decide +kernel
theorem dX10_back_16 : decode cX10_back 16 = .ok (.isub, 1) := by decide +kernel
theorem dX10_back_17 : decode cX10_back 17 = .ok (.putfield 119, 3) := by decide +kernel
theorem dX10_back_20 : decode cX10_back 20 = .ok (.iconst 0, 1) := by decide +kernel
theorem dX10_back_21 : decode cX10_back 21 = .ok (.istore_n 1, 1) := by decide +kernel
theorem dX10_back_22 : decode cX10_back 22 = .ok (.iload_n 1, 1) := by decide +kernel
theorem dX10_back_23 : decode cX10_back 23 = .ok (.bipush 16, 2) := by decide +kernel
theorem dX10_back_25 : decode cX10_back 25 = .ok (.if_icmp .ge 29, 3) := by decide +kernel
theorem dX10_back_28 : decode cX10_back 28 = .ok (.aload_n 0, 1) := by decide +kernel
theorem dX10_back_29 : decode cX10_back 29 = .ok (.getfield 19, 3) := by decide +kernel
theorem dX10_back_32 : decode cX10_back 32 = .ok (.iload_n 1, 1) := by decide +kernel
theorem dX10_back_33 : decode cX10_back 33 = .ok (.aload_n 0, 1) := by decide +kernel
theorem dX10_back_34 : decode cX10_back 34 = .ok (.getfield 22, 3) := by decide +kernel
theorem dX10_back_37 : decode cX10_back 37 = .ok (.bipush 16, 2) := by decide +kernel
theorem dX10_back_39 : decode cX10_back 39 = .ok (.aload_n 0, 1) := by decide +kernel
theorem dX10_back_40 : decode cX10_back 40 = .ok (.getfield 119, 3) := by decide +kernel
theorem dX10_back_43 : decode cX10_back 43 = .ok (.imul, 1) := by decide +kernel
theorem dX10_back_44 : decode cX10_back 44 = .ok (.iload_n 1, 1) := by decide +kernel
theorem dX10_back_45 : decode cX10_back 45 = .ok (.iadd, 1) := by decide +kernel
theorem dX10_back_46 : decode cX10_back 46 = .ok (.iaload, 1) := by decide +kernel
theorem dX10_back_47 : decode cX10_back 47 = .ok (.iastore, 1) := by decide +kernel
theorem dX10_back_48 : decode cX10_back 48 = .ok (.iinc 1 1, 3) := by decide +kernel
theorem dX10_back_51 : decode cX10_back 51 = .ok (.goto (-29), 3) := by decide +kernel
theorem dX10_back_54 : decode cX10_back 54 = .ok (.aload_n 0, 1) := by decide +kernel
theorem dX10_back_55 : decode cX10_back 55 = .ok (.getfield 119, 3) := by decide +kernel
theorem dX10_back_58 : decode cX10_back 58 = .ok (.ireturn, 1) := by decide +kernel
set_option maxRecDepth 20000 in
theorem ggX10_count_X10_toldSet : GoodIn wsX10_count wsX10_toldSet := goodIn_r _ [8, 9, 10, 11, 7, 12, 2, 13, 14, 15, 19, 20, 21, 22, 23, 24, 25, 26, 27, 28, 29, 30, 31] (by decide +kernel) (by decide +kernel)
set_option maxRecDepth 20000 in
theorem gX10_count_X10_toldSet : GoodIn wsX10_count (wsV RX10 122 RX10 yX10_toldSet wsX10_toldSet) := goodIn_app (goodIn_of _ (by decide +kernel)) ggX10_count_X10_toldSet
set_option maxRecDepth 20000 in
theorem ggX10_count_X10_ones : GoodIn wsX10_count wsX10_ones := goodIn_r _ [18] (by decide +kernel) (by decide +kernel)
set_option maxRecDepth 20000 in
theorem gX10_count_X10_ones : GoodIn wsX10_count (va_wsS RX10 125 yX10_ones wsX10_ones) := goodIn_app (goodIn_of _ (by decide +kernel)) ggX10_count_X10_ones
theorem dX10_count_0 : decode cX10_count 0 = .ok (.iload_n 1, 1) := by decide +kernel
theorem dX10_count_1 : decode cX10_count 1 = .ok (.tableswitch 97 0 6 #[43, 51, 56, 65, 74, 79, 88], 43) := by decide +kernel
theorem dX10_count_44 : decode cX10_count 44 = .ok (.aload_n 0, 1) := by decide +kernel
theorem dX10_count_45 : decode cX10_count 45 = .ok (.invokevirtual 122, 3) := by decide +kernel
theorem dX10_count_48 : decode cX10_count 48 = .ok (.invokestatic 125, 3) := by decide +kernel
theorem dX10_count_51 : decode cX10_count 51 = .ok (.ireturn, 1) := by decide +kernel
theorem dX10_count_52 : decode cX10_count 52 = .ok (.aload_n 0, 1) := by decide +kernel
theorem dX10_count_53 : decode cX10_count 53 = .ok (.getfield 53, 3) := by decide +kernel
theorem dX10_count_56 : decode cX10_count 56 = .ok (.ireturn, 1) := by decide +kernel
theorem dX10_count_57 : decode cX10_count 57 = .ok (.aload_n 0, 1) := by decide +kernel
theorem dX10_count_58 : decode cX10_count 58 = .ok (.getfield 16, 3) := by decide +kernel
theorem dX10_count_61 : decode cX10_count 61 = .ok (.sipush 329, 3) := by decide +kernel
theorem dX10_count_64 : decode cX10_count 64 = .ok (.iaload, 1) := by decide +kernel
theorem dX10_count_65 : decode cX10_count 65 = .ok (.ireturn, 1) := by decide +kernel
theorem dX10_count_66 : decode cX10_count 66 = .ok (.aload_n 0, 1) := by decide +kernel
theorem dX10_count_67 : decode cX10_count 67 = .ok (.getfield 16, 3) := by decide +kernel
theorem dX10_count_70 : decode cX10_count 70 = .ok (.sipush 304, 3) := by decide +kernel
theorem dX10_count_73 : decode cX10_count 73 = .ok (.iaload, 1) := by decide +kernel
theorem dX10_count_74 : decode cX10_count 74 = .ok (.ireturn, 1) := by decide +kernel
theorem dX10_count_75 : decode cX10_count 75 = .ok (.aload_n 0, 1) := by decide +kernel
theorem dX10_count_76 : decode cX10_count 76 = .ok (.getfield 119, 3) := by decide +kernel
theorem dX10_count_79 : decode cX10_count 79 = .ok (.ireturn, 1) := by decide +kernel
theorem dX10_count_80 : decode cX10_count 80 = .ok (.aload_n 0, 1) := by decide +kernel
theorem dX10_count_81 : decode cX10_count 81 = .ok (.getfield 16, 3) := by decide +kernel
theorem dX10_count_84 : decode cX10_count 84 = .ok (.sipush 298, 3) := by decide +kernel
theorem dX10_count_87 : decode cX10_count 87 = .ok (.iaload, 1) := by decide +kernel
theorem dX10_count_88 : decode cX10_count 88 = .ok (.ireturn, 1) := by decide +kernel
theorem dX10_count_89 : decode cX10_count 89 = .ok (.aload_n 0, 1) := by decide +kernel
theorem dX10_count_90 : decode cX10_count 90 = .ok (.getfield 16, 3) := by decide +kernel
theorem dX10_count_93 : decode cX10_count 93 = .ok (.sipush 299, 3) := by decide +kernel
theorem dX10_count_96 : decode cX10_count 96 = .ok (.iaload, 1) := by decide +kernel
theorem dX10_count_97 : decode cX10_count 97 = .ok (.ireturn, 1) := by decide +kernel
theorem dX10_count_98 : decode cX10_count 98 = .ok (.iconst (-1), 1) := by decide +kernel
theorem dX10_count_99 : decode cX10_count 99 = .ok (.ireturn, 1) := by decide +kernel
theorem dJ6_bitCount_0f7a4_0 : decode cJ6_bitCount_0f7a4 0 = .ok (.iload_n 0, 1) := by decide +kernel
theorem dJ6_bitCount_0f7a4_1 : decode cJ6_bitCount_0f7a4 1 = .ok (.iload_n 0, 1) := by decide +kernel
theorem dJ6_bitCount_0f7a4_2 : decode cJ6_bitCount_0f7a4 2 = .ok (.iconst 1, 1) := by decide +kernel
theorem dJ6_bitCount_0f7a4_3 : decode cJ6_bitCount_0f7a4 3 = .ok (.iushr, 1) := by decide +kernel
theorem dJ6_bitCount_0f7a4_4 : decode cJ6_bitCount_0f7a4 4 = .ok (.ldc_w 265, 3) := by decide +kernel
theorem dJ6_bitCount_0f7a4_7 : decode cJ6_bitCount_0f7a4 7 = .ok (.iand, 1) := by decide +kernel
theorem dJ6_bitCount_0f7a4_8 : decode cJ6_bitCount_0f7a4 8 = .ok (.isub, 1) := by decide +kernel
theorem dJ6_bitCount_0f7a4_9 : decode cJ6_bitCount_0f7a4 9 = .ok (.istore_n 0, 1) := by decide +kernel
theorem dJ6_bitCount_0f7a4_10 : decode cJ6_bitCount_0f7a4 10 = .ok (.iload_n 0, 1) := by decide +kernel
theorem dJ6_bitCount_0f7a4_11 : decode cJ6_bitCount_0f7a4 11 = .ok (.ldc_w 266, 3) := by decide +kernel
theorem dJ6_bitCount_0f7a4_14 : decode cJ6_bitCount_0f7a4 14 = .ok (.iand, 1) := by decide +kernel
theorem dJ6_bitCount_0f7a4_15 : decode cJ6_bitCount_0f7a4 15 = .ok (.iload_n 0, 1) := by decide +kernel
theorem dJ6_bitCount_0f7a4_16 : decode cJ6_bitCount_0f7a4 16 = .ok (.iconst 2, 1) := by decide +kernel
theorem dJ6_bitCount_0f7a4_17 : decode cJ6_bitCount_0f7a4 17 = .ok (.iushr, 1) := by decide +kernel
theorem dJ6_bitCount_0f7a4_18 : decode cJ6_bitCount_0f7a4 18 = .ok (.ldc_w 266, 3) := by decide +kernel
theorem dJ6_bitCount_0f7a4_21 : decode cJ6_bitCount_0f7a4 21 = .ok (.iand, 1) := by decide +kernel
theorem dJ6_bitCount_0f7a4_22 : decode cJ6_bitCount_0f7a4 22 = .ok (.iadd, 1) := by decide +kernel
theorem dJ6_bitCount_0f7a4_23 : decode cJ6_bitCount_0f7a4 23 = .ok (.istore_n 0, 1) := by decide +kernel
theorem dJ6_bitCount_0f7a4_24 : decode cJ6_bitCount_0f7a4 24 = .ok (.iload_n 0, 1) := by decide +kernel
theorem dJ6_bitCount_0f7a4_25 : decode cJ6_bitCount_0f7a4 25 = .ok (.iload_n 0, 1) := by decide +kernel
theorem dJ6_bitCount_0f7a4_26 : decode cJ6_bitCount_0f7a4 26 = .ok (.iconst 4, 1) := by decide +kernel
theorem dJ6_bitCount_0f7a4_27 : decode cJ6_bitCount_0f7a4 27 = .ok (.iushr, 1) := by decide +kernel
theorem dJ6_bitCount_0f7a4_28 : decode cJ6_bitCount_0f7a4 28 = .ok (.iadd, 1) := by decide +kernel
theorem dJ6_bitCount_0f7a4_29 : decode cJ6_bitCount_0f7a4 29 = .ok (.ldc_w 267, 3) := by decide +kernel
theorem dJ6_bitCount_0f7a4_32 : decode cJ6_bitCount_0f7a4 32 = .ok (.iand, 1) := by decide +kernel
theorem dJ6_bitCount_0f7a4_33 : decode cJ6_bitCount_0f7a4 33 = .ok (.istore_n 0, 1) := by decide +kernel
theorem dJ6_bitCount_0f7a4_34 : decode cJ6_bitCount_0f7a4 34 = .ok (.iload_n 0, 1) := by decide +kernel
theorem dJ6_bitCount_0f7a4_35 : decode cJ6_bitCount_0f7a4 35 = .ok (.iload_n 0, 1) := by decide +kernel
theorem dJ6_bitCount_0f7a4_36 : decode cJ6_bitCount_0f7a4 36 = .ok (.bipush 8, 2) := by decide +kernel
theorem dJ6_bitCount_0f7a4_38 : decode cJ6_bitCount_0f7a4 38 = .ok (.iushr, 1) := by decide +kernel
theorem dJ6_bitCount_0f7a4_39 : decode cJ6_bitCount_0f7a4 39 = .ok (.iadd, 1) := by decide +kernel
theorem dJ6_bitCount_0f7a4_40 : decode cJ6_bitCount_0f7a4 40 = .ok (.istore_n 0, 1) := by decide +kernel
theorem dJ6_bitCount_0f7a4_41 : decode cJ6_bitCount_0f7a4 41 = .ok (.iload_n 0, 1) := by decide +kernel
theorem dJ6_bitCount_0f7a4_42 : decode cJ6_bitCount_0f7a4 42 = .ok (.iload_n 0, 1) := by decide +kernel
theorem dJ6_bitCount_0f7a4_43 : decode cJ6_bitCount_0f7a4 43 = .ok (.bipush 16, 2) := by decide +kernel
theorem dJ6_bitCount_0f7a4_45 : decode cJ6_bitCount_0f7a4 45 = .ok (.iushr, 1) := by decide +kernel
theorem dJ6_bitCount_0f7a4_46 : decode cJ6_bitCount_0f7a4 46 = .ok (.iadd, 1) := by decide +kernel
theorem dJ6_bitCount_0f7a4_47 : decode cJ6_bitCount_0f7a4 47 = .ok (.istore_n 0, 1) := by decide +kernel
theorem dJ6_bitCount_0f7a4_48 : decode cJ6_bitCount_0f7a4 48 = .ok (.iload_n 0, 1) := by decide +kernel
theorem dJ6_bitCount_0f7a4_49 : decode cJ6_bitCount_0f7a4 49 = .ok (.bipush 63, 2) := by decide +kernel
theorem dJ6_bitCount_0f7a4_51 : decode cJ6_bitCount_0f7a4 51 = .ok (.iand, 1) := by decide +kernel
theorem dJ6_bitCount_0f7a4_52 : decode cJ6_bitCount_0f7a4 52 = .ok (.ireturn, 1) := by decide +kernel
theorem dJ9_max_7cf53_0 : decode cJ9_max_7cf53 0 = .ok (.iload_n 0, 1) := by decide +kernel
theorem dJ9_max_7cf53_1 : decode cJ9_max_7cf53 1 = .ok (.iload_n 1, 1) := by decide +kernel
theorem dJ9_max_7cf53_2 : decode cJ9_max_7cf53 2 = .ok (.if_icmp .lt 7, 3) := by decide +kernel
theorem dJ9_max_7cf53_5 : decode cJ9_max_7cf53 5 = .ok (.iload_n 0, 1) := by decide +kernel
theorem dJ9_max_7cf53_6 : decode cJ9_max_7cf53 6 = .ok (.goto 4, 3) := by decide +kernel
theorem dJ9_max_7cf53_9 : decode cJ9_max_7cf53 9 = .ok (.iload_n 1, 1) := by decide +kernel
theorem dJ9_max_7cf53_10 : decode cJ9_max_7cf53 10 = .ok (.ireturn, 1) := by decide +kernel
theorem dJ9_min_7cf53_0 : decode cJ9_min_7cf53 0 = .ok (.iload_n 0, 1) := by decide +kernel
theorem dJ9_min_7cf53_1 : decode cJ9_min_7cf53 1 = .ok (.iload_n 1, 1) := by decide +kernel
theorem dJ9_min_7cf53_2 : decode cJ9_min_7cf53 2 = .ok (.if_icmp .gt 7, 3) := by decide +kernel
theorem dJ9_min_7cf53_5 : decode cJ9_min_7cf53 5 = .ok (.iload_n 0, 1) := by decide +kernel
theorem dJ9_min_7cf53_6 : decode cJ9_min_7cf53 6 = .ok (.goto 4, 3) := by decide +kernel
theorem dJ9_min_7cf53_9 : decode cJ9_min_7cf53 9 = .ok (.iload_n 1, 1) := by decide +kernel
theorem dJ9_min_7cf53_10 : decode cJ9_min_7cf53 10 = .ok (.ireturn, 1) := by decide +kernel
theorem dJ7_fill_d0a16_0 : decode cJ7_fill_d0a16 0 = .ok (.iconst 0, 1) := by decide +kernel
theorem dJ7_fill_d0a16_1 : decode cJ7_fill_d0a16 1 = .ok (.istore_n 3, 1) := by decide +kernel
theorem dJ7_fill_d0a16_2 : decode cJ7_fill_d0a16 2 = .ok (.aload_n 0, 1) := by decide +kernel
theorem dJ7_fill_d0a16_3 : decode cJ7_fill_d0a16 3 = .ok (.arraylength, 1) := by decide +kernel
theorem dJ7_fill_d0a16_4 : decode cJ7_fill_d0a16 4 = .ok (.istore 4, 2) := by decide +kernel
theorem dJ7_fill_d0a16_6 : decode cJ7_fill_d0a16 6 = .ok (.iload_n 3, 1) := by decide +kernel
theorem dJ7_fill_d0a16_7 : decode cJ7_fill_d0a16 7 = .ok (.iload 4, 2) := by decide +kernel
theorem dJ7_fill_d0a16_9 : decode cJ7_fill_d0a16 9 = .ok (.if_icmp .ge 13, 3) := by decide +kernel
theorem dJ7_fill_d0a16_12 : decode cJ7_fill_d0a16 12 = .ok (.aload_n 0, 1) := by decide +kernel
theorem dJ7_fill_d0a16_13 : decode cJ7_fill_d0a16 13 = .ok (.iload_n 3, 1) := by decide +kernel
theorem dJ7_fill_d0a16_14 : decode cJ7_fill_d0a16 14 = .ok (.lload_n 1, 1) := by decide +kernel
theorem dJ7_fill_d0a16_15 : decode cJ7_fill_d0a16 15 = .ok (.lastore, 1) := by decide +kernel
theorem dJ7_fill_d0a16_16 : decode cJ7_fill_d0a16 16 = .ok (.iinc 3 1, 3) := by decide +kernel
theorem dJ7_fill_d0a16_19 : decode cJ7_fill_d0a16 19 = .ok (.goto (-13), 3) := by decide +kernel
theorem dJ7_fill_d0a16_22 : decode cJ7_fill_d0a16 22 = .ok (.return_, 1) := by decide +kernel
theorem dJ7_fill_53178_0 : decode cJ7_fill_53178 0 = .ok (.iconst 0, 1) := by decide +kernel
theorem dJ7_fill_53178_1 : decode cJ7_fill_53178 1 = .ok (.istore_n 2, 1) := by decide +kernel
theorem dJ7_fill_53178_2 : decode cJ7_fill_53178 2 = .ok (.aload_n 0, 1) := by decide +kernel
theorem dJ7_fill_53178_3 : decode cJ7_fill_53178 3 = .ok (.arraylength, 1) := by decide +kernel
theorem dJ7_fill_53178_4 : decode cJ7_fill_53178 4 = .ok (.istore_n 3, 1) := by decide +kernel
theorem dJ7_fill_53178_5 : decode cJ7_fill_53178 5 = .ok (.iload_n 2, 1) := by decide +kernel
theorem dJ7_fill_53178_6 : decode cJ7_fill_53178 6 = .ok (.iload_n 3, 1) := by decide +kernel
theorem dJ7_fill_53178_7 : decode cJ7_fill_53178 7 = .ok (.if_icmp .ge 13, 3) := by decide +kernel
theorem dJ7_fill_53178_10 : decode cJ7_fill_53178 10 = .ok (.aload_n 0, 1) := by decide +kernel
theorem dJ7_fill_53178_11 : decode cJ7_fill_53178 11 = .ok (.iload_n 2, 1) := by decide +kernel
theorem dJ7_fill_53178_12 : decode cJ7_fill_53178 12 = .ok (.iload_n 1, 1) := by decide +kernel
theorem dJ7_fill_53178_13 : decode cJ7_fill_53178 13 = .ok (.iastore, 1) := by decide +kernel
theorem dJ7_fill_53178_14 : decode cJ7_fill_53178 14 = .ok (.iinc 2 1, 3) := by decide +kernel
theorem dJ7_fill_53178_17 : decode cJ7_fill_53178 17 = .ok (.goto (-12), 3) := by decide +kernel
theorem dJ7_fill_53178_20 : decode cJ7_fill_53178 20 = .ok (.return_, 1) := by decide +kernel
