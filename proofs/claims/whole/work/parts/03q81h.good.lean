set_option maxRecDepth 20000 in
theorem ggL_law_X9_children : GoodIn wsL_law wsX9_children := goodIn_r _ [804, 805, 806, 2, 807, 808, 809, 810, 811, 812, 813, 666] (by decide +kernel) (by decide +kernel)
set_option maxRecDepth 20000 in
theorem gL_law_X9_children : GoodIn wsL_law (wsV RL 101 RX9 yX9_children wsX9_children) := goodIn_app (goodIn_of _ (by decide +kernel)) ggL_law_X9_children
set_option maxRecDepth 20000 in
theorem ggL_law_X10_children : GoodIn wsL_law wsX10_children := goodIn_r _ [817, 675, 818, 819, 147, 148, 5, 149, 820, 821, 822] (by decide +kernel) (by decide +kernel)
set_option maxRecDepth 20000 in
theorem gL_law_X10_children : GoodIn wsL_law (wsV RL 104 RX10 yX10_children wsX10_children) := goodIn_app (goodIn_of _ (by decide +kernel)) ggL_law_X10_children
set_option maxRecDepth 20000 in
theorem ggL_law_X9_even : GoodIn wsL_law wsX9_even := goodIn_r _ [826, 805, 806, 2, 807, 808, 809, 810, 811, 812, 813, 666] (by decide +kernel) (by decide +kernel)
set_option maxRecDepth 20000 in
theorem gL_law_X9_even : GoodIn wsL_law (wsV RL 105 RX9 yX9_even wsX9_even) := goodIn_app (goodIn_of _ (by decide +kernel)) ggL_law_X9_even
set_option maxRecDepth 20000 in
theorem ggL_law_X10_even : GoodIn wsL_law wsX10_even := goodIn_r _ [830, 675, 818, 147, 148, 5, 149, 820, 821, 822] (by decide +kernel) (by decide +kernel)
set_option maxRecDepth 20000 in
theorem gL_law_X10_even : GoodIn wsL_law (wsV RL 108 RX10 yX10_even wsX10_even) := goodIn_app (goodIn_of _ (by decide +kernel)) ggL_law_X10_even
set_option maxRecDepth 20000 in
theorem ggL_law_X9_fewest : GoodIn wsL_law wsX9_fewest := goodIn_r _ [834, 36, 835, 836, 837, 35, 838, 80, 839, 840, 841, 79, 842, 103, 843, 721, 722, 723, 724, 725, 726, 844, 845, 846, 847, 101, 85, 84, 848, 234, 199, 235, 720, 927, 928, 929, 930, 931, 932, 933, 966, 967, 968, 969, 970, 971, 972, 973, 974, 975, 976, 977, 978, 979] (by decide +kernel) (by decide +kernel)
set_option maxRecDepth 20000 in
theorem gL_law_X9_fewest : GoodIn wsL_law (wsV RL 109 RX9 yX9_fewest wsX9_fewest) := goodIn_app (goodIn_of _ (by decide +kernel)) ggL_law_X9_fewest
set_option maxRecDepth 20000 in
theorem ggL_law_X10_fewest : GoodIn wsL_law wsX10_fewest := goodIn_r _ [852, 147, 148, 5, 149, 382, 383, 384, 853, 854, 855, 856, 110, 426, 427, 428, 857, 858, 859, 860, 934, 935, 936, 937, 938, 939, 940, 941, 942, 943, 944, 945, 946] (by decide +kernel) (by decide +kernel)
set_option maxRecDepth 20000 in
theorem gL_law_X10_fewest : GoodIn wsL_law (wsV RL 112 RX10 yX10_fewest wsX10_fewest) := goodIn_app (goodIn_of _ (by decide +kernel)) ggL_law_X10_fewest
