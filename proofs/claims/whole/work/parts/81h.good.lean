set_option maxRecDepth 20000 in
theorem ggL_law_X8_children : GoodIn wsL_law wsX8_children := goodIn_r _ [781, 782, 783, 2, 784, 785, 786, 787, 788, 789, 790, 647] (by decide +kernel) (by decide +kernel)
set_option maxRecDepth 20000 in
theorem gL_law_X8_children : GoodIn wsL_law (wsV RL 101 RX8 yX8_children wsX8_children) := goodIn_app (goodIn_of _ (by decide +kernel)) ggL_law_X8_children
set_option maxRecDepth 20000 in
theorem ggL_law_X9_children : GoodIn wsL_law wsX9_children := goodIn_r _ [794, 656, 795, 796, 147, 148, 5, 149, 797, 798, 799] (by decide +kernel) (by decide +kernel)
set_option maxRecDepth 20000 in
theorem gL_law_X9_children : GoodIn wsL_law (wsV RL 104 RX9 yX9_children wsX9_children) := goodIn_app (goodIn_of _ (by decide +kernel)) ggL_law_X9_children
set_option maxRecDepth 20000 in
theorem ggL_law_X8_even : GoodIn wsL_law wsX8_even := goodIn_r _ [803, 782, 783, 2, 784, 785, 786, 787, 788, 789, 790, 647] (by decide +kernel) (by decide +kernel)
set_option maxRecDepth 20000 in
theorem gL_law_X8_even : GoodIn wsL_law (wsV RL 105 RX8 yX8_even wsX8_even) := goodIn_app (goodIn_of _ (by decide +kernel)) ggL_law_X8_even
set_option maxRecDepth 20000 in
theorem ggL_law_X9_even : GoodIn wsL_law wsX9_even := goodIn_r _ [807, 656, 795, 147, 148, 5, 149, 797, 798, 799] (by decide +kernel) (by decide +kernel)
set_option maxRecDepth 20000 in
theorem gL_law_X9_even : GoodIn wsL_law (wsV RL 108 RX9 yX9_even wsX9_even) := goodIn_app (goodIn_of _ (by decide +kernel)) ggL_law_X9_even
set_option maxRecDepth 20000 in
theorem ggL_law_X8_fewest : GoodIn wsL_law wsX8_fewest := goodIn_r _ [811, 36, 812, 813, 814, 35, 815, 80, 816, 817, 818, 79, 819, 103, 820, 698, 699, 700, 701, 702, 703, 821, 822, 823, 824, 101, 85, 84, 697, 903, 904, 905, 906, 907, 908, 909, 942, 943, 944, 945, 946, 947, 948, 949, 950, 951, 952, 953, 954, 955] (by decide +kernel) (by decide +kernel)
set_option maxRecDepth 20000 in
theorem gL_law_X8_fewest : GoodIn wsL_law (wsV RL 109 RX8 yX8_fewest wsX8_fewest) := goodIn_app (goodIn_of _ (by decide +kernel)) ggL_law_X8_fewest
set_option maxRecDepth 20000 in
theorem ggL_law_X9_fewest : GoodIn wsL_law wsX9_fewest := goodIn_r _ [828, 147, 148, 5, 149, 367, 368, 369, 829, 830, 831, 832, 110, 411, 412, 413, 833, 834, 835, 836, 910, 911, 912, 913, 914, 915, 916, 917, 918, 919, 920, 921, 922] (by decide +kernel) (by decide +kernel)
set_option maxRecDepth 20000 in
theorem gL_law_X9_fewest : GoodIn wsL_law (wsV RL 112 RX9 yX9_fewest wsX9_fewest) := goodIn_app (goodIn_of _ (by decide +kernel)) ggL_law_X9_fewest
