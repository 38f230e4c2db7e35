set_option maxRecDepth 20000 in
theorem ggL_law_X8_both : GoodIn wsL_law wsX8_both := goodIn_r _ [840, 36, 841, 842, 843, 35, 844, 73, 903, 904, 905, 906, 907, 908, 909, 942, 943, 944, 945, 946, 947, 948, 949, 950] (by decide +kernel) (by decide +kernel)
set_option maxRecDepth 20000 in
theorem gL_law_X8_both : GoodIn wsL_law (wsV RL 113 RX8 yX8_both wsX8_both) := goodIn_app (goodIn_of _ (by decide +kernel)) ggL_law_X8_both
set_option maxRecDepth 20000 in
theorem ggL_law_X9_both : GoodIn wsL_law wsX9_both := goodIn_r _ [848, 110, 910, 911, 912, 913, 914, 915, 916, 917, 918, 919, 920, 921, 922] (by decide +kernel) (by decide +kernel)
set_option maxRecDepth 20000 in
theorem gL_law_X9_both : GoodIn wsL_law (wsV RL 116 RX9 yX9_both wsX9_both) := goodIn_app (goodIn_of _ (by decide +kernel)) ggL_law_X9_both
set_option maxRecDepth 20000 in
theorem ggL_law_X8_lost : GoodIn wsL_law wsX8_lost := goodIn_r _ [852, 36, 374, 375, 2, 376, 380, 347, 348, 35, 349, 71, 237, 238, 239, 391, 210, 207, 211, 392, 219, 220, 853, 387, 388, 389, 73, 74, 903, 904, 905, 906, 907, 908, 909, 942, 943, 944, 945, 946, 947, 948, 949, 950] (by decide +kernel) (by decide +kernel)
set_option maxRecDepth 20000 in
theorem gL_law_X8_lost : GoodIn wsL_law (wsV RL 117 RX8 yX8_lost wsX8_lost) := goodIn_app (goodIn_of _ (by decide +kernel)) ggL_law_X8_lost
set_option maxRecDepth 20000 in
theorem ggL_law_X9_lost : GoodIn wsL_law wsX9_lost := goodIn_r _ [857, 110, 147, 148, 5, 149, 364, 365, 366, 407, 408, 409, 410, 411, 412, 413, 910, 911, 912, 913, 914, 915, 916, 917, 918, 919, 920, 921, 922] (by decide +kernel) (by decide +kernel)
set_option maxRecDepth 20000 in
theorem gL_law_X9_lost : GoodIn wsL_law (wsV RL 120 RX9 yX9_lost wsX9_lost) := goodIn_app (goodIn_of _ (by decide +kernel)) ggL_law_X9_lost
set_option maxRecDepth 20000 in
theorem ggL_law_X8_keep : GoodIn wsL_law wsX8_keep := goodIn_r _ [861, 24, 862, 863, 864, 23, 865, 336, 53, 54, 866, 567, 568, 569, 867, 868, 869, 870, 903, 904, 905, 906, 907, 908, 909, 931, 932, 933] (by decide +kernel) (by decide +kernel)
set_option maxRecDepth 20000 in
theorem gL_law_X8_keep : GoodIn wsL_law (wsV RL 121 RX8 yX8_keep wsX8_keep) := goodIn_app (goodIn_of _ (by decide +kernel)) ggL_law_X8_keep
set_option maxRecDepth 20000 in
theorem ggL_law_X9_keep : GoodIn wsL_law wsX9_keep := goodIn_r _ [874, 354, 112, 111, 910, 911, 912, 913, 914, 915, 916, 917, 918, 919, 920, 921, 922] (by decide +kernel) (by decide +kernel)
set_option maxRecDepth 20000 in
theorem gL_law_X9_keep : GoodIn wsL_law (wsV RL 124 RX9 yX9_keep wsX9_keep) := goodIn_app (goodIn_of _ (by decide +kernel)) ggL_law_X9_keep
