set_option maxRecDepth 20000 in
theorem ggL_law_X8_back : GoodIn wsL_law wsX8_back := goodIn_r _ [878, 24, 879, 880, 881, 23, 882, 336, 54, 53, 866, 567, 568, 569, 867, 868, 869, 870, 903, 904, 905, 906, 907, 908, 909, 931, 932, 933] (by decide +kernel) (by decide +kernel)
set_option maxRecDepth 20000 in
theorem gL_law_X8_back : GoodIn wsL_law (wsV RL 125 RX8 yX8_back wsX8_back) := goodIn_app (goodIn_of _ (by decide +kernel)) ggL_law_X8_back
set_option maxRecDepth 20000 in
theorem ggL_law_X9_back : GoodIn wsL_law wsX9_back := goodIn_r _ [886, 354, 111, 112, 910, 911, 912, 913, 914, 915, 916, 917, 918, 919, 920, 921, 922] (by decide +kernel) (by decide +kernel)
set_option maxRecDepth 20000 in
theorem gL_law_X9_back : GoodIn wsL_law (wsV RL 128 RX9 yX9_back wsX9_back) := goodIn_app (goodIn_of _ (by decide +kernel)) ggL_law_X9_back
set_option maxRecDepth 20000 in
theorem ggL_law_X8_count : GoodIn wsL_law wsX8_count := goodIn_r _ [890, 16, 36, 24, 338, 339, 340, 2, 341, 342, 343, 344, 35, 345, 346, 347, 348, 349, 71, 237, 238, 239, 131, 132, 133, 15, 134, 135, 812, 813, 814, 815, 80, 891, 892, 893, 79, 894, 102, 895, 896, 897, 898, 101, 867, 868, 869, 23, 870, 336, 487, 488, 489, 490, 75, 903, 904, 905, 906, 907, 908, 909, 942, 943, 944, 945, 946, 947, 948, 949, 950, 923, 924, 951, 952, 953, 954, 955, 931, 932, 933] (by decide +kernel) (by decide +kernel)
set_option maxRecDepth 20000 in
theorem gL_law_X8_count : GoodIn wsL_law (wsV RL 129 RX8 yX8_count wsX8_count) := goodIn_app (goodIn_of _ (by decide +kernel)) ggL_law_X8_count
set_option maxRecDepth 20000 in
theorem ggL_law_X9_count : GoodIn wsL_law wsX9_count := goodIn_r _ [902, 145, 110, 354, 356, 357, 358, 5, 359, 360, 361, 362, 363, 364, 365, 366, 367, 368, 369, 910, 911, 912, 913, 914, 915, 916, 917, 918, 919, 920, 921, 922] (by decide +kernel) (by decide +kernel)
set_option maxRecDepth 20000 in
theorem gL_law_X9_count : GoodIn wsL_law (wsV RL 132 RX9 yX9_count wsX9_count) := goodIn_app (goodIn_of _ (by decide +kernel)) ggL_law_X9_count
