set_option maxRecDepth 20000 in
theorem ggL_law_X9_back : GoodIn wsL_law wsX9_back := goodIn_r _ [902, 24, 903, 904, 905, 23, 906, 350, 54, 53, 890, 583, 584, 585, 891, 892, 893, 894, 927, 928, 929, 930, 931, 932, 933, 955, 956, 957] (by decide +kernel) (by decide +kernel)
set_option maxRecDepth 20000 in
theorem gL_law_X9_back : GoodIn wsL_law (wsV RL 125 RX9 yX9_back wsX9_back) := goodIn_app (goodIn_of _ (by decide +kernel)) ggL_law_X9_back
set_option maxRecDepth 20000 in
theorem ggL_law_X10_back : GoodIn wsL_law wsX10_back := goodIn_r _ [910, 369, 111, 112, 934, 935, 936, 937, 938, 939, 940, 941, 942, 943, 944, 945, 946] (by decide +kernel) (by decide +kernel)
set_option maxRecDepth 20000 in
theorem gL_law_X10_back : GoodIn wsL_law (wsV RL 128 RX10 yX10_back wsX10_back) := goodIn_app (goodIn_of _ (by decide +kernel)) ggL_law_X10_back
set_option maxRecDepth 20000 in
theorem ggL_law_X9_count : GoodIn wsL_law wsX9_count := goodIn_r _ [914, 16, 36, 24, 352, 353, 354, 2, 355, 356, 357, 358, 35, 359, 360, 361, 362, 363, 71, 245, 246, 247, 364, 234, 199, 235, 131, 132, 133, 15, 134, 135, 835, 836, 837, 838, 80, 915, 916, 917, 79, 918, 102, 919, 920, 921, 922, 101, 891, 892, 893, 23, 894, 350, 503, 504, 505, 506, 75, 927, 928, 929, 930, 931, 932, 933, 966, 967, 968, 969, 970, 971, 972, 973, 974, 947, 948, 975, 976, 977, 978, 979, 955, 956, 957] (by decide +kernel) (by decide +kernel)
set_option maxRecDepth 20000 in
theorem gL_law_X9_count : GoodIn wsL_law (wsV RL 129 RX9 yX9_count wsX9_count) := goodIn_app (goodIn_of _ (by decide +kernel)) ggL_law_X9_count
set_option maxRecDepth 20000 in
theorem ggL_law_X10_count : GoodIn wsL_law wsX10_count := goodIn_r _ [926, 145, 110, 369, 371, 372, 373, 5, 374, 375, 376, 377, 378, 379, 380, 381, 382, 383, 384, 934, 935, 936, 937, 938, 939, 940, 941, 942, 943, 944, 945, 946] (by decide +kernel) (by decide +kernel)
set_option maxRecDepth 20000 in
theorem gL_law_X10_count : GoodIn wsL_law (wsV RL 132 RX10 yX10_count wsX10_count) := goodIn_app (goodIn_of _ (by decide +kernel)) ggL_law_X10_count
