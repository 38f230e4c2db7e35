set_option maxRecDepth 20000 in
theorem ggL_law_X9_init : GoodIn wsL_law wsX9_init := goodIn_r _ [9, 10, 11, 12, 13, 14, 15, 16, 17, 18, 19, 20, 21, 22, 23, 24, 25, 26, 27, 28, 29, 30, 31, 32, 33, 34, 35, 36, 37, 38, 39, 40, 41, 42, 43, 44, 45, 46, 47, 48, 49, 50, 51, 52, 53, 54, 55, 56, 57, 58, 59, 60, 61, 62, 63, 64, 65, 66, 67, 68, 69, 70, 71, 72, 73, 74, 75, 76, 77, 78, 79, 80, 81, 82, 83, 84, 85, 86, 87, 88, 89, 90, 91, 92, 93, 94, 95, 96, 97, 98, 99, 100, 101, 102, 103, 947, 948, 927, 928, 929, 930, 931, 932, 933, 949, 950, 951, 952, 953, 954, 955, 956, 957, 958, 959, 960, 961, 962, 963, 964, 965, 966, 967, 968, 969, 970, 971, 972, 973, 974, 975, 976, 977, 978, 979] (by decide +kernel) (by decide +kernel)
set_option maxRecDepth 20000 in
theorem gL_law_X9_init : GoodIn wsL_law (wsX9_init) := ggL_law_X9_init
set_option maxRecDepth 20000 in
theorem ggL_law_X10_init : GoodIn wsL_law wsX10_init := goodIn_r _ [106, 107, 11, 12, 47, 108, 109, 110, 111, 112, 113, 114, 115, 58, 116, 117, 118, 119, 120, 5, 121, 122, 123, 124, 125, 126, 934, 935, 936, 937, 938, 939, 940, 941, 942, 943, 944, 945, 946] (by decide +kernel) (by decide +kernel)
set_option maxRecDepth 20000 in
theorem gL_law_X10_init : GoodIn wsL_law (wsX10_init) := ggL_law_X10_init
set_option maxRecDepth 20000 in
theorem ggL_law_X9_write : GoodIn wsL_law wsX9_write := goodIn_r _ [130, 16, 131, 132, 133, 15, 134, 135, 136, 137, 138, 139, 42, 927, 928, 929, 930, 931, 932, 933, 947, 948] (by decide +kernel) (by decide +kernel)
set_option maxRecDepth 20000 in
theorem gL_law_X9_write : GoodIn wsL_law (wsV RL 15 RX9 yX9_write wsX9_write) := goodIn_app (goodIn_of _ (by decide +kernel)) ggL_law_X9_write
set_option maxRecDepth 20000 in
theorem ggL_law_X10_write : GoodIn wsL_law wsX10_write := goodIn_r _ [143, 144, 145, 108, 146, 147, 148, 5, 149, 934, 935, 936, 937, 938, 939, 940, 941, 942, 943, 944, 945, 946] (by decide +kernel) (by decide +kernel)
set_option maxRecDepth 20000 in
theorem gL_law_X10_write : GoodIn wsL_law (wsV RL 19 RX10 yX10_write wsX10_write) := goodIn_app (goodIn_of _ (by decide +kernel)) ggL_law_X10_write
set_option maxRecDepth 20000 in
theorem ggL_law_X9_wipe : GoodIn wsL_law wsX9_wipe := goodIn_r _ [153, 16, 131, 132, 133, 15, 134, 135, 154, 155, 156, 157, 927, 928, 929, 930, 931, 932, 933, 947, 948] (by decide +kernel) (by decide +kernel)
set_option maxRecDepth 20000 in
theorem gL_law_X9_wipe : GoodIn wsL_law (wsV RL 20 RX9 yX9_wipe wsX9_wipe) := goodIn_app (goodIn_of _ (by decide +kernel)) ggL_law_X9_wipe
set_option maxRecDepth 20000 in
theorem ggL_law_X10_wipe : GoodIn wsL_law wsX10_wipe := goodIn_r _ [161, 145, 934, 935, 936, 937, 938, 939, 940, 941, 942, 943, 944, 945, 946] (by decide +kernel) (by decide +kernel)
set_option maxRecDepth 20000 in
theorem gL_law_X10_wipe : GoodIn wsL_law (wsV RL 24 RX10 yX10_wipe wsX10_wipe) := goodIn_app (goodIn_of _ (by decide +kernel)) ggL_law_X10_wipe
