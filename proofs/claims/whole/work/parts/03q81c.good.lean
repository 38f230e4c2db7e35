set_option maxRecDepth 20000 in
theorem ggL_law_X9_far : GoodIn wsL_law wsX9_far := goodIn_r _ [432, 36, 32, 389, 390, 2, 391, 392, 393, 394, 395, 361, 362, 35, 363, 71, 245, 246, 247, 364, 234, 199, 235, 433, 434, 435, 31, 436, 437, 438, 439, 440, 66, 441, 214, 211, 215, 442, 223, 224, 927, 928, 929, 930, 931, 932, 933, 966, 967, 968, 969, 970, 971, 972, 973, 974, 965] (by decide +kernel) (by decide +kernel)
set_option maxRecDepth 20000 in
theorem gL_law_X9_far : GoodIn wsL_law (wsV RL 38 RX9 yX9_far wsX9_far) := goodIn_app (goodIn_of _ (by decide +kernel)) ggL_law_X9_far
set_option maxRecDepth 20000 in
theorem ggL_law_X10_far : GoodIn wsL_law wsX10_far := goodIn_r _ [446, 113, 114, 147, 148, 5, 149, 414, 415, 416, 417, 379, 380, 381, 418, 419, 420, 421, 110, 422, 423, 424, 425, 426, 427, 428, 447, 448, 449, 450, 115, 451, 452, 453, 934, 935, 936, 937, 938, 939, 940, 941, 942, 943, 944, 945, 946] (by decide +kernel) (by decide +kernel)
set_option maxRecDepth 20000 in
theorem gL_law_X10_far : GoodIn wsL_law (wsV RL 41 RX10 yX10_far wsX10_far) := goodIn_app (goodIn_of _ (by decide +kernel)) ggL_law_X10_far
set_option maxRecDepth 20000 in
theorem ggL_law_X9_like : GoodIn wsL_law wsX9_like := goodIn_r _ [457, 36, 392, 393, 2, 394, 356, 357, 358, 35, 359, 360, 361, 362, 363, 71, 245, 246, 247, 364, 234, 199, 235, 458, 459, 460, 461, 32, 395, 396, 397, 398, 399, 400, 214, 211, 215, 264, 223, 224, 401, 402, 403, 404, 73, 74, 405, 210, 212, 213, 462, 463, 464, 31, 465, 466, 467, 439, 468, 441, 469, 434, 435, 436, 437, 438, 440, 66, 442, 927, 928, 929, 930, 931, 932, 933, 966, 967, 968, 969, 970, 971, 972, 973, 974, 965] (by decide +kernel) (by decide +kernel)
set_option maxRecDepth 20000 in
theorem gL_law_X9_like : GoodIn wsL_law (wsV RL 42 RX9 yX9_like wsX9_like) := goodIn_app (goodIn_of _ (by decide +kernel)) ggL_law_X9_like
set_option maxRecDepth 20000 in
theorem ggL_law_X10_like : GoodIn wsL_law wsX10_like := goodIn_r _ [473, 414, 415, 5, 416, 417, 147, 148, 149, 375, 376, 377, 378, 110, 379, 380, 381, 474, 475, 476, 477, 113, 114, 418, 419, 420, 421, 422, 423, 424, 425, 426, 427, 428, 478, 479, 480, 481, 447, 448, 449, 450, 115, 451, 452, 453, 934, 935, 936, 937, 938, 939, 940, 941, 942, 943, 944, 945, 946] (by decide +kernel) (by decide +kernel)
set_option maxRecDepth 20000 in
theorem gL_law_X10_like : GoodIn wsL_law (wsV RL 46 RX10 yX10_like wsX10_like) := goodIn_app (goodIn_of _ (by decide +kernel)) ggL_law_X10_like
set_option maxRecDepth 20000 in
theorem ggL_law_X9_stand : GoodIn wsL_law wsX9_stand := goodIn_r _ [485, 36, 24, 392, 393, 2, 394, 389, 390, 391, 356, 357, 358, 35, 359, 360, 361, 362, 363, 71, 245, 246, 247, 364, 234, 199, 235, 486, 487, 488, 23, 489, 53, 490, 927, 928, 929, 930, 931, 932, 933, 966, 967, 968, 969, 970, 971, 972, 973, 974, 955, 956, 957] (by decide +kernel) (by decide +kernel)
set_option maxRecDepth 20000 in
theorem gL_law_X9_stand : GoodIn wsL_law (wsV RL 47 RX9 yX9_stand wsX9_stand) := goodIn_app (goodIn_of _ (by decide +kernel)) ggL_law_X9_stand
set_option maxRecDepth 20000 in
theorem ggL_law_X10_stand : GoodIn wsL_law wsX10_stand := goodIn_r _ [494, 111, 414, 415, 5, 416, 417, 147, 148, 149, 375, 376, 377, 378, 110, 379, 380, 381, 934, 935, 936, 937, 938, 939, 940, 941, 942, 943, 944, 945, 946] (by decide +kernel) (by decide +kernel)
set_option maxRecDepth 20000 in
theorem gL_law_X10_stand : GoodIn wsL_law (wsV RL 51 RX10 yX10_stand wsX10_stand) := goodIn_app (goodIn_of _ (by decide +kernel)) ggL_law_X10_stand
