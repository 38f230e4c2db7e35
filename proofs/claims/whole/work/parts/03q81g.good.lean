set_option maxRecDepth 20000 in
theorem ggL_law_X9_from : GoodIn wsL_law wsX9_from := goodIn_r _ [760, 36, 761, 467, 439, 468, 762, 763, 2, 764, 392, 393, 394, 765, 766, 767, 35, 768, 72, 253, 254, 255, 364, 234, 199, 235, 395, 361, 362, 363, 71, 245, 246, 247, 769, 770, 771, 772, 32, 462, 463, 464, 31, 465, 466, 441, 214, 211, 215, 469, 434, 435, 436, 437, 438, 440, 66, 442, 223, 224, 535, 536, 537, 538, 92, 927, 928, 929, 930, 931, 932, 933, 966, 967, 968, 969, 970, 971, 972, 973, 974, 965] (by decide +kernel) (by decide +kernel)
set_option maxRecDepth 20000 in
theorem gL_law_X9_from : GoodIn wsL_law (wsV RL 89 RX9 yX9_from wsX9_from) := goodIn_app (goodIn_of _ (by decide +kernel)) ggL_law_X9_from
set_option maxRecDepth 20000 in
theorem ggL_law_X10_from : GoodIn wsL_law wsX10_from := goodIn_r _ [776, 777, 110, 113, 114, 147, 148, 5, 149, 414, 415, 416, 417, 778, 779, 780, 418, 419, 420, 421, 422, 423, 424, 425, 426, 427, 428, 379, 380, 381, 478, 479, 480, 481, 447, 448, 449, 450, 115, 451, 452, 453, 934, 935, 936, 937, 938, 939, 940, 941, 942, 943, 944, 945, 946] (by decide +kernel) (by decide +kernel)
set_option maxRecDepth 20000 in
theorem gL_law_X10_from : GoodIn wsL_law (wsV RL 92 RX10 yX10_from wsX10_from) := goodIn_app (goodIn_of _ (by decide +kernel)) ggL_law_X10_from
set_option maxRecDepth 20000 in
theorem ggL_law_X9_chance : GoodIn wsL_law wsX9_chance := goodIn_r _ [784, 36, 32, 762, 763, 2, 764, 389, 390, 391, 765, 766, 767, 35, 768, 72, 253, 254, 255, 364, 234, 199, 235, 395, 361, 362, 363, 71, 245, 246, 247, 462, 463, 464, 31, 465, 466, 467, 439, 468, 441, 214, 211, 215, 469, 434, 435, 436, 437, 438, 440, 66, 442, 223, 224, 535, 536, 537, 538, 92, 927, 928, 929, 930, 931, 932, 933, 966, 967, 968, 969, 970, 971, 972, 973, 974, 965] (by decide +kernel) (by decide +kernel)
set_option maxRecDepth 20000 in
theorem gL_law_X9_chance : GoodIn wsL_law (wsV RL 93 RX9 yX9_chance wsX9_chance) := goodIn_app (goodIn_of _ (by decide +kernel)) ggL_law_X9_chance
set_option maxRecDepth 20000 in
theorem ggL_law_X10_chance : GoodIn wsL_law wsX10_chance := goodIn_r _ [788, 777, 110, 113, 114, 147, 148, 5, 149, 778, 779, 780, 379, 380, 381, 418, 419, 420, 421, 422, 423, 424, 425, 426, 427, 428, 478, 479, 480, 481, 447, 448, 449, 450, 115, 451, 452, 453, 934, 935, 936, 937, 938, 939, 940, 941, 942, 943, 944, 945, 946] (by decide +kernel) (by decide +kernel)
set_option maxRecDepth 20000 in
theorem gL_law_X10_chance : GoodIn wsL_law (wsV RL 96 RX10 yX10_chance wsX10_chance) := goodIn_app (goodIn_of _ (by decide +kernel)) ggL_law_X10_chance
set_option maxRecDepth 20000 in
theorem ggL_law_X9_joined : GoodIn wsL_law wsX9_joined := goodIn_r _ [792, 36, 392, 393, 2, 394, 765, 766, 767, 35, 768, 72, 253, 254, 255, 364, 234, 199, 235, 793, 794, 795, 796, 32, 433, 434, 435, 31, 436, 437, 438, 439, 440, 66, 441, 214, 211, 215, 442, 223, 224, 927, 928, 929, 930, 931, 932, 933, 966, 967, 968, 969, 970, 971, 972, 973, 974, 965] (by decide +kernel) (by decide +kernel)
set_option maxRecDepth 20000 in
theorem gL_law_X9_joined : GoodIn wsL_law (wsV RL 97 RX9 yX9_joined wsX9_joined) := goodIn_app (goodIn_of _ (by decide +kernel)) ggL_law_X9_joined
set_option maxRecDepth 20000 in
theorem ggL_law_X10_joined : GoodIn wsL_law wsX10_joined := goodIn_r _ [800, 110, 113, 114, 414, 415, 5, 416, 417, 147, 148, 149, 778, 779, 780, 418, 419, 420, 421, 422, 423, 424, 425, 426, 427, 428, 447, 448, 449, 450, 115, 451, 452, 453, 934, 935, 936, 937, 938, 939, 940, 941, 942, 943, 944, 945, 946] (by decide +kernel) (by decide +kernel)
set_option maxRecDepth 20000 in
theorem gL_law_X10_joined : GoodIn wsL_law (wsV RL 100 RX10 yX10_joined wsX10_joined) := goodIn_app (goodIn_of _ (by decide +kernel)) ggL_law_X10_joined
