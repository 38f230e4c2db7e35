set_option maxRecDepth 20000 in
theorem ggL_law_X8_far : GoodIn wsL_law wsX8_far := goodIn_r _ [417, 36, 32, 374, 375, 2, 376, 377, 378, 379, 380, 347, 348, 35, 349, 71, 237, 238, 239, 418, 419, 420, 31, 421, 422, 423, 424, 425, 66, 426, 210, 207, 211, 427, 219, 220, 903, 904, 905, 906, 907, 908, 909, 942, 943, 944, 945, 946, 947, 948, 949, 950, 941] (by decide +kernel) (by decide +kernel)
set_option maxRecDepth 20000 in
theorem gL_law_X8_far : GoodIn wsL_law (wsV RL 38 RX8 yX8_far wsX8_far) := goodIn_app (goodIn_of _ (by decide +kernel)) ggL_law_X8_far
set_option maxRecDepth 20000 in
theorem ggL_law_X9_far : GoodIn wsL_law wsX9_far := goodIn_r _ [431, 113, 114, 147, 148, 5, 149, 399, 400, 401, 402, 364, 365, 366, 403, 404, 405, 406, 110, 407, 408, 409, 410, 411, 412, 413, 432, 433, 434, 435, 115, 436, 437, 438, 910, 911, 912, 913, 914, 915, 916, 917, 918, 919, 920, 921, 922] (by decide +kernel) (by decide +kernel)
set_option maxRecDepth 20000 in
theorem gL_law_X9_far : GoodIn wsL_law (wsV RL 41 RX9 yX9_far wsX9_far) := goodIn_app (goodIn_of _ (by decide +kernel)) ggL_law_X9_far
set_option maxRecDepth 20000 in
theorem ggL_law_X8_like : GoodIn wsL_law wsX8_like := goodIn_r _ [442, 36, 377, 378, 2, 379, 342, 343, 344, 35, 345, 346, 347, 348, 349, 71, 237, 238, 239, 443, 444, 445, 446, 32, 380, 381, 382, 383, 384, 385, 210, 207, 211, 251, 219, 220, 386, 387, 388, 389, 73, 74, 390, 206, 208, 209, 447, 448, 449, 31, 450, 451, 452, 424, 453, 426, 454, 419, 420, 421, 422, 423, 425, 66, 427, 903, 904, 905, 906, 907, 908, 909, 942, 943, 944, 945, 946, 947, 948, 949, 950, 941] (by decide +kernel) (by decide +kernel)
set_option maxRecDepth 20000 in
theorem gL_law_X8_like : GoodIn wsL_law (wsV RL 42 RX8 yX8_like wsX8_like) := goodIn_app (goodIn_of _ (by decide +kernel)) ggL_law_X8_like
set_option maxRecDepth 20000 in
theorem ggL_law_X9_like : GoodIn wsL_law wsX9_like := goodIn_r _ [458, 399, 400, 5, 401, 402, 147, 148, 149, 360, 361, 362, 363, 110, 364, 365, 366, 459, 460, 461, 462, 113, 114, 403, 404, 405, 406, 407, 408, 409, 410, 411, 412, 413, 463, 464, 465, 466, 432, 433, 434, 435, 115, 436, 437, 438, 910, 911, 912, 913, 914, 915, 916, 917, 918, 919, 920, 921, 922] (by decide +kernel) (by decide +kernel)
set_option maxRecDepth 20000 in
theorem gL_law_X9_like : GoodIn wsL_law (wsV RL 46 RX9 yX9_like wsX9_like) := goodIn_app (goodIn_of _ (by decide +kernel)) ggL_law_X9_like
set_option maxRecDepth 20000 in
theorem ggL_law_X8_stand : GoodIn wsL_law wsX8_stand := goodIn_r _ [470, 36, 24, 377, 378, 2, 379, 374, 375, 376, 342, 343, 344, 35, 345, 346, 347, 348, 349, 71, 237, 238, 239, 471, 472, 473, 23, 474, 53, 903, 904, 905, 906, 907, 908, 909, 942, 943, 944, 945, 946, 947, 948, 949, 950, 931, 932, 933] (by decide +kernel) (by decide +kernel)
set_option maxRecDepth 20000 in
theorem gL_law_X8_stand : GoodIn wsL_law (wsV RL 47 RX8 yX8_stand wsX8_stand) := goodIn_app (goodIn_of _ (by decide +kernel)) ggL_law_X8_stand
set_option maxRecDepth 20000 in
theorem ggL_law_X9_stand : GoodIn wsL_law wsX9_stand := goodIn_r _ [478, 111, 399, 400, 5, 401, 402, 147, 148, 149, 360, 361, 362, 363, 110, 364, 365, 366, 910, 911, 912, 913, 914, 915, 916, 917, 918, 919, 920, 921, 922] (by decide +kernel) (by decide +kernel)
set_option maxRecDepth 20000 in
theorem gL_law_X9_stand : GoodIn wsL_law (wsV RL 51 RX9 yX9_stand wsX9_stand) := goodIn_app (goodIn_of _ (by decide +kernel)) ggL_law_X9_stand
