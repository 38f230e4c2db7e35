set_option maxRecDepth 20000 in
theorem ggL_law_X8_from : GoodIn wsL_law wsX8_from := goodIn_r _ [737, 36, 738, 452, 424, 453, 739, 740, 2, 741, 377, 378, 379, 742, 743, 744, 35, 745, 72, 244, 245, 246, 380, 347, 348, 349, 71, 237, 238, 239, 746, 747, 748, 749, 32, 447, 448, 449, 31, 450, 451, 426, 210, 207, 211, 454, 419, 420, 421, 422, 423, 425, 66, 427, 219, 220, 522, 523, 524, 525, 92, 903, 904, 905, 906, 907, 908, 909, 942, 943, 944, 945, 946, 947, 948, 949, 950, 941] (by decide +kernel) (by decide +kernel)
set_option maxRecDepth 20000 in
theorem gL_law_X8_from : GoodIn wsL_law (wsV RL 89 RX8 yX8_from wsX8_from) := goodIn_app (goodIn_of _ (by decide +kernel)) ggL_law_X8_from
set_option maxRecDepth 20000 in
theorem ggL_law_X9_from : GoodIn wsL_law wsX9_from := goodIn_r _ [753, 754, 110, 113, 114, 147, 148, 5, 149, 399, 400, 401, 402, 755, 756, 757, 403, 404, 405, 406, 407, 408, 409, 410, 411, 412, 413, 364, 365, 366, 463, 464, 465, 466, 432, 433, 434, 435, 115, 436, 437, 438, 910, 911, 912, 913, 914, 915, 916, 917, 918, 919, 920, 921, 922] (by decide +kernel) (by decide +kernel)
set_option maxRecDepth 20000 in
theorem gL_law_X9_from : GoodIn wsL_law (wsV RL 92 RX9 yX9_from wsX9_from) := goodIn_app (goodIn_of _ (by decide +kernel)) ggL_law_X9_from
set_option maxRecDepth 20000 in
theorem ggL_law_X8_chance : GoodIn wsL_law wsX8_chance := goodIn_r _ [761, 36, 32, 739, 740, 2, 741, 374, 375, 376, 742, 743, 744, 35, 745, 72, 244, 245, 246, 380, 347, 348, 349, 71, 237, 238, 239, 447, 448, 449, 31, 450, 451, 452, 424, 453, 426, 210, 207, 211, 454, 419, 420, 421, 422, 423, 425, 66, 427, 219, 220, 522, 523, 524, 525, 92, 903, 904, 905, 906, 907, 908, 909, 942, 943, 944, 945, 946, 947, 948, 949, 950, 941] (by decide +kernel) (by decide +kernel)
set_option maxRecDepth 20000 in
theorem gL_law_X8_chance : GoodIn wsL_law (wsV RL 93 RX8 yX8_chance wsX8_chance) := goodIn_app (goodIn_of _ (by decide +kernel)) ggL_law_X8_chance
set_option maxRecDepth 20000 in
theorem ggL_law_X9_chance : GoodIn wsL_law wsX9_chance := goodIn_r _ [765, 754, 110, 113, 114, 147, 148, 5, 149, 755, 756, 757, 364, 365, 366, 403, 404, 405, 406, 407, 408, 409, 410, 411, 412, 413, 463, 464, 465, 466, 432, 433, 434, 435, 115, 436, 437, 438, 910, 911, 912, 913, 914, 915, 916, 917, 918, 919, 920, 921, 922] (by decide +kernel) (by decide +kernel)
set_option maxRecDepth 20000 in
theorem gL_law_X9_chance : GoodIn wsL_law (wsV RL 96 RX9 yX9_chance wsX9_chance) := goodIn_app (goodIn_of _ (by decide +kernel)) ggL_law_X9_chance
set_option maxRecDepth 20000 in
theorem ggL_law_X8_joined : GoodIn wsL_law wsX8_joined := goodIn_r _ [769, 36, 377, 378, 2, 379, 742, 743, 744, 35, 745, 72, 244, 245, 246, 770, 771, 772, 773, 32, 418, 419, 420, 31, 421, 422, 423, 424, 425, 66, 426, 210, 207, 211, 427, 219, 220, 903, 904, 905, 906, 907, 908, 909, 942, 943, 944, 945, 946, 947, 948, 949, 950, 941] (by decide +kernel) (by decide +kernel)
set_option maxRecDepth 20000 in
theorem gL_law_X8_joined : GoodIn wsL_law (wsV RL 97 RX8 yX8_joined wsX8_joined) := goodIn_app (goodIn_of _ (by decide +kernel)) ggL_law_X8_joined
set_option maxRecDepth 20000 in
theorem ggL_law_X9_joined : GoodIn wsL_law wsX9_joined := goodIn_r _ [777, 110, 113, 114, 399, 400, 5, 401, 402, 147, 148, 149, 755, 756, 757, 403, 404, 405, 406, 407, 408, 409, 410, 411, 412, 413, 432, 433, 434, 435, 115, 436, 437, 438, 910, 911, 912, 913, 914, 915, 916, 917, 918, 919, 920, 921, 922] (by decide +kernel) (by decide +kernel)
set_option maxRecDepth 20000 in
theorem gL_law_X9_joined : GoodIn wsL_law (wsV RL 100 RX9 yX9_joined wsX9_joined) := goodIn_app (goodIn_of _ (by decide +kernel)) ggL_law_X9_joined
