set_option maxRecDepth 20000 in
theorem wsL_in_r11 : ∀ w ∈ wsL_law_r11, w ∈ lw_tbl := fun w h => (goodIn_r wsL_law_r11 [355, 356, 357, 358, 359, 360, 361, 362, 363, 364, 365, 366, 367, 368, 369, 370, 371, 372, 373, 374, 375, 377, 8, 378] (by decide +kernel) (by decide +kernel) w h).1
set_option maxRecDepth 20000 in
theorem wsL_in_r12 : ∀ w ∈ wsL_law_r12, w ∈ lw_tbl := fun w h => (goodIn_r wsL_law_r12 [379, 380, 381, 382, 383, 384, 385, 386, 387, 388, 389, 390, 391, 392, 393, 394, 395, 824, 825, 826, 827, 773, 828, 830] (by decide +kernel) (by decide +kernel) w h).1
set_option maxRecDepth 20000 in
theorem wsL_in_r13 : ∀ w ∈ wsL_law_r13, w ∈ lw_tbl := fun w h => (goodIn_r wsL_law_r13 [23, 831, 832, 834, 24, 835, 836, 838, 25, 839, 840, 842, 26, 843, 844, 845, 846, 848, 27, 849, 850, 852, 28, 853] (by decide +kernel) (by decide +kernel) w h).1
set_option maxRecDepth 20000 in
theorem wsL_in_r14 : ∀ w ∈ wsL_law_r14, w ∈ lw_tbl := fun w h => (goodIn_r wsL_law_r14 [854, 856, 29, 857, 858, 859, 861, 30, 862, 863, 865, 31, 866, 867, 869, 32, 870, 871, 873, 33, 874, 875, 877, 34] (by decide +kernel) (by decide +kernel) w h).1
set_option maxRecDepth 20000 in
theorem wsL_in_r15 : ∀ w ∈ wsL_law_r15, w ∈ lw_tbl := fun w h => (goodIn_r wsL_law_r15 [878, 879, 881, 35, 882, 883, 396, 397, 398, 399, 400, 401, 402, 403, 126, 404, 405, 407, 9, 408, 409, 410, 411, 412] (by decide +kernel) (by decide +kernel) w h).1
set_option maxRecDepth 20000 in
theorem wsL_in_r16 : ∀ w ∈ wsL_law_r16, w ∈ lw_tbl := fun w h => (goodIn_r wsL_law_r16 [413, 414, 415, 416, 417, 884, 885, 886, 887, 778, 888, 889, 891, 36, 892, 893, 895, 37, 896, 897, 898, 899, 900, 901] (by decide +kernel) (by decide +kernel) w h).1
set_option maxRecDepth 20000 in
theorem wsL_in_r17 : ∀ w ∈ wsL_law_r17, w ∈ lw_tbl := fun w h => (goodIn_r wsL_law_r17 [902, 418, 419, 420, 421, 422, 423, 424, 425, 426, 427, 428, 429, 430, 431, 432, 433, 434, 435, 436, 437, 438, 439, 440] (by decide +kernel) (by decide +kernel) w h).1
set_option maxRecDepth 20000 in
theorem wsL_in_r18 : ∀ w ∈ wsL_law_r18, w ∈ lw_tbl := fun w h => (goodIn_r wsL_law_r18 [903, 904, 905, 906, 911, 912, 907, 908, 909, 910, 913, 915, 38, 916, 917, 919, 39, 920, 921, 922, 923, 441, 442, 443] (by decide +kernel) (by decide +kernel) w h).1
set_option maxRecDepth 20000 in
theorem wsL_in_r19 : ∀ w ∈ wsL_law_r19, w ∈ lw_tbl := fun w h => (goodIn_r wsL_law_r19 [444, 445, 446, 447, 448, 450, 451, 67, 452, 449, 453, 924, 925, 926, 927, 928, 930, 40, 931, 932, 933, 934, 454, 455] (by decide +kernel) (by decide +kernel) w h).1
set_option maxRecDepth 20000 in
theorem wsL_in_r20 : ∀ w ∈ wsL_law_r20, w ∈ lw_tbl := fun w h => (goodIn_r wsL_law_r20 [456, 457, 458, 460, 10, 461, 462, 463, 464, 465, 466, 467, 468, 469, 935, 936, 937, 938, 939, 941, 41, 942, 943, 945] (by decide +kernel) (by decide +kernel) w h).1
