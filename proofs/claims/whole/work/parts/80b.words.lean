set_option maxRecDepth 20000 in
theorem wsL_in_r11 : ∀ w ∈ wsL_law_r11, w ∈ lw_tbl := fun w h => (goodIn_r wsL_law_r11 [355, 356, 357, 358, 359, 360, 361, 362, 363, 364, 365, 366, 367, 368, 369, 370, 371, 372, 373, 374, 375, 376, 377, 378] (by decide +kernel) (by decide +kernel) w h).1
set_option maxRecDepth 20000 in
theorem wsL_in_r12 : ∀ w ∈ wsL_law_r12, w ∈ lw_tbl := fun w h => (goodIn_r wsL_law_r12 [379, 380, 381, 800, 801, 802, 803, 749, 804, 806, 23, 807, 808, 810, 24, 811, 812, 814, 25, 815, 816, 818, 26, 819] (by decide +kernel) (by decide +kernel) w h).1
set_option maxRecDepth 20000 in
theorem wsL_in_r13 : ∀ w ∈ wsL_law_r13, w ∈ lw_tbl := fun w h => (goodIn_r wsL_law_r13 [820, 821, 822, 824, 27, 825, 826, 828, 28, 829, 830, 832, 29, 833, 834, 835, 837, 30, 838, 839, 841, 31, 842, 843] (by decide +kernel) (by decide +kernel) w h).1
set_option maxRecDepth 20000 in
theorem wsL_in_r14 : ∀ w ∈ wsL_law_r14, w ∈ lw_tbl := fun w h => (goodIn_r wsL_law_r14 [845, 32, 846, 847, 849, 33, 850, 851, 853, 34, 854, 855, 857, 35, 858, 859, 382, 383, 384, 385, 386, 387, 388, 389] (by decide +kernel) (by decide +kernel) w h).1
set_option maxRecDepth 20000 in
theorem wsL_in_r15 : ∀ w ∈ wsL_law_r15, w ∈ lw_tbl := fun w h => (goodIn_r wsL_law_r15 [125, 390, 391, 393, 8, 394, 395, 396, 397, 398, 399, 400, 401, 402, 860, 861, 862, 863, 754, 864, 865, 867, 36, 868] (by decide +kernel) (by decide +kernel) w h).1
set_option maxRecDepth 20000 in
theorem wsL_in_r16 : ∀ w ∈ wsL_law_r16, w ∈ lw_tbl := fun w h => (goodIn_r wsL_law_r16 [869, 871, 37, 872, 873, 874, 875, 876, 877, 878, 403, 404, 405, 406, 407, 408, 409, 410, 411, 412, 413, 414, 415, 416] (by decide +kernel) (by decide +kernel) w h).1
set_option maxRecDepth 20000 in
theorem wsL_in_r17 : ∀ w ∈ wsL_law_r17, w ∈ lw_tbl := fun w h => (goodIn_r wsL_law_r17 [417, 418, 419, 420, 421, 422, 423, 424, 425, 879, 880, 881, 882, 887, 888, 883, 884, 885, 886, 889, 891, 38, 892, 893] (by decide +kernel) (by decide +kernel) w h).1
set_option maxRecDepth 20000 in
theorem wsL_in_r18 : ∀ w ∈ wsL_law_r18, w ∈ lw_tbl := fun w h => (goodIn_r wsL_law_r18 [895, 39, 896, 897, 898, 899, 426, 427, 428, 429, 430, 431, 432, 433, 435, 436, 66, 437, 434, 438, 900, 901, 902, 903] (by decide +kernel) (by decide +kernel) w h).1
set_option maxRecDepth 20000 in
theorem wsL_in_r19 : ∀ w ∈ wsL_law_r19, w ∈ lw_tbl := fun w h => (goodIn_r wsL_law_r19 [904, 906, 40, 907, 908, 909, 910, 439, 440, 441, 442, 443, 445, 9, 446, 447, 448, 449, 450, 451, 452, 453, 454, 911] (by decide +kernel) (by decide +kernel) w h).1
set_option maxRecDepth 20000 in
theorem wsL_in_r20 : ∀ w ∈ wsL_law_r20, w ∈ lw_tbl := fun w h => (goodIn_r wsL_law_r20 [912, 913, 914, 915, 917, 41, 918, 919, 921, 42, 922, 455, 456, 457, 458, 459, 460, 461, 462, 923, 924, 925, 926, 463] (by decide +kernel) (by decide +kernel) w h).1
