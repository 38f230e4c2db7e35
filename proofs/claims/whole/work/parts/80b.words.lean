set_option maxRecDepth 20000 in
theorem wsL_in_r11 : ∀ w ∈ wsL_law_r11, w ∈ lw_tbl := fun w h => (goodIn_r wsL_law_r11 [355, 356, 357, 358, 359, 360, 361, 362, 363, 364, 365, 366, 367, 368, 369, 370, 371, 372, 373, 374, 375, 376, 377, 378] (by decide +kernel) (by decide +kernel) w h).1
set_option maxRecDepth 20000 in
theorem wsL_in_r12 : ∀ w ∈ wsL_law_r12, w ∈ lw_tbl := fun w h => (goodIn_r wsL_law_r12 [379, 380, 381, 801, 802, 803, 804, 750, 805, 807, 23, 808, 809, 811, 24, 812, 813, 815, 25, 816, 817, 819, 26, 820] (by decide +kernel) (by decide +kernel) w h).1
set_option maxRecDepth 20000 in
theorem wsL_in_r13 : ∀ w ∈ wsL_law_r13, w ∈ lw_tbl := fun w h => (goodIn_r wsL_law_r13 [821, 822, 823, 825, 27, 826, 827, 829, 28, 830, 831, 833, 29, 834, 835, 836, 838, 30, 839, 840, 842, 31, 843, 844] (by decide +kernel) (by decide +kernel) w h).1
set_option maxRecDepth 20000 in
theorem wsL_in_r14 : ∀ w ∈ wsL_law_r14, w ∈ lw_tbl := fun w h => (goodIn_r wsL_law_r14 [846, 32, 847, 848, 850, 33, 851, 852, 854, 34, 855, 856, 858, 35, 859, 860, 382, 383, 384, 385, 386, 387, 388, 389] (by decide +kernel) (by decide +kernel) w h).1
set_option maxRecDepth 20000 in
theorem wsL_in_r15 : ∀ w ∈ wsL_law_r15, w ∈ lw_tbl := fun w h => (goodIn_r wsL_law_r15 [125, 390, 391, 393, 8, 394, 395, 396, 397, 398, 399, 400, 401, 402, 861, 862, 863, 864, 755, 865, 866, 868, 36, 869] (by decide +kernel) (by decide +kernel) w h).1
set_option maxRecDepth 20000 in
theorem wsL_in_r16 : ∀ w ∈ wsL_law_r16, w ∈ lw_tbl := fun w h => (goodIn_r wsL_law_r16 [870, 872, 37, 873, 874, 875, 876, 877, 878, 879, 403, 404, 405, 406, 407, 408, 409, 410, 411, 412, 413, 414, 415, 416] (by decide +kernel) (by decide +kernel) w h).1
set_option maxRecDepth 20000 in
theorem wsL_in_r17 : ∀ w ∈ wsL_law_r17, w ∈ lw_tbl := fun w h => (goodIn_r wsL_law_r17 [417, 418, 419, 420, 421, 422, 423, 424, 425, 880, 881, 882, 883, 888, 889, 884, 885, 886, 887, 890, 892, 38, 893, 894] (by decide +kernel) (by decide +kernel) w h).1
set_option maxRecDepth 20000 in
theorem wsL_in_r18 : ∀ w ∈ wsL_law_r18, w ∈ lw_tbl := fun w h => (goodIn_r wsL_law_r18 [896, 39, 897, 898, 899, 900, 426, 427, 428, 429, 430, 431, 432, 433, 435, 436, 66, 437, 434, 438, 901, 902, 903, 904] (by decide +kernel) (by decide +kernel) w h).1
set_option maxRecDepth 20000 in
theorem wsL_in_r19 : ∀ w ∈ wsL_law_r19, w ∈ lw_tbl := fun w h => (goodIn_r wsL_law_r19 [905, 907, 40, 908, 909, 910, 911, 439, 440, 441, 442, 443, 445, 9, 446, 447, 448, 449, 450, 451, 452, 453, 454, 912] (by decide +kernel) (by decide +kernel) w h).1
set_option maxRecDepth 20000 in
theorem wsL_in_r20 : ∀ w ∈ wsL_law_r20, w ∈ lw_tbl := fun w h => (goodIn_r wsL_law_r20 [913, 914, 915, 916, 918, 41, 919, 920, 922, 42, 923, 455, 456, 457, 458, 459, 460, 461, 462, 924, 925, 926, 927, 463] (by decide +kernel) (by decide +kernel) w h).1
