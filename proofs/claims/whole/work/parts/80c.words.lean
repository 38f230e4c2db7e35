set_option maxRecDepth 20000 in
theorem wsL_in_r21 : ∀ w ∈ wsL_law_r21, w ∈ lw_tbl := fun w h => (goodIn_r wsL_law_r21 [464, 465, 466, 467, 469, 10, 470, 471, 472, 473, 474, 475, 476, 477, 478, 927, 928, 929, 930, 931, 933, 43, 934, 479] (by decide +kernel) (by decide +kernel) w h).1
set_option maxRecDepth 20000 in
theorem wsL_in_r22 : ∀ w ∈ wsL_law_r22, w ∈ lw_tbl := fun w h => (goodIn_r wsL_law_r22 [480, 481, 482, 483, 484, 485, 486, 488, 11, 489, 490, 492, 12, 493, 494, 496, 13, 497, 498, 499, 500, 501, 502, 503] (by decide +kernel) (by decide +kernel) w h).1
set_option maxRecDepth 20000 in
theorem wsL_in_r23 : ∀ w ∈ wsL_law_r23, w ∈ lw_tbl := fun w h => (goodIn_r wsL_law_r23 [504, 505, 506, 507, 508, 509, 510, 511, 512, 513, 143, 144, 514, 515, 516, 517, 518, 519, 520, 521, 522, 523, 530, 524] (by decide +kernel) (by decide +kernel) w h).1
set_option maxRecDepth 20000 in
theorem wsL_in_r24 : ∀ w ∈ wsL_law_r24, w ∈ lw_tbl := fun w h => (goodIn_r wsL_law_r24 [525, 526, 527, 528, 529, 531, 532, 533, 534, 535, 536, 537, 538, 145, 539, 541, 540, 67, 542, 544, 14, 545, 546, 548] (by decide +kernel) (by decide +kernel) w h).1
set_option maxRecDepth 20000 in
theorem wsL_in_r25 : ∀ w ∈ wsL_law_r25, w ∈ lw_tbl := fun w h => (goodIn_r wsL_law_r25 [15, 549, 550, 551, 552, 553, 554, 935, 936, 937, 938, 939, 940, 942, 44, 943, 944, 946, 45, 947, 948, 949, 951, 46] (by decide +kernel) (by decide +kernel) w h).1
set_option maxRecDepth 20000 in
theorem wsL_in_r26 : ∀ w ∈ wsL_law_r26, w ∈ lw_tbl := fun w h => (goodIn_r wsL_law_r26 [952, 953, 955, 47, 956, 957, 959, 48, 960, 961, 555, 556, 557, 558, 559, 560, 561, 562, 563, 962, 963, 964, 965, 966] (by decide +kernel) (by decide +kernel) w h).1
set_option maxRecDepth 20000 in
theorem wsL_in_r27 : ∀ w ∈ wsL_law_r27, w ∈ lw_tbl := fun w h => (goodIn_r wsL_law_r27 [968, 49, 969, 564, 565, 566, 567, 571, 568, 569, 570, 572, 970, 971, 972, 973, 974, 975, 976, 573, 574, 575, 576, 581] (by decide +kernel) (by decide +kernel) w h).1
set_option maxRecDepth 20000 in
theorem wsL_in_r28 : ∀ w ∈ wsL_law_r28, w ∈ lw_tbl := fun w h => (goodIn_r wsL_law_r28 [577, 578, 579, 580, 977, 978, 979, 980, 981, 582, 583, 584, 585, 982, 983, 984, 985, 586, 587, 588, 589, 986, 987, 988] (by decide +kernel) (by decide +kernel) w h).1
set_option maxRecDepth 20000 in
theorem wsL_in_r29 : ∀ w ∈ wsL_law_r29, w ∈ lw_tbl := fun w h => (goodIn_r wsL_law_r29 [989, 590, 591, 592, 593, 594, 596, 16, 597, 598, 599, 600, 601, 602, 603, 604, 605, 606, 607, 608, 609, 610, 612, 17] (by decide +kernel) (by decide +kernel) w h).1
set_option maxRecDepth 20000 in
theorem wsL_in_r30 : ∀ w ∈ wsL_law_r30, w ∈ lw_tbl := fun w h => (goodIn_r wsL_law_r30 [613, 614, 615, 68, 616, 617, 618, 619, 990, 991, 992, 993, 994, 995, 996, 998, 50, 999, 1000, 1001, 1002, 1003, 1004, 1005] (by decide +kernel) (by decide +kernel) w h).1
