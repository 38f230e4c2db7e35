set_option maxRecDepth 20000 in
theorem wsL_in_r21 : ∀ w ∈ wsL_law_r21, w ∈ lw_tbl := fun w h => (goodIn_r wsL_law_r21 [42, 946, 470, 471, 472, 473, 474, 475, 476, 477, 478, 947, 948, 949, 950, 479, 480, 481, 482, 483, 485, 11, 486, 487] (by decide +kernel) (by decide +kernel) w h).1
set_option maxRecDepth 20000 in
theorem wsL_in_r22 : ∀ w ∈ wsL_law_r22, w ∈ lw_tbl := fun w h => (goodIn_r wsL_law_r22 [488, 489, 490, 491, 492, 493, 494, 495, 951, 952, 953, 954, 955, 957, 43, 958, 496, 497, 498, 499, 500, 501, 502, 503] (by decide +kernel) (by decide +kernel) w h).1
set_option maxRecDepth 20000 in
theorem wsL_in_r23 : ∀ w ∈ wsL_law_r23, w ∈ lw_tbl := fun w h => (goodIn_r wsL_law_r23 [505, 12, 506, 507, 509, 13, 510, 511, 512, 513, 514, 515, 516, 517, 518, 519, 520, 521, 522, 523, 524, 525, 526, 144] (by decide +kernel) (by decide +kernel) w h).1
set_option maxRecDepth 20000 in
theorem wsL_in_r24 : ∀ w ∈ wsL_law_r24, w ∈ lw_tbl := fun w h => (goodIn_r wsL_law_r24 [145, 527, 528, 529, 530, 531, 532, 533, 534, 535, 536, 543, 537, 538, 539, 540, 541, 542, 544, 545, 546, 547, 548, 549] (by decide +kernel) (by decide +kernel) w h).1
set_option maxRecDepth 20000 in
theorem wsL_in_r25 : ∀ w ∈ wsL_law_r25, w ∈ lw_tbl := fun w h => (goodIn_r wsL_law_r25 [550, 551, 552, 553, 554, 146, 555, 557, 556, 68, 558, 560, 14, 561, 562, 563, 564, 565, 567, 15, 568, 569, 570, 571] (by decide +kernel) (by decide +kernel) w h).1
set_option maxRecDepth 20000 in
theorem wsL_in_r26 : ∀ w ∈ wsL_law_r26, w ∈ lw_tbl := fun w h => (goodIn_r wsL_law_r26 [572, 573, 959, 960, 961, 962, 963, 964, 966, 44, 967, 968, 970, 45, 971, 972, 973, 975, 46, 976, 977, 979, 47, 980] (by decide +kernel) (by decide +kernel) w h).1
set_option maxRecDepth 20000 in
theorem wsL_in_r27 : ∀ w ∈ wsL_law_r27, w ∈ lw_tbl := fun w h => (goodIn_r wsL_law_r27 [981, 983, 48, 984, 985, 574, 575, 576, 577, 578, 579, 580, 581, 582, 986, 987, 988, 989, 990, 992, 49, 993, 583, 584] (by decide +kernel) (by decide +kernel) w h).1
set_option maxRecDepth 20000 in
theorem wsL_in_r28 : ∀ w ∈ wsL_law_r28, w ∈ lw_tbl := fun w h => (goodIn_r wsL_law_r28 [585, 586, 590, 587, 588, 589, 591, 994, 995, 996, 997, 998, 999, 1000, 592, 593, 594, 595, 600, 596, 597, 598, 599, 1001] (by decide +kernel) (by decide +kernel) w h).1
set_option maxRecDepth 20000 in
theorem wsL_in_r29 : ∀ w ∈ wsL_law_r29, w ∈ lw_tbl := fun w h => (goodIn_r wsL_law_r29 [1002, 1003, 1004, 1005, 601, 602, 603, 604, 1006, 1007, 1008, 1009, 605, 606, 607, 608, 1010, 1011, 1012, 1013, 609, 610, 611, 612] (by decide +kernel) (by decide +kernel) w h).1
set_option maxRecDepth 20000 in
theorem wsL_in_r30 : ∀ w ∈ wsL_law_r30, w ∈ lw_tbl := fun w h => (goodIn_r wsL_law_r30 [613, 615, 16, 616, 617, 618, 619, 620, 621, 622, 623, 624, 625, 626, 627, 628, 629, 630, 631, 632, 633, 635, 17, 636] (by decide +kernel) (by decide +kernel) w h).1
