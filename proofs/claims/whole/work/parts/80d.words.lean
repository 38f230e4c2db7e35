set_option maxRecDepth 20000 in
theorem wsL_in_r31 : ∀ w ∈ wsL_law_r31, w ∈ lw_tbl := fun w h => (goodIn_r wsL_law_r31 [1006, 1007, 1008, 1010, 51, 1011, 620, 621, 622, 623, 1012, 1013, 1014, 1015, 624, 625, 626, 627, 639, 628, 629, 630, 631, 632] (by decide +kernel) (by decide +kernel) w h).1
set_option maxRecDepth 20000 in
theorem wsL_in_r32 : ∀ w ∈ wsL_law_r32, w ∈ lw_tbl := fun w h => (goodIn_r wsL_law_r32 [633, 634, 635, 637, 18, 638, 1016, 1017, 1018, 1019, 1020, 1021, 1022, 1023, 640, 641, 642, 643, 1024, 1025, 1026, 1027, 644, 645] (by decide +kernel) (by decide +kernel) w h).1
set_option maxRecDepth 20000 in
theorem wsL_in_r33 : ∀ w ∈ wsL_law_r33, w ∈ lw_tbl := fun w h => (goodIn_r wsL_law_r33 [646, 647, 648, 650, 19, 651, 1028, 1029, 1030, 1031, 652, 653, 654, 655, 656, 657, 658, 659, 660, 661, 662, 663, 664, 1032] (by decide +kernel) (by decide +kernel) w h).1
set_option maxRecDepth 20000 in
theorem wsL_in_r34 : ∀ w ∈ wsL_law_r34, w ∈ lw_tbl := fun w h => (goodIn_r wsL_law_r34 [1033, 1034, 1035, 1036, 1037, 1038, 1039, 1040, 665, 666, 667, 668, 1041, 1042, 1043, 1044, 669, 670, 671, 672, 673, 674, 675, 676] (by decide +kernel) (by decide +kernel) w h).1
set_option maxRecDepth 20000 in
theorem wsL_in_r35 : ∀ w ∈ wsL_law_r35, w ∈ lw_tbl := fun w h => (goodIn_r wsL_law_r35 [677, 678, 679, 680, 681, 682, 684, 20, 685, 1045, 1046, 1047, 1048, 1049, 1051, 52, 1052, 1053, 1055, 53, 1056, 686, 687, 688] (by decide +kernel) (by decide +kernel) w h).1
set_option maxRecDepth 20000 in
theorem wsL_in_r36 : ∀ w ∈ wsL_law_r36, w ∈ lw_tbl := fun w h => (goodIn_r wsL_law_r36 [689, 690, 691, 692, 693, 1057, 1058, 1059, 1060, 694, 695, 696, 697, 698, 1061, 1062, 1063, 1064, 699, 700, 701, 702, 703, 704] (by decide +kernel) (by decide +kernel) w h).1
set_option maxRecDepth 20000 in
theorem wsL_in_r37 : ∀ w ∈ wsL_law_r37, w ∈ lw_tbl := fun w h => (goodIn_r wsL_law_r37 [705, 706, 707, 708, 709, 710, 711, 1065, 1066, 1067, 1068, 712, 713, 714, 715, 716, 717, 718, 719, 1069, 1070, 1071, 1072, 720] (by decide +kernel) (by decide +kernel) w h).1
set_option maxRecDepth 20000 in
theorem wsL_in_r38 : ∀ w ∈ wsL_law_r38, w ∈ lw_tbl := fun w h => (goodIn_r wsL_law_r38 [721, 722, 723, 724, 725, 726, 727, 728, 729, 730, 731, 1073, 1074, 1075, 1076] (by decide +kernel) (by decide +kernel) w h).1
