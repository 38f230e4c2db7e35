set_option maxRecDepth 20000 in
theorem wsL_in_r31 : ∀ w ∈ wsL_law_r31, w ∈ lw_tbl := fun w h => (goodIn_r wsL_law_r31 [637, 638, 69, 639, 640, 641, 642, 1014, 1015, 1016, 1017, 1018, 1019, 1020, 1022, 50, 1023, 1024, 1025, 1026, 1027, 1028, 1029, 1030] (by decide +kernel) (by decide +kernel) w h).1
set_option maxRecDepth 20000 in
theorem wsL_in_r32 : ∀ w ∈ wsL_law_r32, w ∈ lw_tbl := fun w h => (goodIn_r wsL_law_r32 [1031, 1032, 1034, 51, 1035, 643, 644, 645, 646, 1036, 1037, 1038, 1039, 647, 648, 649, 650, 662, 651, 652, 653, 654, 655, 656] (by decide +kernel) (by decide +kernel) w h).1
set_option maxRecDepth 20000 in
theorem wsL_in_r33 : ∀ w ∈ wsL_law_r33, w ∈ lw_tbl := fun w h => (goodIn_r wsL_law_r33 [657, 658, 660, 18, 661, 1040, 1041, 1042, 1043, 1044, 1045, 1046, 1047, 663, 664, 665, 666, 1048, 1049, 1050, 1051, 667, 668, 669] (by decide +kernel) (by decide +kernel) w h).1
set_option maxRecDepth 20000 in
theorem wsL_in_r34 : ∀ w ∈ wsL_law_r34, w ∈ lw_tbl := fun w h => (goodIn_r wsL_law_r34 [670, 671, 673, 19, 674, 1052, 1053, 1054, 1055, 675, 676, 677, 678, 679, 680, 681, 682, 683, 684, 685, 686, 687, 1056, 1057] (by decide +kernel) (by decide +kernel) w h).1
set_option maxRecDepth 20000 in
theorem wsL_in_r35 : ∀ w ∈ wsL_law_r35, w ∈ lw_tbl := fun w h => (goodIn_r wsL_law_r35 [1058, 1059, 1060, 1061, 1062, 1063, 1064, 688, 689, 690, 691, 1065, 1066, 1067, 1068, 692, 693, 694, 695, 696, 697, 698, 699, 700] (by decide +kernel) (by decide +kernel) w h).1
set_option maxRecDepth 20000 in
theorem wsL_in_r36 : ∀ w ∈ wsL_law_r36, w ∈ lw_tbl := fun w h => (goodIn_r wsL_law_r36 [701, 702, 703, 704, 705, 707, 20, 708, 709, 1069, 1070, 1071, 1072, 1073, 1075, 52, 1076, 1077, 1079, 53, 1080, 710, 711, 712] (by decide +kernel) (by decide +kernel) w h).1
set_option maxRecDepth 20000 in
theorem wsL_in_r37 : ∀ w ∈ wsL_law_r37, w ∈ lw_tbl := fun w h => (goodIn_r wsL_law_r37 [713, 714, 715, 716, 717, 1081, 1082, 1083, 1084, 718, 719, 720, 721, 722, 1085, 1086, 1087, 1088, 723, 724, 725, 726, 727, 728] (by decide +kernel) (by decide +kernel) w h).1
set_option maxRecDepth 20000 in
theorem wsL_in_r38 : ∀ w ∈ wsL_law_r38, w ∈ lw_tbl := fun w h => (goodIn_r wsL_law_r38 [729, 730, 731, 732, 733, 734, 735, 1089, 1090, 1091, 1092, 736, 737, 738, 739, 740, 741, 742, 743, 1093, 1094, 1095, 1096, 744] (by decide +kernel) (by decide +kernel) w h).1
set_option maxRecDepth 20000 in
theorem wsL_in_r39 : ∀ w ∈ wsL_law_r39, w ∈ lw_tbl := fun w h => (goodIn_r wsL_law_r39 [745, 746, 747, 748, 749, 750, 751, 752, 753, 754, 755, 1097, 1098, 1099, 1100] (by decide +kernel) (by decide +kernel) w h).1
