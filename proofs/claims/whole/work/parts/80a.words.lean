set_option maxRecDepth 20000 in
theorem wsL_in_r1 : ∀ w ∈ wsL_law_r1, w ∈ lw_tbl := fun w h => (goodIn_r wsL_law_r1 [69, 70, 55, 732, 733, 64, 1077, 71, 72, 73, 74, 75, 76, 77, 78, 56, 240, 91, 92, 57, 241, 117, 118, 58] (by decide +kernel) (by decide +kernel) w h).1
set_option maxRecDepth 20000 in
theorem wsL_in_r2 : ∀ w ∈ wsL_law_r2, w ∈ lw_tbl := fun w h => (goodIn_r wsL_law_r2 [242, 133, 134, 59, 243, 162, 163, 60, 244, 172, 173, 61, 245, 246, 80, 81, 82, 90, 83, 93, 94, 95, 96, 116] (by decide +kernel) (by decide +kernel) w h).1
set_option maxRecDepth 20000 in
theorem wsL_in_r3 : ∀ w ∈ wsL_law_r3, w ∈ lw_tbl := fun w h => (goodIn_r wsL_law_r3 [98, 97, 120, 121, 122, 123, 124, 136, 137, 138, 161, 139, 140, 141, 142, 165, 166, 167, 168, 174, 175, 176, 177, 212] (by decide +kernel) (by decide +kernel) w h).1
set_option maxRecDepth 20000 in
theorem wsL_in_r4 : ∀ w ∈ wsL_law_r4, w ∈ lw_tbl := fun w h => (goodIn_r wsL_law_r4 [213, 214, 215, 216, 217, 178, 179, 62, 218, 181, 182, 183, 184, 185, 200, 201, 202, 203, 207, 219, 220, 204, 205, 63] (by decide +kernel) (by decide +kernel) w h).1
set_option maxRecDepth 20000 in
theorem wsL_in_r5 : ∀ w ∈ wsL_law_r5, w ∈ lw_tbl := fun w h => (goodIn_r wsL_law_r5 [206, 208, 209, 210, 211, 186, 187, 188, 734, 735, 736, 737, 747, 750, 751, 752, 753, 755, 756, 757, 758, 759, 738, 740] (by decide +kernel) (by decide +kernel) w h).1
set_option maxRecDepth 20000 in
theorem wsL_in_r6 : ∀ w ∈ wsL_law_r6, w ∈ lw_tbl := fun w h => (goodIn_r wsL_law_r6 [21, 741, 742, 743, 745, 22, 746, 262, 263, 264, 265, 266, 267, 268, 269, 84, 270, 271, 272, 273, 787, 788, 789, 790] (by decide +kernel) (by decide +kernel) w h).1
set_option maxRecDepth 20000 in
theorem wsL_in_r7 : ∀ w ∈ wsL_law_r7, w ∈ lw_tbl := fun w h => (goodIn_r wsL_law_r7 [791, 748, 795, 792, 793, 794, 274, 275, 276, 277, 278, 279, 280, 281, 796, 797, 798, 799, 282, 283, 284, 285, 286, 288] (by decide +kernel) (by decide +kernel) w h).1
set_option maxRecDepth 20000 in
theorem wsL_in_r8 : ∀ w ∈ wsL_law_r8, w ∈ lw_tbl := fun w h => (goodIn_r wsL_law_r8 [0, 289, 290, 291, 292, 293, 294, 99, 100, 295, 296, 297, 298, 299, 301, 1, 302, 101, 303, 305, 2, 306, 307, 309] (by decide +kernel) (by decide +kernel) w h).1
set_option maxRecDepth 20000 in
theorem wsL_in_r9 : ∀ w ∈ wsL_law_r9, w ∈ lw_tbl := fun w h => (goodIn_r wsL_law_r9 [3, 310, 311, 312, 313, 314, 316, 4, 317, 318, 320, 5, 321, 322, 323, 65, 324, 325, 326, 327, 328, 330, 6, 331] (by decide +kernel) (by decide +kernel) w h).1
set_option maxRecDepth 20000 in
theorem wsL_in_r10 : ∀ w ∈ wsL_law_r10, w ∈ lw_tbl := fun w h => (goodIn_r wsL_law_r10 [102, 332, 333, 334, 335, 336, 338, 7, 339, 340, 341, 342, 343, 344, 345, 346, 347, 348, 349, 350, 351, 352, 353, 354] (by decide +kernel) (by decide +kernel) w h).1
