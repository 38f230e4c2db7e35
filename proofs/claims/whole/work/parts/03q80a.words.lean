set_option maxRecDepth 20000 in
theorem wsL_in_r1 : ∀ w ∈ wsL_law_r1, w ∈ lw_tbl := fun w h => (goodIn_r wsL_law_r1 [70, 71, 55, 756, 757, 64, 1101, 72, 73, 74, 75, 76, 77, 78, 79, 56, 241, 92, 93, 57, 242, 118, 119, 58] (by decide +kernel) (by decide +kernel) w h).1
set_option maxRecDepth 20000 in
theorem wsL_in_r2 : ∀ w ∈ wsL_law_r2, w ∈ lw_tbl := fun w h => (goodIn_r wsL_law_r2 [243, 134, 135, 59, 244, 163, 164, 60, 245, 173, 174, 61, 246, 247, 81, 82, 83, 91, 84, 94, 95, 96, 97, 117] (by decide +kernel) (by decide +kernel) w h).1
set_option maxRecDepth 20000 in
theorem wsL_in_r3 : ∀ w ∈ wsL_law_r3, w ∈ lw_tbl := fun w h => (goodIn_r wsL_law_r3 [99, 98, 121, 122, 123, 124, 125, 137, 138, 139, 162, 140, 141, 142, 143, 166, 167, 168, 169, 175, 176, 177, 178, 213] (by decide +kernel) (by decide +kernel) w h).1
set_option maxRecDepth 20000 in
theorem wsL_in_r4 : ∀ w ∈ wsL_law_r4, w ∈ lw_tbl := fun w h => (goodIn_r wsL_law_r4 [214, 215, 216, 217, 218, 179, 180, 62, 219, 182, 183, 184, 185, 186, 201, 202, 203, 204, 208, 220, 221, 205, 206, 63] (by decide +kernel) (by decide +kernel) w h).1
set_option maxRecDepth 20000 in
theorem wsL_in_r5 : ∀ w ∈ wsL_law_r5, w ∈ lw_tbl := fun w h => (goodIn_r wsL_law_r5 [207, 209, 210, 211, 212, 187, 188, 189, 758, 759, 760, 761, 771, 774, 775, 776, 777, 779, 780, 781, 782, 783, 762, 764] (by decide +kernel) (by decide +kernel) w h).1
set_option maxRecDepth 20000 in
theorem wsL_in_r6 : ∀ w ∈ wsL_law_r6, w ∈ lw_tbl := fun w h => (goodIn_r wsL_law_r6 [21, 765, 766, 767, 769, 22, 770, 263, 264, 265, 266, 267, 268, 269, 270, 85, 271, 272, 273, 274, 811, 812, 813, 814] (by decide +kernel) (by decide +kernel) w h).1
set_option maxRecDepth 20000 in
theorem wsL_in_r7 : ∀ w ∈ wsL_law_r7, w ∈ lw_tbl := fun w h => (goodIn_r wsL_law_r7 [815, 772, 819, 816, 817, 818, 275, 276, 277, 278, 279, 280, 281, 282, 820, 821, 822, 823, 283, 284, 285, 286, 287, 289] (by decide +kernel) (by decide +kernel) w h).1
set_option maxRecDepth 20000 in
theorem wsL_in_r8 : ∀ w ∈ wsL_law_r8, w ∈ lw_tbl := fun w h => (goodIn_r wsL_law_r8 [0, 290, 291, 292, 293, 294, 295, 100, 101, 296, 297, 298, 299, 300, 302, 1, 303, 102, 304, 306, 2, 307, 308, 310] (by decide +kernel) (by decide +kernel) w h).1
set_option maxRecDepth 20000 in
theorem wsL_in_r9 : ∀ w ∈ wsL_law_r9, w ∈ lw_tbl := fun w h => (goodIn_r wsL_law_r9 [3, 311, 312, 313, 314, 315, 316, 65, 317, 318, 320, 4, 321, 322, 324, 5, 325, 326, 327, 66, 328, 329, 330, 331] (by decide +kernel) (by decide +kernel) w h).1
set_option maxRecDepth 20000 in
theorem wsL_in_r10 : ∀ w ∈ wsL_law_r10, w ∈ lw_tbl := fun w h => (goodIn_r wsL_law_r10 [332, 334, 6, 335, 103, 336, 337, 338, 339, 340, 342, 7, 343, 344, 345, 346, 347, 348, 349, 350, 351, 352, 353, 354] (by decide +kernel) (by decide +kernel) w h).1
