set_option maxRecDepth 20000 in
theorem ggL_law_X6_told : GoodIn wsL_law wsX6_told := goodIn_r _ [220, 15, 178, 161, 187, 200, 162, 163, 164, 14, 165, 98, 188, 189, 2, 190, 721, 722, 723, 724, 725, 744, 745, 746, 747, 748, 749, 750, 751] (by decide +kernel) (by decide +kernel)
set_option maxRecDepth 20000 in
theorem ggL_law_X7_told : GoodIn wsL_law wsX7_told := goodIn_r _ [224, 78, 79, 81, 82, 170, 171, 172, 5, 173, 120, 122, 123, 124, 726, 727, 728, 729, 730, 731, 732, 733, 734, 735, 736, 737, 738, 739, 740, 741, 742, 743] (by decide +kernel) (by decide +kernel)
set_option maxRecDepth 20000 in
theorem gcL_wsX6_count_r1 : GoodIn wsL_law wsX6_count_r1 := goodIn_r _ [15, 93, 129, 187, 27, 229, 230, 231, 232, 233, 234, 235, 236, 237, 238, 239, 26, 240, 241, 242, 243, 244, 245, 67] (by decide +kernel) (by decide +kernel)
set_option maxRecDepth 20000 in
theorem gcL_wsX6_count_r2 : GoodIn wsL_law wsX6_count_r2 := goodIn_r _ [246, 247, 248, 249, 250, 251, 252, 253, 254, 255, 256, 257, 258, 14, 259, 100, 189, 2, 190, 260, 261, 262, 263, 65] (by decide +kernel) (by decide +kernel)
set_option maxRecDepth 20000 in
theorem gcL_wsX6_count_r3 : GoodIn wsL_law wsX6_count_r3 := goodIn_r _ [264, 265, 266, 267, 268, 269, 270, 271, 272, 273, 274, 275, 276, 277, 278, 279, 280, 281, 282, 98, 36, 283, 284, 285] (by decide +kernel) (by decide +kernel)
