set_option maxRecDepth 20000 in
theorem gcL_wsX6_way_r1 : GoodIn wsL_law wsX6_way_r1 := goodIn_r _ [15, 129, 130, 131, 132, 14, 133, 134, 135, 136, 137, 39, 138, 139, 2, 140, 141, 102, 103, 104, 105, 19, 23, 106] (by decide +kernel) (by decide +kernel)
set_option maxRecDepth 20000 in
theorem gcL_wsX6_way_r2 : GoodIn wsL_law wsX6_way_r2 := goodIn_r _ [107, 108, 18, 109, 49, 110, 111, 112, 22, 113, 114, 142, 143, 144, 145, 98, 36, 37, 100, 101, 146, 147] (by decide +kernel) (by decide +kernel)
set_option maxRecDepth 20000 in
theorem gcL_wsX6_way_c : GoodIn wsL_law [.code yX6_way cX6_way 3 (some .int)] := goodIn_r _ [128] (by decide +kernel) (by decide +kernel)
set_option maxRecDepth 20000 in
theorem ggL_law_X6_way : GoodIn wsL_law wsX6_way := goodIn_co gcL_wsX6_way_c (goodIn_app (goodIn_app (goodIn_app (goodIn_app (goodIn_app gcL_wsX6_way_r1 gcL_wsX6_way_r2) gcL_wsX60) gcL_wsX20) gcL_wsX00) gcL_wsX10)
set_option maxRecDepth 20000 in
theorem ggL_law_X7_way : GoodIn wsL_law wsX7_way := goodIn_r _ [151, 152, 120, 78, 79, 81, 82, 153, 154, 155, 5, 156, 77, 122, 123, 124, 726, 727, 728, 729, 730, 731, 732, 733, 734, 735, 736, 737, 738, 739, 740, 741, 742, 743] (by decide +kernel) (by decide +kernel)
set_option maxRecDepth 20000 in
theorem gcL_wsX6_sum_r1 : GoodIn wsL_law wsX6_sum_r1 := goodIn_r _ [15, 161, 162, 163, 164, 14, 165, 98, 138, 139, 2, 140, 141, 102, 103, 104, 105, 19, 23, 106, 107, 108, 18, 109] (by decide +kernel) (by decide +kernel)
set_option maxRecDepth 20000 in
theorem gcL_wsX6_sum_r2 : GoodIn wsL_law wsX6_sum_r2 := goodIn_r _ [49, 110, 111, 112, 22, 113, 114] (by decide +kernel) (by decide +kernel)
set_option maxRecDepth 20000 in
theorem gcL_wsX6_sum_c : GoodIn wsL_law [.code yX6_sum cX6_sum 4 (some .int)] := goodIn_r _ [160] (by decide +kernel) (by decide +kernel)
set_option maxRecDepth 20000 in
theorem ggL_law_X6_sum : GoodIn wsL_law wsX6_sum := goodIn_co gcL_wsX6_sum_c (goodIn_app (goodIn_app (goodIn_app (goodIn_app (goodIn_app gcL_wsX6_sum_r1 gcL_wsX6_sum_r2) gcL_wsX60) gcL_wsX20) gcL_wsX00) gcL_wsX10)
