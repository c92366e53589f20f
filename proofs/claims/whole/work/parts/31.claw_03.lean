set_option maxRecDepth 20000 in
theorem ggL_law_X7_sum : GoodIn wsL_law wsX7_sum := goodIn_r _ [169, 152, 79, 170, 171, 172, 5, 173, 120, 122, 123, 124, 726, 727, 728, 729, 730, 731, 732, 733, 734, 735, 736, 737, 738, 739, 740, 741, 742, 743] (by decide +kernel) (by decide +kernel)
set_option maxRecDepth 20000 in
theorem gcL_wsX6_over_r1 : GoodIn wsL_law wsX6_over_r1 := goodIn_r _ [15, 178, 162, 163, 164, 14, 165, 98, 130, 131, 132, 133, 134, 135, 136, 137, 39, 102, 103, 104, 2, 105, 19, 23] (by decide +kernel) (by decide +kernel)
set_option maxRecDepth 20000 in
theorem gcL_wsX6_over_r2 : GoodIn wsL_law wsX6_over_r2 := goodIn_r _ [106, 107, 108, 18, 109, 49, 110, 111, 112, 22, 113, 114] (by decide +kernel) (by decide +kernel)
set_option maxRecDepth 20000 in
theorem gcL_wsX6_over_c : GoodIn wsL_law [.code yX6_over cX6_over 4 (some .int)] := goodIn_r _ [177] (by decide +kernel) (by decide +kernel)
set_option maxRecDepth 20000 in
theorem ggL_law_X6_over : GoodIn wsL_law wsX6_over := goodIn_co gcL_wsX6_over_c (goodIn_app (goodIn_app (goodIn_app (goodIn_app (goodIn_app gcL_wsX6_over_r1 gcL_wsX6_over_r2) gcL_wsX60) gcL_wsX20) gcL_wsX00) gcL_wsX10)
set_option maxRecDepth 20000 in
theorem ggL_law_X7_over : GoodIn wsL_law wsX7_over := goodIn_r _ [182, 78, 170, 171, 172, 5, 173, 120, 122, 123, 124, 153, 154, 155, 156, 77, 726, 727, 728, 729, 730, 731, 732, 733, 734, 735, 736, 737, 738, 739, 740, 741, 742, 743] (by decide +kernel) (by decide +kernel)
