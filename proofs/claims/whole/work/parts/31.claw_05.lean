set_option maxRecDepth 20000 in
theorem ggL_law_X7_bad : GoodIn wsL_law wsX7_bad := goodIn_r _ [204, 82, 170, 171, 172, 5, 173, 120, 122, 123, 124, 726, 727, 728, 729, 730, 731, 732, 733, 734, 735, 736, 737, 738, 739, 740, 741, 742, 743] (by decide +kernel) (by decide +kernel)
set_option maxRecDepth 20000 in
theorem gcL_wsX6_back_r1 : GoodIn wsL_law wsX6_back_r1 := goodIn_r _ [15, 129, 209, 210, 211, 14, 212, 98, 100, 101, 146, 2, 147, 102, 103, 104, 105, 19, 23, 106, 107, 108, 18, 109] (by decide +kernel) (by decide +kernel)
set_option maxRecDepth 20000 in
theorem gcL_wsX6_back_r2 : GoodIn wsL_law wsX6_back_r2 := goodIn_r _ [49, 110, 111, 112, 22, 113, 114] (by decide +kernel) (by decide +kernel)
set_option maxRecDepth 20000 in
theorem gcL_wsX6_back_c : GoodIn wsL_law [.code yX6_back cX6_back 1 (some .int)] := goodIn_r _ [208] (by decide +kernel) (by decide +kernel)
set_option maxRecDepth 20000 in
theorem ggL_law_X6_back : GoodIn wsL_law wsX6_back := goodIn_co gcL_wsX6_back_c (goodIn_app (goodIn_app (goodIn_app (goodIn_app (goodIn_app gcL_wsX6_back_r1 gcL_wsX6_back_r2) gcL_wsX60) gcL_wsX20) gcL_wsX00) gcL_wsX10)
set_option maxRecDepth 20000 in
theorem ggL_law_X7_back : GoodIn wsL_law wsX7_back := goodIn_r _ [216, 120, 726, 727, 728, 729, 730, 731, 732, 733, 734, 735, 736, 737, 738, 739, 740, 741, 742, 743] (by decide +kernel) (by decide +kernel)
