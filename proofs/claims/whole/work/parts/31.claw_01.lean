set_option maxRecDepth 20000 in
theorem ggL_law_X7_init : GoodIn wsL_law wsX7_init := goodIn_r _ [75, 76, 10, 11, 77, 35, 78, 79, 80, 81, 82, 83, 43, 84, 85, 86, 87, 88, 726, 727, 728, 729, 730, 731, 732, 733, 734, 735, 736, 737, 738, 739, 740, 741, 742, 743] (by decide +kernel) (by decide +kernel)
set_option maxRecDepth 20000 in
theorem gcL_wsX6_lines_r1 : GoodIn wsL_law wsX6_lines_r1 := goodIn_r _ [15, 93, 94, 95, 96, 14, 97, 39, 98, 99, 100, 101, 102, 103, 104, 2, 105, 19, 23, 106, 107, 108, 18, 109] (by decide +kernel) (by decide +kernel)
set_option maxRecDepth 20000 in
theorem gcL_wsX6_lines_r2 : GoodIn wsL_law wsX6_lines_r2 := goodIn_r _ [49, 110, 111, 112, 22, 113, 114] (by decide +kernel) (by decide +kernel)
set_option maxRecDepth 20000 in
theorem gcL_wsX6_lines_c : GoodIn wsL_law [.code yX6_lines cX6_lines 3 (some .int)] := goodIn_r _ [92] (by decide +kernel) (by decide +kernel)
set_option maxRecDepth 20000 in
theorem ggL_law_X6_lines : GoodIn wsL_law wsX6_lines := goodIn_co gcL_wsX6_lines_c (goodIn_app (goodIn_app (goodIn_app (goodIn_app (goodIn_app gcL_wsX6_lines_r1 gcL_wsX6_lines_r2) gcL_wsX60) gcL_wsX20) gcL_wsX00) gcL_wsX10)
set_option maxRecDepth 20000 in
theorem ggL_law_X7_lines : GoodIn wsL_law wsX7_lines := goodIn_r _ [118, 119, 77, 120, 121, 122, 123, 5, 124, 726, 727, 728, 729, 730, 731, 732, 733, 734, 735, 736, 737, 738, 739, 740, 741, 742, 743] (by decide +kernel) (by decide +kernel)
