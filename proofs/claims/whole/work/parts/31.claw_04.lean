set_option maxRecDepth 20000 in
theorem gcL_wsX6_on_r1 : GoodIn wsL_law wsX6_on_r1 := goodIn_r _ [15, 187, 162, 163, 164, 14, 165, 98, 188, 189, 2, 190, 191, 146, 147, 102, 103, 104, 105, 19, 23, 106, 107, 108] (by decide +kernel) (by decide +kernel)
set_option maxRecDepth 20000 in
theorem gcL_wsX6_on_r2 : GoodIn wsL_law wsX6_on_r2 := goodIn_r _ [18, 109, 49, 110, 111, 112, 22, 113, 114] (by decide +kernel) (by decide +kernel)
set_option maxRecDepth 20000 in
theorem gcL_wsX6_on_c : GoodIn wsL_law [.code yX6_on cX6_on 4 (some .int)] := goodIn_r _ [186] (by decide +kernel) (by decide +kernel)
set_option maxRecDepth 20000 in
theorem ggL_law_X6_on : GoodIn wsL_law wsX6_on := goodIn_co gcL_wsX6_on_c (goodIn_app (goodIn_app (goodIn_app (goodIn_app (goodIn_app gcL_wsX6_on_r1 gcL_wsX6_on_r2) gcL_wsX60) gcL_wsX20) gcL_wsX00) gcL_wsX10)
set_option maxRecDepth 20000 in
theorem ggL_law_X7_on : GoodIn wsL_law wsX7_on := goodIn_r _ [195, 81, 170, 171, 172, 5, 173, 120, 122, 123, 124, 726, 727, 728, 729, 730, 731, 732, 733, 734, 735, 736, 737, 738, 739, 740, 741, 742, 743] (by decide +kernel) (by decide +kernel)
set_option maxRecDepth 20000 in
theorem ggL_law_X6_bad : GoodIn wsL_law wsX6_bad := goodIn_r _ [199, 15, 200, 162, 163, 164, 14, 165, 98, 188, 189, 2, 190, 191, 146, 147, 721, 722, 723, 724, 725, 744, 745, 746, 747, 748, 749, 750, 751] (by decide +kernel) (by decide +kernel)
