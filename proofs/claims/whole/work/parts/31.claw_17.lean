set_option maxRecDepth 20000 in
theorem gcL_wsX6_lying_r6 : GoodIn wsL_law wsX6_lying_r6 := goodIn_r _ [595, 596, 597, 61, 598, 599, 600, 601, 146, 147, 602, 603, 604, 605] (by decide +kernel) (by decide +kernel)
set_option maxRecDepth 20000 in
theorem gcL_wsX6_lying_c : GoodIn wsL_law [.code yX6_lying cX6_lying 2 (some .int)] := goodIn_r _ [570] (by decide +kernel) (by decide +kernel)
set_option maxRecDepth 20000 in
theorem ggL_law_X6_lying : GoodIn wsL_law wsX6_lying := goodIn_co gcL_wsX6_lying_c (goodIn_app (goodIn_app (goodIn_app (goodIn_app (goodIn_app (goodIn_app gcL_wsX6_lying_r1 (goodIn_app gcL_wsX6_lying_r2 (goodIn_app gcL_wsX6_lying_r3 (goodIn_app gcL_wsX6_lying_r4 (goodIn_app gcL_wsX6_lying_r5 gcL_wsX6_lying_r6))))) gcL_wsX60) gcL_wsX10) gcL_wsX20) gcL_wsX30) gcL_wsX00)
set_option maxRecDepth 20000 in
theorem gcL_wsX7_lying_r1 : GoodIn wsL_law wsX7_lying_r1 := goodIn_r _ [610, 120, 88, 395, 396, 397, 5, 398, 81, 405, 406, 407, 399, 400, 401, 402, 403, 77, 84, 78, 79, 85, 404, 408] (by decide +kernel) (by decide +kernel)
set_option maxRecDepth 20000 in
theorem gcL_wsX7_lying_r2 : GoodIn wsL_law wsX7_lying_r2 := goodIn_r _ [409, 410, 411, 412, 413, 414, 415, 416, 417, 418, 419, 611, 612, 613, 614, 122, 123, 124] (by decide +kernel) (by decide +kernel)
set_option maxRecDepth 20000 in
theorem gcL_wsX7_lying_c : GoodIn wsL_law [.code yX7_lying cX7_lying 5 (some .int)] := goodIn_r _ [609] (by decide +kernel) (by decide +kernel)
set_option maxRecDepth 20000 in
theorem ggL_law_X7_lying : GoodIn wsL_law wsX7_lying := goodIn_co gcL_wsX7_lying_c (goodIn_app (goodIn_app gcL_wsX7_lying_r1 gcL_wsX7_lying_r2) gcL_wsX70)
set_option maxRecDepth 20000 in
theorem ggL_law_X6_offer : GoodIn wsL_law wsX6_offer := goodIn_r _ [618, 15, 229, 130, 131, 132, 14, 133, 134, 135, 136, 137, 39, 619, 620, 621, 622, 99, 38, 721, 722, 723, 724, 725, 744, 745, 746, 747, 748, 749, 750, 751] (by decide +kernel) (by decide +kernel)
