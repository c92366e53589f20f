set_option maxRecDepth 20000 in
theorem gcL_wsX6_known_r3 : GoodIn wsL_law wsX6_known_r3 := goodIn_r _ [270, 271, 272, 273, 274, 275, 276, 277, 278, 188] (by decide +kernel) (by decide +kernel)
set_option maxRecDepth 20000 in
theorem gcL_wsX6_known_c : GoodIn wsL_law [.code yX6_known cX6_known 2 (some .int)] := goodIn_r _ [553] (by decide +kernel) (by decide +kernel)
set_option maxRecDepth 20000 in
theorem ggL_law_X6_known : GoodIn wsL_law wsX6_known := goodIn_co gcL_wsX6_known_c (goodIn_app (goodIn_app (goodIn_app (goodIn_app gcL_wsX6_known_r1 (goodIn_app gcL_wsX6_known_r2 gcL_wsX6_known_r3)) gcL_wsX60) gcL_wsX20) gcL_wsX50)
set_option maxRecDepth 20000 in
theorem gcL_wsX7_known_r1 : GoodIn wsL_law wsX7_known_r1 := goodIn_r _ [538, 539, 540, 5, 541, 77, 122, 123, 124, 454, 455, 456, 457, 395, 396, 397, 398, 120, 81, 458, 459, 460, 461, 403] (by decide +kernel) (by decide +kernel)
set_option maxRecDepth 20000 in
theorem gcL_wsX7_known_r2 : GoodIn wsL_law wsX7_known_r2 := goodIn_r _ [78, 121, 83, 404, 462, 463, 464, 465, 84, 439, 440, 441, 442, 443, 444, 445, 446, 416, 417, 418, 419] (by decide +kernel) (by decide +kernel)
set_option maxRecDepth 20000 in
theorem gcL_wsX7_known_c : GoodIn wsL_law [.code yX7_known cX7_known 2 (some .int)] := goodIn_r _ [557] (by decide +kernel) (by decide +kernel)
set_option maxRecDepth 20000 in
theorem ggL_law_X7_known : GoodIn wsL_law wsX7_known := goodIn_co gcL_wsX7_known_c (goodIn_app (goodIn_app gcL_wsX7_known_r1 gcL_wsX7_known_r2) gcL_wsX70)
set_option maxRecDepth 20000 in
theorem ggL_law_X6_group : GoodIn wsL_law wsX6_group := goodIn_r _ [561, 15, 521, 522, 523, 14, 524, 39, 562, 387, 388, 389, 98, 36, 283, 257, 258, 259, 100, 189, 2, 190, 721, 722, 723, 724, 725, 744, 745, 746, 747, 748, 749, 750, 751] (by decide +kernel) (by decide +kernel)
