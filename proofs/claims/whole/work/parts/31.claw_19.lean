set_option maxRecDepth 20000 in
theorem gcL_wsX6_advice_r2 : GoodIn wsL_law wsX6_advice_r2 := goodIn_r _ [249, 250, 251, 252, 253, 255, 256, 257, 258, 259, 100, 189, 2, 190, 260, 261, 262, 263, 65, 264, 265, 266, 267, 268] (by decide +kernel) (by decide +kernel)
set_option maxRecDepth 20000 in
theorem gcL_wsX6_advice_r3 : GoodIn wsL_law wsX6_advice_r3 := goodIn_r _ [269, 270, 271, 272, 273, 274, 275, 276, 277, 278, 649, 650, 651, 652, 66, 653, 654, 309, 655, 656, 657, 658, 659, 660] (by decide +kernel) (by decide +kernel)
set_option maxRecDepth 20000 in
theorem gcL_wsX6_advice_r4 : GoodIn wsL_law wsX6_advice_r4 := goodIn_r _ [661, 662, 663, 664, 231, 232, 233, 234, 235, 236, 665, 666, 667, 668] (by decide +kernel) (by decide +kernel)
set_option maxRecDepth 20000 in
theorem gcL_wsX6_advice_c : GoodIn wsL_law [.code yX6_advice cX6_advice 2 (some .int)] := goodIn_r _ [643] (by decide +kernel) (by decide +kernel)
set_option maxRecDepth 20000 in
theorem ggL_law_X6_advice : GoodIn wsL_law wsX6_advice := goodIn_co gcL_wsX6_advice_c (goodIn_app (goodIn_app (goodIn_app (goodIn_app gcL_wsX6_advice_r1 (goodIn_app gcL_wsX6_advice_r2 (goodIn_app gcL_wsX6_advice_r3 gcL_wsX6_advice_r4))) gcL_wsX60) gcL_wsX20) gcL_wsX50)
set_option maxRecDepth 20000 in
theorem gcL_wsX7_advice_r1 : GoodIn wsL_law wsX7_advice_r1 := goodIn_r _ [121, 153, 154, 155, 5, 156, 77, 122, 123, 124, 405, 406, 407, 673, 674, 675, 676, 454, 455, 456, 457, 395, 396, 397] (by decide +kernel) (by decide +kernel)
set_option maxRecDepth 20000 in
theorem gcL_wsX7_advice_r2 : GoodIn wsL_law wsX7_advice_r2 := goodIn_r _ [398, 120, 81, 458, 459, 460, 461, 403, 78, 83, 404, 462, 463, 464, 465, 84, 439, 440, 441, 442, 443, 444, 445, 446] (by decide +kernel) (by decide +kernel)
set_option maxRecDepth 20000 in
theorem gcL_wsX7_advice_r3 : GoodIn wsL_law wsX7_advice_r3 := goodIn_r _ [416, 417, 418, 419] (by decide +kernel) (by decide +kernel)
set_option maxRecDepth 20000 in
theorem gcL_wsX7_advice_c : GoodIn wsL_law [.code yX7_advice cX7_advice 4 (some .int)] := goodIn_r _ [672] (by decide +kernel) (by decide +kernel)
set_option maxRecDepth 20000 in
theorem ggL_law_X7_advice : GoodIn wsL_law wsX7_advice := goodIn_co gcL_wsX7_advice_c (goodIn_app (goodIn_app gcL_wsX7_advice_r1 (goodIn_app gcL_wsX7_advice_r2 gcL_wsX7_advice_r3)) gcL_wsX70)
