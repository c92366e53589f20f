set_option maxRecDepth 20000 in
theorem gcL_wsX7_bound_r4 : GoodIn wsL_law wsX7_bound_r4 := goodIn_r _ [447, 448, 449, 450, 451, 452, 453, 510, 511, 512, 513, 514, 515] (by decide +kernel) (by decide +kernel)
set_option maxRecDepth 20000 in
theorem gcL_wsX7_bound_c : GoodIn wsL_law [.code yX7_bound cX7_bound 5 (some .long)] := goodIn_r _ [502] (by decide +kernel) (by decide +kernel)
set_option maxRecDepth 20000 in
theorem ggL_law_X7_bound : GoodIn wsL_law wsX7_bound := goodIn_co gcL_wsX7_bound_c (goodIn_app (goodIn_app gcL_wsX7_bound_r1 (goodIn_app gcL_wsX7_bound_r2 (goodIn_app gcL_wsX7_bound_r3 gcL_wsX7_bound_r4))) gcL_wsX70)
set_option maxRecDepth 20000 in
theorem gcL_wsX6_shown_r1 : GoodIn wsL_law wsX6_shown_r1 := goodIn_r _ [15, 520, 486, 19, 187, 487, 488, 365, 521, 522, 523, 14, 524, 39, 489, 135, 136, 137, 490, 491, 2, 492, 288, 289] (by decide +kernel) (by decide +kernel)
set_option maxRecDepth 20000 in
theorem gcL_wsX6_shown_r2 : GoodIn wsL_law wsX6_shown_r2 := goodIn_r _ [290, 18, 291, 49, 292, 293, 294, 295, 296, 297, 298, 299, 300, 301, 48, 302, 44, 303, 304, 305, 46, 306, 231, 232] (by decide +kernel) (by decide +kernel)
set_option maxRecDepth 20000 in
theorem gcL_wsX6_shown_r3 : GoodIn wsL_law wsX6_shown_r3 := goodIn_r _ [233, 234, 235, 236, 307, 308, 309, 310, 189, 190, 311, 312, 313, 314, 45, 315, 316, 317, 318, 47, 319, 320, 321, 322] (by decide +kernel) (by decide +kernel)
set_option maxRecDepth 20000 in
theorem gcL_wsX6_shown_r4 : GoodIn wsL_law wsX6_shown_r4 := goodIn_r _ [323, 324, 325, 326, 327, 328, 329, 330, 331, 332, 333, 334, 335, 336, 337, 338, 339, 340, 341, 342, 343, 344, 345, 346] (by decide +kernel) (by decide +kernel)
set_option maxRecDepth 20000 in
theorem gcL_wsX6_shown_r5 : GoodIn wsL_law wsX6_shown_r5 := goodIn_r _ [347, 348, 349, 350, 351, 352, 353, 354, 355, 356, 357, 358, 359, 360, 366, 367, 368, 369, 279, 280, 281, 282, 98, 36] (by decide +kernel) (by decide +kernel)
