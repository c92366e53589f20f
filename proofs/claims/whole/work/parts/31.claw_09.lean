set_option maxRecDepth 20000 in
theorem gcL_wsX6_fits_r4 : GoodIn wsL_law wsX6_fits_r4 := goodIn_r _ [341, 342, 343, 344, 345, 346, 347, 348, 349, 350, 351, 352, 353, 354, 355, 356, 357, 358, 359, 360] (by decide +kernel) (by decide +kernel)
set_option maxRecDepth 20000 in
theorem gcL_wsX6_fits_c : GoodIn wsL_law [.code yX6_fits cX6_fits 1 (some .int)] := goodIn_r _ [477] (by decide +kernel) (by decide +kernel)
set_option maxRecDepth 20000 in
theorem ggL_law_X6_fits : GoodIn wsL_law wsX6_fits := goodIn_co gcL_wsX6_fits_c (goodIn_app (goodIn_app (goodIn_app (goodIn_app gcL_wsX6_fits_r1 (goodIn_app gcL_wsX6_fits_r2 (goodIn_app gcL_wsX6_fits_r3 gcL_wsX6_fits_r4))) gcL_wsX60) gcL_wsX20) gcL_wsX00)
set_option maxRecDepth 20000 in
theorem gcL_wsX7_fits_r1 : GoodIn wsL_law wsX7_fits_r1 := goodIn_r _ [395, 396, 397, 5, 398, 120, 81, 399, 400, 401, 402, 403, 77, 84, 78, 79, 85, 404, 405, 406, 407, 408, 409, 410] (by decide +kernel) (by decide +kernel)
set_option maxRecDepth 20000 in
theorem gcL_wsX7_fits_r2 : GoodIn wsL_law wsX7_fits_r2 := goodIn_r _ [411, 412, 413, 414, 415, 416, 417, 418, 419] (by decide +kernel) (by decide +kernel)
set_option maxRecDepth 20000 in
theorem gcL_wsX7_fits_c : GoodIn wsL_law [.code yX7_fits cX7_fits 1 (some .int)] := goodIn_r _ [481] (by decide +kernel) (by decide +kernel)
set_option maxRecDepth 20000 in
theorem ggL_law_X7_fits : GoodIn wsL_law wsX7_fits := goodIn_co gcL_wsX7_fits_c (goodIn_app (goodIn_app gcL_wsX7_fits_r1 gcL_wsX7_fits_r2) gcL_wsX70)
set_option maxRecDepth 20000 in
theorem gcL_wsX6_bound_r1 : GoodIn wsL_law wsX6_bound_r1 := goodIn_r _ [15, 486, 19, 187, 487, 488, 365, 489, 135, 136, 14, 137, 39, 490, 491, 2, 492, 288, 289, 290, 18, 291, 49, 292] (by decide +kernel) (by decide +kernel)
set_option maxRecDepth 20000 in
theorem gcL_wsX6_bound_r2 : GoodIn wsL_law wsX6_bound_r2 := goodIn_r _ [293, 294, 295, 296, 297, 298, 299, 300, 301, 48, 302, 44, 303, 304, 305, 46, 306, 231, 232, 233, 234, 235, 236, 307] (by decide +kernel) (by decide +kernel)
set_option maxRecDepth 20000 in
theorem gcL_wsX6_bound_r3 : GoodIn wsL_law wsX6_bound_r3 := goodIn_r _ [308, 309, 310, 189, 190, 311, 312, 313, 314, 45, 315, 316, 317, 318, 47, 319, 320, 321, 322, 323, 324, 325, 326, 327] (by decide +kernel) (by decide +kernel)
