set_option maxRecDepth 20000 in
theorem gcL_wsX6_count_r4 : GoodIn wsL_law wsX6_count_r4 := goodIn_r _ [286, 287, 19, 288, 289, 290, 18, 291, 49, 292, 293, 294, 295, 296, 297, 298, 299, 300, 301, 48, 302, 44, 303, 304] (by decide +kernel) (by decide +kernel)
set_option maxRecDepth 20000 in
theorem gcL_wsX6_count_r5 : GoodIn wsL_law wsX6_count_r5 := goodIn_r _ [305, 46, 306, 307, 308, 309, 310, 311, 312, 313, 314, 45, 315, 316, 317, 318, 47, 319, 320, 321, 322, 323, 324, 325] (by decide +kernel) (by decide +kernel)
set_option maxRecDepth 20000 in
theorem gcL_wsX6_count_r6 : GoodIn wsL_law wsX6_count_r6 := goodIn_r _ [326, 327, 328, 329, 330, 331, 332, 333, 334, 335, 336, 337, 338, 339, 340, 341, 342, 343, 344, 345, 346, 347, 348, 349] (by decide +kernel) (by decide +kernel)
set_option maxRecDepth 20000 in
theorem gcL_wsX6_count_r7 : GoodIn wsL_law wsX6_count_r7 := goodIn_r _ [350, 351, 352, 353, 354, 355, 356, 357, 358, 359, 360, 361, 362, 363, 364, 365, 366, 367, 368, 369, 370, 371, 372, 373] (by decide +kernel) (by decide +kernel)
set_option maxRecDepth 20000 in
theorem gcL_wsX6_count_r8 : GoodIn wsL_law wsX6_count_r8 := goodIn_r _ [374, 375, 376, 377, 378, 379, 380, 381, 382, 383, 384, 385, 39, 386, 387, 388, 389] (by decide +kernel) (by decide +kernel)
set_option maxRecDepth 20000 in
theorem gcL_wsX6_count_c : GoodIn wsL_law [.code yX6_count cX6_count 2 (some .int)] := goodIn_r _ [228] (by decide +kernel) (by decide +kernel)
set_option maxRecDepth 20000 in
theorem ggL_law_X6_count : GoodIn wsL_law wsX6_count := goodIn_co gcL_wsX6_count_c (goodIn_app (goodIn_app (goodIn_app (goodIn_app (goodIn_app gcL_wsX6_count_r1 (goodIn_app gcL_wsX6_count_r2 (goodIn_app gcL_wsX6_count_r3 (goodIn_app gcL_wsX6_count_r4 (goodIn_app gcL_wsX6_count_r5 (goodIn_app gcL_wsX6_count_r6 (goodIn_app gcL_wsX6_count_r7 gcL_wsX6_count_r8))))))) gcL_wsX60) gcL_wsX20) gcL_wsX50) gcL_wsX00)
set_option maxRecDepth 20000 in
theorem gcL_wsX7_count_r1 : GoodIn wsL_law wsX7_count_r1 := goodIn_r _ [394, 77, 120, 121, 122, 123, 5, 124, 395, 396, 397, 398, 81, 399, 400, 401, 402, 403, 84, 78, 79, 85, 404, 405] (by decide +kernel) (by decide +kernel)
