set_option maxRecDepth 20000 in
theorem gcL_wsX6_bound_r4 : GoodIn wsL_law wsX6_bound_r4 := goodIn_r _ [328, 329, 330, 331, 332, 333, 334, 335, 336, 337, 338, 339, 340, 341, 342, 343, 344, 345, 346, 347, 348, 349, 350, 351] (by decide +kernel) (by decide +kernel)
set_option maxRecDepth 20000 in
theorem gcL_wsX6_bound_r5 : GoodIn wsL_law wsX6_bound_r5 := goodIn_r _ [352, 353, 354, 355, 356, 357, 358, 359, 360, 366, 367, 368, 369, 279, 280, 281, 282, 98, 36, 283, 257, 258, 259, 100] (by decide +kernel) (by decide +kernel)
set_option maxRecDepth 20000 in
theorem gcL_wsX6_bound_r6 : GoodIn wsL_law wsX6_bound_r6 := goodIn_r _ [370, 371, 372, 373, 374, 375, 376, 377, 493, 494, 495, 496, 497, 498] (by decide +kernel) (by decide +kernel)
set_option maxRecDepth 20000 in
theorem gcL_wsX6_bound_c : GoodIn wsL_law [.code yX6_bound cX6_bound 4 (some .long)] := goodIn_r _ [485] (by decide +kernel) (by decide +kernel)
set_option maxRecDepth 20000 in
theorem ggL_law_X6_bound : GoodIn wsL_law wsX6_bound := goodIn_co gcL_wsX6_bound_c (goodIn_app (goodIn_app (goodIn_app (goodIn_app gcL_wsX6_bound_r1 (goodIn_app gcL_wsX6_bound_r2 (goodIn_app gcL_wsX6_bound_r3 (goodIn_app gcL_wsX6_bound_r4 (goodIn_app gcL_wsX6_bound_r5 gcL_wsX6_bound_r6))))) gcL_wsX60) gcL_wsX20) gcL_wsX00)
set_option maxRecDepth 20000 in
theorem gcL_wsX7_bound_r1 : GoodIn wsL_law wsX7_bound_r1 := goodIn_r _ [503, 504, 505, 87, 424, 153, 154, 155, 5, 156, 77, 122, 123, 124, 395, 396, 397, 398, 120, 81, 399, 400, 401, 402] (by decide +kernel) (by decide +kernel)
set_option maxRecDepth 20000 in
theorem gcL_wsX7_bound_r2 : GoodIn wsL_law wsX7_bound_r2 := goodIn_r _ [403, 84, 78, 79, 85, 404, 405, 406, 407, 408, 409, 410, 411, 412, 413, 414, 415, 416, 417, 418, 419, 506, 507, 508] (by decide +kernel) (by decide +kernel)
set_option maxRecDepth 20000 in
theorem gcL_wsX7_bound_r3 : GoodIn wsL_law wsX7_bound_r3 := goodIn_r _ [509, 425, 426, 427, 428, 429, 430, 431, 432, 86, 433, 434, 435, 436, 437, 438, 439, 440, 441, 442, 443, 444, 445, 446] (by decide +kernel) (by decide +kernel)
