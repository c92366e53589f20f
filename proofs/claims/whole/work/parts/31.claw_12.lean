set_option maxRecDepth 20000 in
theorem gcL_wsX6_shown_r6 : GoodIn wsL_law wsX6_shown_r6 := goodIn_r _ [283, 257, 258, 259, 100, 370, 371, 372, 373, 525, 526, 527, 528, 529, 530, 531, 532, 374, 375, 376, 377, 493, 494, 495] (by decide +kernel) (by decide +kernel)
set_option maxRecDepth 20000 in
theorem gcL_wsX6_shown_r7 : GoodIn wsL_law wsX6_shown_r7 := goodIn_r _ [496, 497, 498] (by decide +kernel) (by decide +kernel)
set_option maxRecDepth 20000 in
theorem gcL_wsX6_shown_c : GoodIn wsL_law [.code yX6_shown cX6_shown 5 (some .long)] := goodIn_r _ [519] (by decide +kernel) (by decide +kernel)
set_option maxRecDepth 20000 in
theorem ggL_law_X6_shown : GoodIn wsL_law wsX6_shown := goodIn_co gcL_wsX6_shown_c (goodIn_app (goodIn_app (goodIn_app (goodIn_app gcL_wsX6_shown_r1 (goodIn_app gcL_wsX6_shown_r2 (goodIn_app gcL_wsX6_shown_r3 (goodIn_app gcL_wsX6_shown_r4 (goodIn_app gcL_wsX6_shown_r5 (goodIn_app gcL_wsX6_shown_r6 gcL_wsX6_shown_r7)))))) gcL_wsX60) gcL_wsX20) gcL_wsX00)
set_option maxRecDepth 20000 in
theorem gcL_wsX7_shown_r1 : GoodIn wsL_law wsX7_shown_r1 := goodIn_r _ [537, 503, 504, 505, 87, 424, 538, 539, 540, 5, 541, 77, 122, 123, 124, 153, 154, 155, 156, 395, 396, 397, 398, 120] (by decide +kernel) (by decide +kernel)
set_option maxRecDepth 20000 in
theorem gcL_wsX7_shown_r2 : GoodIn wsL_law wsX7_shown_r2 := goodIn_r _ [81, 399, 400, 401, 402, 403, 84, 78, 79, 85, 404, 405, 406, 407, 408, 409, 410, 411, 412, 413, 414, 415, 416, 417] (by decide +kernel) (by decide +kernel)
set_option maxRecDepth 20000 in
theorem gcL_wsX7_shown_r3 : GoodIn wsL_law wsX7_shown_r3 := goodIn_r _ [418, 419, 506, 507, 508, 509, 425, 426, 427, 428, 429, 430, 431, 432, 86, 433, 434, 435, 436, 437, 438, 439, 440, 441] (by decide +kernel) (by decide +kernel)
set_option maxRecDepth 20000 in
theorem gcL_wsX7_shown_r4 : GoodIn wsL_law wsX7_shown_r4 := goodIn_r _ [442, 443, 444, 445, 446, 447, 448, 449, 450, 451, 452, 453, 510, 511, 512, 513, 514, 515] (by decide +kernel) (by decide +kernel)
set_option maxRecDepth 20000 in
theorem gcL_wsX7_shown_c : GoodIn wsL_law [.code yX7_shown cX7_shown 6 (some .long)] := goodIn_r _ [536] (by decide +kernel) (by decide +kernel)
set_option maxRecDepth 20000 in
theorem ggL_law_X7_shown : GoodIn wsL_law wsX7_shown := goodIn_co gcL_wsX7_shown_c (goodIn_app (goodIn_app gcL_wsX7_shown_r1 (goodIn_app gcL_wsX7_shown_r2 (goodIn_app gcL_wsX7_shown_r3 gcL_wsX7_shown_r4))) gcL_wsX70)
