set_option maxRecDepth 20000 in
theorem gcL_wsX7_settled_r1 : GoodIn wsL_law wsX7_settled_r1 := goodIn_r _ [538, 539, 540, 5, 541, 77, 122, 123, 124, 395, 396, 397, 398, 120, 81, 399, 400, 401, 402, 403, 84, 78, 79, 85] (by decide +kernel) (by decide +kernel)
set_option maxRecDepth 20000 in
theorem gcL_wsX7_settled_r2 : GoodIn wsL_law wsX7_settled_r2 := goodIn_r _ [404, 405, 406, 407, 408, 409, 410, 411, 412, 413, 414, 415, 416, 417, 418, 419, 420, 421, 422, 423, 87, 424, 425, 426] (by decide +kernel) (by decide +kernel)
set_option maxRecDepth 20000 in
theorem gcL_wsX7_settled_r3 : GoodIn wsL_law wsX7_settled_r3 := goodIn_r _ [427, 428, 429, 430, 431, 432, 86, 433, 434, 435, 436, 437, 438, 439, 440, 441, 442, 443, 444, 445, 446, 447, 448, 449] (by decide +kernel) (by decide +kernel)
set_option maxRecDepth 20000 in
theorem gcL_wsX7_settled_r4 : GoodIn wsL_law wsX7_settled_r4 := goodIn_r _ [450, 451, 452, 453] (by decide +kernel) (by decide +kernel)
set_option maxRecDepth 20000 in
theorem gcL_wsX7_settled_c : GoodIn wsL_law [.code yX7_settled cX7_settled 2 (some .int)] := goodIn_r _ [549] (by decide +kernel) (by decide +kernel)
set_option maxRecDepth 20000 in
theorem ggL_law_X7_settled : GoodIn wsL_law wsX7_settled := goodIn_co gcL_wsX7_settled_c (goodIn_app (goodIn_app gcL_wsX7_settled_r1 (goodIn_app gcL_wsX7_settled_r2 (goodIn_app gcL_wsX7_settled_r3 gcL_wsX7_settled_r4))) gcL_wsX70)
set_option maxRecDepth 20000 in
theorem gcL_wsX6_known_r1 : GoodIn wsL_law wsX6_known_r1 := goodIn_r _ [15, 27, 521, 522, 523, 14, 524, 39, 378, 379, 380, 26, 381, 252, 242, 243, 244, 245, 241, 67, 246, 247, 248, 249] (by decide +kernel) (by decide +kernel)
set_option maxRecDepth 20000 in
theorem gcL_wsX6_known_r2 : GoodIn wsL_law wsX6_known_r2 := goodIn_r _ [250, 251, 253, 254, 255, 256, 257, 258, 259, 100, 189, 2, 190, 260, 261, 262, 263, 65, 264, 265, 266, 267, 268, 269] (by decide +kernel) (by decide +kernel)
