set_option maxRecDepth 20000 in
theorem gcL_wsX6_settled_r1 : GoodIn wsL_law wsX6_settled_r1 := goodIn_r _ [15, 19, 187, 521, 522, 523, 14, 524, 39, 288, 289, 290, 18, 291, 49, 292, 293, 294, 295, 296, 297, 298, 299, 300] (by decide +kernel) (by decide +kernel)
set_option maxRecDepth 20000 in
theorem gcL_wsX6_settled_r2 : GoodIn wsL_law wsX6_settled_r2 := goodIn_r _ [301, 48, 302, 44, 303, 304, 305, 46, 306, 231, 232, 233, 234, 235, 236, 307, 308, 309, 310, 189, 2, 190, 311, 312] (by decide +kernel) (by decide +kernel)
set_option maxRecDepth 20000 in
theorem gcL_wsX6_settled_r3 : GoodIn wsL_law wsX6_settled_r3 := goodIn_r _ [313, 314, 45, 315, 316, 317, 318, 47, 319, 320, 321, 322, 323, 324, 325, 326, 327, 328, 329, 330, 331, 332, 333, 334] (by decide +kernel) (by decide +kernel)
set_option maxRecDepth 20000 in
theorem gcL_wsX6_settled_r4 : GoodIn wsL_law wsX6_settled_r4 := goodIn_r _ [335, 336, 337, 338, 339, 340, 341, 342, 343, 344, 345, 346, 347, 348, 349, 350, 351, 352, 353, 354, 355, 356, 357, 358] (by decide +kernel) (by decide +kernel)
set_option maxRecDepth 20000 in
theorem gcL_wsX6_settled_r5 : GoodIn wsL_law wsX6_settled_r5 := goodIn_r _ [359, 360, 361, 362, 363, 364, 365, 366, 367, 368, 369, 279, 280, 281, 282, 98, 36, 283, 257, 258, 259, 100, 370, 371] (by decide +kernel) (by decide +kernel)
set_option maxRecDepth 20000 in
theorem gcL_wsX6_settled_r6 : GoodIn wsL_law wsX6_settled_r6 := goodIn_r _ [372, 373, 374, 375, 376, 377] (by decide +kernel) (by decide +kernel)
set_option maxRecDepth 20000 in
theorem gcL_wsX6_settled_c : GoodIn wsL_law [.code yX6_settled cX6_settled 2 (some .int)] := goodIn_r _ [545] (by decide +kernel) (by decide +kernel)
set_option maxRecDepth 20000 in
theorem ggL_law_X6_settled : GoodIn wsL_law wsX6_settled := goodIn_co gcL_wsX6_settled_c (goodIn_app (goodIn_app (goodIn_app (goodIn_app gcL_wsX6_settled_r1 (goodIn_app gcL_wsX6_settled_r2 (goodIn_app gcL_wsX6_settled_r3 (goodIn_app gcL_wsX6_settled_r4 (goodIn_app gcL_wsX6_settled_r5 gcL_wsX6_settled_r6))))) gcL_wsX60) gcL_wsX20) gcL_wsX00)
