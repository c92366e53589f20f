set_option maxRecDepth 20000 in
theorem gcL_wsX7_count_r2 : GoodIn wsL_law wsX7_count_r2 := goodIn_r _ [406, 407, 408, 409, 410, 411, 412, 413, 414, 415, 416, 417, 418, 419, 420, 421, 422, 423, 87, 424, 425, 426, 427, 428] (by decide +kernel) (by decide +kernel)
set_option maxRecDepth 20000 in
theorem gcL_wsX7_count_r3 : GoodIn wsL_law wsX7_count_r3 := goodIn_r _ [429, 430, 431, 432, 86, 433, 434, 435, 436, 437, 438, 439, 440, 441, 442, 443, 444, 445, 446, 447, 448, 449, 450, 451] (by decide +kernel) (by decide +kernel)
set_option maxRecDepth 20000 in
theorem gcL_wsX7_count_r4 : GoodIn wsL_law wsX7_count_r4 := goodIn_r _ [452, 453, 454, 455, 456, 457, 458, 459, 460, 461, 83, 462, 463, 464, 465, 466, 467, 468, 469, 470, 471, 472, 473] (by decide +kernel) (by decide +kernel)
set_option maxRecDepth 20000 in
theorem gcL_wsX70 : GoodIn wsL_law wsX70 := goodIn_r _ [726, 727, 728, 729, 730, 731, 732, 733, 734, 735, 736, 737, 738, 739, 740, 741, 742, 743] (by decide +kernel) (by decide +kernel)
set_option maxRecDepth 20000 in
theorem gcL_wsX7_count_c : GoodIn wsL_law [.code yX7_count cX7_count 5 (some .int)] := goodIn_r _ [393] (by decide +kernel) (by decide +kernel)
set_option maxRecDepth 20000 in
theorem ggL_law_X7_count : GoodIn wsL_law wsX7_count := goodIn_co gcL_wsX7_count_c (goodIn_app (goodIn_app gcL_wsX7_count_r1 (goodIn_app gcL_wsX7_count_r2 (goodIn_app gcL_wsX7_count_r3 gcL_wsX7_count_r4))) gcL_wsX70)
set_option maxRecDepth 20000 in
theorem gcL_wsX6_fits_r1 : GoodIn wsL_law wsX6_fits_r1 := goodIn_r _ [19, 15, 187, 288, 289, 290, 18, 291, 49, 292, 293, 294, 295, 296, 297, 298, 299, 300, 301, 48, 302, 44, 303, 304] (by decide +kernel) (by decide +kernel)
set_option maxRecDepth 20000 in
theorem gcL_wsX6_fits_r2 : GoodIn wsL_law wsX6_fits_r2 := goodIn_r _ [305, 46, 306, 231, 232, 233, 234, 235, 236, 307, 308, 309, 310, 189, 2, 190, 311, 312, 313, 314, 45, 315, 316, 317] (by decide +kernel) (by decide +kernel)
set_option maxRecDepth 20000 in
theorem gcL_wsX6_fits_r3 : GoodIn wsL_law wsX6_fits_r3 := goodIn_r _ [318, 47, 319, 320, 321, 322, 323, 324, 325, 326, 327, 328, 329, 330, 331, 332, 333, 334, 335, 336, 337, 338, 339, 340] (by decide +kernel) (by decide +kernel)
