set_option maxRecDepth 20000 in
theorem ggL_law_X7_group : GoodIn wsL_law wsX7_group := goodIn_r _ [566, 538, 539, 540, 5, 541, 77, 122, 123, 124, 466, 467, 468, 469, 470, 471, 472, 473, 120, 81, 78, 726, 727, 728, 729, 730, 731, 732, 733, 734, 735, 736, 737, 738, 739, 740, 741, 742, 743] (by decide +kernel) (by decide +kernel)
set_option maxRecDepth 20000 in
theorem gcL_wsX6_lying_r1 : GoodIn wsL_law wsX6_lying_r1 := goodIn_r _ [23, 15, 19, 571, 572, 573, 22, 574, 114, 56, 57, 575, 576, 577, 578, 579, 55, 580, 581, 582, 231, 232, 233, 234] (by decide +kernel) (by decide +kernel)
set_option maxRecDepth 20000 in
theorem gcL_wsX6_lying_r2 : GoodIn wsL_law wsX6_lying_r2 := goodIn_r _ [235, 236, 583, 584, 585, 586, 587, 588, 589, 590, 591, 592, 593, 289, 290, 18, 291, 49, 292, 293, 294, 295, 296, 297] (by decide +kernel) (by decide +kernel)
set_option maxRecDepth 20000 in
theorem gcL_wsX6_lying_r3 : GoodIn wsL_law wsX6_lying_r3 := goodIn_r _ [298, 299, 300, 301, 48, 302, 44, 303, 304, 305, 46, 306, 307, 308, 309, 310, 189, 2, 190, 311, 312, 313, 314, 45] (by decide +kernel) (by decide +kernel)
set_option maxRecDepth 20000 in
theorem gcL_wsX6_lying_r4 : GoodIn wsL_law wsX6_lying_r4 := goodIn_r _ [315, 316, 317, 318, 47, 319, 320, 321, 322, 323, 324, 325, 326, 327, 328, 329, 330, 331, 332, 333, 334, 335, 336, 337] (by decide +kernel) (by decide +kernel)
set_option maxRecDepth 20000 in
theorem gcL_wsX6_lying_r5 : GoodIn wsL_law wsX6_lying_r5 := goodIn_r _ [338, 339, 340, 341, 342, 343, 344, 345, 346, 347, 348, 349, 350, 351, 352, 353, 354, 355, 356, 357, 358, 359, 360, 594] (by decide +kernel) (by decide +kernel)
