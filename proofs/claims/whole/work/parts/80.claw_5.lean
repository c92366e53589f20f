set_option maxRecDepth 20000 in
theorem ggL_law_X6_group : GoodIn wsL_law wsX6_group := goodIn_r _ [561, 15, 521, 522, 523, 14, 524, 39, 562, 387, 388, 389, 98, 36, 283, 257, 258, 259, 100, 189, 2, 190, 721, 722, 723, 724, 725, 744, 745, 746, 747, 748, 749, 750, 751] (by decide +kernel) (by decide +kernel)
set_option maxRecDepth 20000 in
theorem gL_law_X6_group : GoodIn wsL_law (wsV RL 75 RX6 yX6_group wsX6_group) := goodIn_app (goodIn_of _ (by decide +kernel)) ggL_law_X6_group
set_option maxRecDepth 20000 in
theorem ggL_law_X7_group : GoodIn wsL_law wsX7_group := goodIn_r _ [566, 538, 539, 540, 5, 541, 77, 122, 123, 124, 466, 467, 468, 469, 470, 471, 472, 473, 120, 81, 78, 726, 727, 728, 729, 730, 731, 732, 733, 734, 735, 736, 737, 738, 739, 740, 741, 742, 743] (by decide +kernel) (by decide +kernel)
set_option maxRecDepth 20000 in
theorem gL_law_X7_group : GoodIn wsL_law (wsV RL 78 RX7 yX7_group wsX7_group) := goodIn_app (goodIn_of _ (by decide +kernel)) ggL_law_X7_group
set_option maxRecDepth 20000 in
theorem ggL_law_X6_lying : GoodIn wsL_law wsX6_lying := goodIn_r _ [570, 23, 15, 19, 571, 572, 573, 22, 574, 114, 56, 57, 575, 576, 577, 578, 579, 55, 580, 581, 582, 231, 232, 233, 234, 235, 236, 583, 584, 585, 586, 587, 588, 589, 590, 591, 592, 593, 289, 290, 18, 291, 49, 292, 293, 294, 295, 296, 297, 298, 299, 300, 301, 48, 302, 44, 303, 304, 305, 46, 306, 307, 308, 309, 310, 189, 2, 190, 311, 312, 313, 314, 45, 315, 316, 317, 318, 47, 319, 320, 321, 322, 323, 324, 325, 326, 327, 328, 329, 330, 331, 332, 333, 334, 335, 336, 337, 338, 339, 340, 341, 342, 343, 344, 345, 346, 347, 348, 349, 350, 351, 352, 353, 354, 355, 356, 357, 358, 359, 360, 594, 595, 596, 597, 61, 598, 599, 600, 601, 146, 147, 602, 603, 604, 605, 721, 722, 723, 724, 725, 765, 766, 767, 744, 745, 746, 747, 748, 749, 750, 751, 775, 776, 752, 753, 754, 755, 756, 757, 758, 759, 760, 761, 762, 763, 764] (by decide +kernel) (by decide +kernel)
set_option maxRecDepth 20000 in
theorem gL_law_X6_lying : GoodIn wsL_law (wsV RL 79 RX6 yX6_lying wsX6_lying) := goodIn_app (goodIn_of _ (by decide +kernel)) ggL_law_X6_lying
set_option maxRecDepth 20000 in
theorem ggL_law_X7_lying : GoodIn wsL_law wsX7_lying := goodIn_r _ [609, 610, 120, 88, 395, 396, 397, 5, 398, 81, 405, 406, 407, 399, 400, 401, 402, 403, 77, 84, 78, 79, 85, 404, 408, 409, 410, 411, 412, 413, 414, 415, 416, 417, 418, 419, 611, 612, 613, 614, 122, 123, 124, 726, 727, 728, 729, 730, 731, 732, 733, 734, 735, 736, 737, 738, 739, 740, 741, 742, 743] (by decide +kernel) (by decide +kernel)
set_option maxRecDepth 20000 in
theorem gL_law_X7_lying : GoodIn wsL_law (wsV RL 82 RX7 yX7_lying wsX7_lying) := goodIn_app (goodIn_of _ (by decide +kernel)) ggL_law_X7_lying
set_option maxRecDepth 20000 in
theorem ggL_law_X6_offer : GoodIn wsL_law wsX6_offer := goodIn_r _ [618, 15, 229, 130, 131, 132, 14, 133, 134, 135, 136, 137, 39, 619, 620, 621, 622, 99, 38, 721, 722, 723, 724, 725, 744, 745, 746, 747, 748, 749, 750, 751] (by decide +kernel) (by decide +kernel)
set_option maxRecDepth 20000 in
theorem gL_law_X6_offer : GoodIn wsL_law (wsV RL 83 RX6 yX6_offer wsX6_offer) := goodIn_app (goodIn_of _ (by decide +kernel)) ggL_law_X6_offer
set_option maxRecDepth 20000 in
theorem ggL_law_X7_offer : GoodIn wsL_law wsX7_offer := goodIn_r _ [626, 121, 83, 153, 154, 155, 5, 156, 77, 122, 123, 124, 726, 727, 728, 729, 730, 731, 732, 733, 734, 735, 736, 737, 738, 739, 740, 741, 742, 743] (by decide +kernel) (by decide +kernel)
set_option maxRecDepth 20000 in
theorem gL_law_X7_offer : GoodIn wsL_law (wsV RL 86 RX7 yX7_offer wsX7_offer) := goodIn_app (goodIn_of _ (by decide +kernel)) ggL_law_X7_offer
