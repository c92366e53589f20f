set_option maxRecDepth 20000 in
theorem ggL_law_X6_offered : GoodIn wsL_law wsX6_offered := goodIn_r _ [630, 15, 631, 632, 633, 634, 14, 635, 99, 130, 131, 132, 133, 134, 135, 136, 137, 39, 721, 722, 723, 724, 725, 744, 745, 746, 747, 748, 749, 750, 751] (by decide +kernel) (by decide +kernel)
set_option maxRecDepth 20000 in
theorem gL_law_X6_offered : GoodIn wsL_law (wsV RL 87 RX6 yX6_offered wsX6_offered) := goodIn_app (goodIn_of _ (by decide +kernel)) ggL_law_X6_offered
set_option maxRecDepth 20000 in
theorem ggL_law_X7_offered : GoodIn wsL_law wsX7_offered := goodIn_r _ [639, 121, 83, 122, 123, 5, 124, 153, 154, 155, 156, 77, 726, 727, 728, 729, 730, 731, 732, 733, 734, 735, 736, 737, 738, 739, 740, 741, 742, 743] (by decide +kernel) (by decide +kernel)
set_option maxRecDepth 20000 in
theorem gL_law_X7_offered : GoodIn wsL_law (wsV RL 90 RX7 yX7_offered wsX7_offered) := goodIn_app (goodIn_of _ (by decide +kernel)) ggL_law_X7_offered
set_option maxRecDepth 20000 in
theorem ggL_law_X6_advice : GoodIn wsL_law wsX6_advice := goodIn_r _ [643, 15, 27, 489, 135, 136, 14, 137, 39, 644, 645, 646, 26, 647, 648, 254, 242, 243, 244, 245, 241, 67, 246, 247, 248, 249, 250, 251, 252, 253, 255, 256, 257, 258, 259, 100, 189, 2, 190, 260, 261, 262, 263, 65, 264, 265, 266, 267, 268, 269, 270, 271, 272, 273, 274, 275, 276, 277, 278, 649, 650, 651, 652, 66, 653, 654, 309, 655, 656, 657, 658, 659, 660, 661, 662, 663, 664, 231, 232, 233, 234, 235, 236, 665, 666, 667, 668, 721, 722, 723, 724, 725, 744, 745, 746, 747, 748, 749, 750, 751, 768, 769, 770, 771, 772, 773] (by decide +kernel) (by decide +kernel)
set_option maxRecDepth 20000 in
theorem gL_law_X6_advice : GoodIn wsL_law (wsV RL 91 RX6 yX6_advice wsX6_advice) := goodIn_app (goodIn_of _ (by decide +kernel)) ggL_law_X6_advice
set_option maxRecDepth 20000 in
theorem ggL_law_X7_advice : GoodIn wsL_law wsX7_advice := goodIn_r _ [672, 121, 153, 154, 155, 5, 156, 77, 122, 123, 124, 405, 406, 407, 673, 674, 675, 676, 454, 455, 456, 457, 395, 396, 397, 398, 120, 81, 458, 459, 460, 461, 403, 78, 83, 404, 462, 463, 464, 465, 84, 439, 440, 441, 442, 443, 444, 445, 446, 416, 417, 418, 419, 726, 727, 728, 729, 730, 731, 732, 733, 734, 735, 736, 737, 738, 739, 740, 741, 742, 743] (by decide +kernel) (by decide +kernel)
set_option maxRecDepth 20000 in
theorem gL_law_X7_advice : GoodIn wsL_law (wsV RL 94 RX7 yX7_advice wsX7_advice) := goodIn_app (goodIn_of _ (by decide +kernel)) ggL_law_X7_advice
set_option maxRecDepth 20000 in
theorem ggL_law_X6_sick : GoodIn wsL_law wsX6_sick := goodIn_r _ [680, 31, 15, 681, 682, 683, 30, 684, 72, 685, 578, 579, 55, 580, 581, 686, 687, 688, 689, 690, 691, 692, 693, 257, 258, 14, 259, 100, 189, 2, 190, 694, 231, 232, 233, 234, 235, 236, 695, 696, 697, 698, 595, 596, 597, 61, 602, 603, 604, 605, 721, 722, 723, 724, 725, 774, 775, 776, 744, 745, 746, 747, 748, 749, 750, 751] (by decide +kernel) (by decide +kernel)
set_option maxRecDepth 20000 in
theorem gL_law_X6_sick : GoodIn wsL_law (wsV RL 95 RX6 yX6_sick wsX6_sick) := goodIn_app (goodIn_of _ (by decide +kernel)) ggL_law_X6_sick
set_option maxRecDepth 20000 in
theorem ggL_law_X7_sick : GoodIn wsL_law wsX7_sick := goodIn_r _ [702, 610, 77, 88, 405, 406, 5, 407, 703, 704, 705, 706, 120, 81, 82, 78, 611, 612, 613, 614, 122, 123, 124, 726, 727, 728, 729, 730, 731, 732, 733, 734, 735, 736, 737, 738, 739, 740, 741, 742, 743] (by decide +kernel) (by decide +kernel)
set_option maxRecDepth 20000 in
theorem gL_law_X7_sick : GoodIn wsL_law (wsV RL 98 RX7 yX7_sick wsX7_sick) := goodIn_app (goodIn_of _ (by decide +kernel)) ggL_law_X7_sick
