set_option maxRecDepth 20000 in
theorem ggL_law_X7_offer : GoodIn wsL_law wsX7_offer := goodIn_r _ [626, 121, 83, 153, 154, 155, 5, 156, 77, 122, 123, 124, 726, 727, 728, 729, 730, 731, 732, 733, 734, 735, 736, 737, 738, 739, 740, 741, 742, 743] (by decide +kernel) (by decide +kernel)
set_option maxRecDepth 20000 in
theorem ggL_law_X6_offered : GoodIn wsL_law wsX6_offered := goodIn_r _ [630, 15, 631, 632, 633, 634, 14, 635, 99, 130, 131, 132, 133, 134, 135, 136, 137, 39, 721, 722, 723, 724, 725, 744, 745, 746, 747, 748, 749, 750, 751] (by decide +kernel) (by decide +kernel)
set_option maxRecDepth 20000 in
theorem ggL_law_X7_offered : GoodIn wsL_law wsX7_offered := goodIn_r _ [639, 121, 83, 122, 123, 5, 124, 153, 154, 155, 156, 77, 726, 727, 728, 729, 730, 731, 732, 733, 734, 735, 736, 737, 738, 739, 740, 741, 742, 743] (by decide +kernel) (by decide +kernel)
set_option maxRecDepth 20000 in
theorem gcL_wsX6_advice_r1 : GoodIn wsL_law wsX6_advice_r1 := goodIn_r _ [15, 27, 489, 135, 136, 14, 137, 39, 644, 645, 646, 26, 647, 648, 254, 242, 243, 244, 245, 241, 67, 246, 247, 248] (by decide +kernel) (by decide +kernel)
