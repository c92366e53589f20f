set_option maxRecDepth 20000 in
theorem ggL_law_X6_sum : GoodIn wsL_law wsX6_sum := goodIn_r _ [160, 15, 161, 162, 163, 164, 14, 165, 98, 138, 139, 2, 140, 141, 102, 103, 104, 105, 19, 23, 106, 107, 108, 18, 109, 49, 110, 111, 112, 22, 113, 114, 721, 722, 723, 724, 725, 744, 745, 746, 747, 748, 749, 750, 751, 752, 753, 754, 755, 756, 757, 758, 759, 760, 761, 762, 763, 764, 765, 766, 767] (by decide +kernel) (by decide +kernel)
set_option maxRecDepth 20000 in
theorem gL_law_X6_sum : GoodIn wsL_law (wsV RL 23 RX6 yX6_sum wsX6_sum) := goodIn_app (goodIn_of _ (by decide +kernel)) ggL_law_X6_sum
set_option maxRecDepth 20000 in
theorem ggL_law_X7_sum : GoodIn wsL_law wsX7_sum := goodIn_r _ [169, 152, 79, 170, 171, 172, 5, 173, 120, 122, 123, 124, 726, 727, 728, 729, 730, 731, 732, 733, 734, 735, 736, 737, 738, 739, 740, 741, 742, 743] (by decide +kernel) (by decide +kernel)
set_option maxRecDepth 20000 in
theorem gL_law_X7_sum : GoodIn wsL_law (wsV RL 26 RX7 yX7_sum wsX7_sum) := goodIn_app (goodIn_of _ (by decide +kernel)) ggL_law_X7_sum
set_option maxRecDepth 20000 in
theorem ggL_law_X6_over : GoodIn wsL_law wsX6_over := goodIn_r _ [177, 15, 178, 162, 163, 164, 14, 165, 98, 130, 131, 132, 133, 134, 135, 136, 137, 39, 102, 103, 104, 2, 105, 19, 23, 106, 107, 108, 18, 109, 49, 110, 111, 112, 22, 113, 114, 721, 722, 723, 724, 725, 744, 745, 746, 747, 748, 749, 750, 751, 752, 753, 754, 755, 756, 757, 758, 759, 760, 761, 762, 763, 764, 765, 766, 767] (by decide +kernel) (by decide +kernel)
set_option maxRecDepth 20000 in
theorem gL_law_X6_over : GoodIn wsL_law (wsV RL 27 RX6 yX6_over wsX6_over) := goodIn_app (goodIn_of _ (by decide +kernel)) ggL_law_X6_over
set_option maxRecDepth 20000 in
theorem ggL_law_X7_over : GoodIn wsL_law wsX7_over := goodIn_r _ [182, 78, 170, 171, 172, 5, 173, 120, 122, 123, 124, 153, 154, 155, 156, 77, 726, 727, 728, 729, 730, 731, 732, 733, 734, 735, 736, 737, 738, 739, 740, 741, 742, 743] (by decide +kernel) (by decide +kernel)
set_option maxRecDepth 20000 in
theorem gL_law_X7_over : GoodIn wsL_law (wsV RL 30 RX7 yX7_over wsX7_over) := goodIn_app (goodIn_of _ (by decide +kernel)) ggL_law_X7_over
set_option maxRecDepth 20000 in
theorem ggL_law_X6_on : GoodIn wsL_law wsX6_on := goodIn_r _ [186, 15, 187, 162, 163, 164, 14, 165, 98, 188, 189, 2, 190, 191, 146, 147, 102, 103, 104, 105, 19, 23, 106, 107, 108, 18, 109, 49, 110, 111, 112, 22, 113, 114, 721, 722, 723, 724, 725, 744, 745, 746, 747, 748, 749, 750, 751, 752, 753, 754, 755, 756, 757, 758, 759, 760, 761, 762, 763, 764, 765, 766, 767] (by decide +kernel) (by decide +kernel)
set_option maxRecDepth 20000 in
theorem gL_law_X6_on : GoodIn wsL_law (wsV RL 31 RX6 yX6_on wsX6_on) := goodIn_app (goodIn_of _ (by decide +kernel)) ggL_law_X6_on
set_option maxRecDepth 20000 in
theorem ggL_law_X7_on : GoodIn wsL_law wsX7_on := goodIn_r _ [195, 81, 170, 171, 172, 5, 173, 120, 122, 123, 124, 726, 727, 728, 729, 730, 731, 732, 733, 734, 735, 736, 737, 738, 739, 740, 741, 742, 743] (by decide +kernel) (by decide +kernel)
set_option maxRecDepth 20000 in
theorem gL_law_X7_on : GoodIn wsL_law (wsV RL 35 RX7 yX7_on wsX7_on) := goodIn_app (goodIn_of _ (by decide +kernel)) ggL_law_X7_on
