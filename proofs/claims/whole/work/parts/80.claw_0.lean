set_option maxRecDepth 20000 in
theorem ggL_law_X6_init : GoodIn wsL_law wsX6_init := goodIn_r _ [8, 9, 10, 11, 12, 13, 14, 15, 16, 17, 18, 19, 20, 21, 22, 23, 24, 25, 26, 27, 28, 29, 30, 31, 32, 33, 34, 35, 36, 37, 38, 39, 40, 41, 42, 43, 44, 45, 46, 47, 48, 49, 50, 51, 52, 53, 54, 55, 56, 57, 58, 59, 60, 61, 62, 63, 64, 65, 66, 67, 68, 69, 70, 71, 72, 744, 745, 746, 747, 748, 749, 750, 751, 721, 722, 723, 724, 725, 752, 753, 754, 755, 756, 757, 758, 759, 760, 761, 762, 763, 764, 765, 766, 767, 768, 769, 770, 771, 772, 773, 774, 775, 776] (by decide +kernel) (by decide +kernel)
set_option maxRecDepth 20000 in
theorem gL_law_X6_init : GoodIn wsL_law (wsX6_init) := ggL_law_X6_init
set_option maxRecDepth 20000 in
theorem ggL_law_X7_init : GoodIn wsL_law wsX7_init := goodIn_r _ [75, 76, 10, 11, 77, 35, 78, 79, 80, 81, 82, 83, 43, 84, 85, 86, 87, 88, 726, 727, 728, 729, 730, 731, 732, 733, 734, 735, 736, 737, 738, 739, 740, 741, 742, 743] (by decide +kernel) (by decide +kernel)
set_option maxRecDepth 20000 in
theorem gL_law_X7_init : GoodIn wsL_law (wsX7_init) := ggL_law_X7_init
set_option maxRecDepth 20000 in
theorem ggL_law_X6_lines : GoodIn wsL_law wsX6_lines := goodIn_r _ [92, 15, 93, 94, 95, 96, 14, 97, 39, 98, 99, 100, 101, 102, 103, 104, 2, 105, 19, 23, 106, 107, 108, 18, 109, 49, 110, 111, 112, 22, 113, 114, 721, 722, 723, 724, 725, 744, 745, 746, 747, 748, 749, 750, 751, 752, 753, 754, 755, 756, 757, 758, 759, 760, 761, 762, 763, 764, 765, 766, 767] (by decide +kernel) (by decide +kernel)
set_option maxRecDepth 20000 in
theorem gL_law_X6_lines : GoodIn wsL_law (wsV RL 13 RX6 yX6_lines wsX6_lines) := goodIn_app (goodIn_of _ (by decide +kernel)) ggL_law_X6_lines
set_option maxRecDepth 20000 in
theorem ggL_law_X7_lines : GoodIn wsL_law wsX7_lines := goodIn_r _ [118, 119, 77, 120, 121, 122, 123, 5, 124, 726, 727, 728, 729, 730, 731, 732, 733, 734, 735, 736, 737, 738, 739, 740, 741, 742, 743] (by decide +kernel) (by decide +kernel)
set_option maxRecDepth 20000 in
theorem gL_law_X7_lines : GoodIn wsL_law (wsV RL 17 RX7 yX7_lines wsX7_lines) := goodIn_app (goodIn_of _ (by decide +kernel)) ggL_law_X7_lines
set_option maxRecDepth 20000 in
theorem ggL_law_X6_way : GoodIn wsL_law wsX6_way := goodIn_r _ [128, 15, 129, 130, 131, 132, 14, 133, 134, 135, 136, 137, 39, 138, 139, 2, 140, 141, 102, 103, 104, 105, 19, 23, 106, 107, 108, 18, 109, 49, 110, 111, 112, 22, 113, 114, 142, 143, 144, 145, 98, 36, 37, 100, 101, 146, 147, 721, 722, 723, 724, 725, 744, 745, 746, 747, 748, 749, 750, 751, 752, 753, 754, 755, 756, 757, 758, 759, 760, 761, 762, 763, 764, 765, 766, 767] (by decide +kernel) (by decide +kernel)
set_option maxRecDepth 20000 in
theorem gL_law_X6_way : GoodIn wsL_law (wsV RL 18 RX6 yX6_way wsX6_way) := goodIn_app (goodIn_of _ (by decide +kernel)) ggL_law_X6_way
set_option maxRecDepth 20000 in
theorem ggL_law_X7_way : GoodIn wsL_law wsX7_way := goodIn_r _ [151, 152, 120, 78, 79, 81, 82, 153, 154, 155, 5, 156, 77, 122, 123, 124, 726, 727, 728, 729, 730, 731, 732, 733, 734, 735, 736, 737, 738, 739, 740, 741, 742, 743] (by decide +kernel) (by decide +kernel)
set_option maxRecDepth 20000 in
theorem gL_law_X7_way : GoodIn wsL_law (wsV RL 22 RX7 yX7_way wsX7_way) := goodIn_app (goodIn_of _ (by decide +kernel)) ggL_law_X7_way
