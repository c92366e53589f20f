set_option maxRecDepth 20000 in
theorem gcL_wsX6_sick_r1 : GoodIn wsL_law wsX6_sick_r1 := goodIn_r _ [31, 15, 681, 682, 683, 30, 684, 72, 685, 578, 579, 55, 580, 581, 686, 687, 688, 689, 690, 691, 692, 693, 257, 258] (by decide +kernel) (by decide +kernel)
set_option maxRecDepth 20000 in
theorem gcL_wsX6_sick_r2 : GoodIn wsL_law wsX6_sick_r2 := goodIn_r _ [14, 259, 100, 189, 2, 190, 694, 231, 232, 233, 234, 235, 236, 695, 696, 697, 698, 595, 596, 597, 61, 602, 603, 604] (by decide +kernel) (by decide +kernel)
set_option maxRecDepth 20000 in
theorem gcL_wsX6_sick_r3 : GoodIn wsL_law wsX6_sick_r3 := goodIn_r _ [605] (by decide +kernel) (by decide +kernel)
set_option maxRecDepth 20000 in
theorem gcL_wsX6_sick_c : GoodIn wsL_law [.code yX6_sick cX6_sick 2 (some .int)] := goodIn_r _ [680] (by decide +kernel) (by decide +kernel)
set_option maxRecDepth 20000 in
theorem ggL_law_X6_sick : GoodIn wsL_law wsX6_sick := goodIn_co gcL_wsX6_sick_c (goodIn_app (goodIn_app (goodIn_app (goodIn_app (goodIn_app gcL_wsX6_sick_r1 (goodIn_app gcL_wsX6_sick_r2 gcL_wsX6_sick_r3)) gcL_wsX60) gcL_wsX40) gcL_wsX30) gcL_wsX20)
set_option maxRecDepth 20000 in
theorem ggL_law_X7_sick : GoodIn wsL_law wsX7_sick := goodIn_r _ [702, 610, 77, 88, 405, 406, 5, 407, 703, 704, 705, 706, 120, 81, 82, 78, 611, 612, 613, 614, 122, 123, 124, 726, 727, 728, 729, 730, 731, 732, 733, 734, 735, 736, 737, 738, 739, 740, 741, 742, 743] (by decide +kernel) (by decide +kernel)
