set_option maxRecDepth 20000 in
theorem ggL_law_X6_pair : GoodIn wsL_law wsX6_pair := goodIn_r _ [710, 486, 487, 711, 712, 2, 713, 714, 490, 491, 492, 493, 494, 495, 496, 497, 498] (by decide +kernel) (by decide +kernel)
set_option maxRecDepth 20000 in
theorem ggL_law_X7_pair : GoodIn wsL_law wsX7_pair := goodIn_r _ [718, 719, 720, 503, 504, 122, 123, 5, 124, 510, 511, 512, 513, 514, 515] (by decide +kernel) (by decide +kernel)
set_option maxRecDepth 20000 in
theorem gL_law_X6_init : GoodIn wsL_law (wsX6_init) := ggL_law_X6_init
set_option maxRecDepth 20000 in
theorem gL_law_X7_init : GoodIn wsL_law (wsX7_init) := ggL_law_X7_init
set_option maxRecDepth 20000 in
theorem gL_law_X6_lines : GoodIn wsL_law (wsV RL 13 RX6 yX6_lines wsX6_lines) := goodIn_app (goodIn_of _ (by decide +kernel)) ggL_law_X6_lines
set_option maxRecDepth 20000 in
theorem gL_law_X7_lines : GoodIn wsL_law (wsV RL 17 RX7 yX7_lines wsX7_lines) := goodIn_app (goodIn_of _ (by decide +kernel)) ggL_law_X7_lines
set_option maxRecDepth 20000 in
theorem gL_law_X6_way : GoodIn wsL_law (wsV RL 18 RX6 yX6_way wsX6_way) := goodIn_app (goodIn_of _ (by decide +kernel)) ggL_law_X6_way
set_option maxRecDepth 20000 in
theorem gL_law_X7_way : GoodIn wsL_law (wsV RL 22 RX7 yX7_way wsX7_way) := goodIn_app (goodIn_of _ (by decide +kernel)) ggL_law_X7_way
