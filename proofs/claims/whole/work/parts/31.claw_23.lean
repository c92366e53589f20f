set_option maxRecDepth 20000 in
theorem gL_law_X6_fits : GoodIn wsL_law (wsV RL 53 RX6 yX6_fits wsX6_fits) := goodIn_app (goodIn_of _ (by decide +kernel)) ggL_law_X6_fits
set_option maxRecDepth 20000 in
theorem gL_law_X7_fits : GoodIn wsL_law (wsV RL 56 RX7 yX7_fits wsX7_fits) := goodIn_app (goodIn_of _ (by decide +kernel)) ggL_law_X7_fits
set_option maxRecDepth 20000 in
theorem gL_law_X6_bound : GoodIn wsL_law (wsV RL 57 RX6 yX6_bound wsX6_bound) := goodIn_app (goodIn_of _ (by decide +kernel)) ggL_law_X6_bound
set_option maxRecDepth 20000 in
theorem gL_law_X7_bound : GoodIn wsL_law (wsV RL 61 RX7 yX7_bound wsX7_bound) := goodIn_app (goodIn_of _ (by decide +kernel)) ggL_law_X7_bound
set_option maxRecDepth 20000 in
theorem gL_law_X6_shown : GoodIn wsL_law (wsV RL 62 RX6 yX6_shown wsX6_shown) := goodIn_app (goodIn_of _ (by decide +kernel)) ggL_law_X6_shown
set_option maxRecDepth 20000 in
theorem gL_law_X7_shown : GoodIn wsL_law (wsV RL 66 RX7 yX7_shown wsX7_shown) := goodIn_app (goodIn_of _ (by decide +kernel)) ggL_law_X7_shown
set_option maxRecDepth 20000 in
theorem gL_law_X6_settled : GoodIn wsL_law (wsV RL 67 RX6 yX6_settled wsX6_settled) := goodIn_app (goodIn_of _ (by decide +kernel)) ggL_law_X6_settled
set_option maxRecDepth 20000 in
theorem gL_law_X7_settled : GoodIn wsL_law (wsV RL 70 RX7 yX7_settled wsX7_settled) := goodIn_app (goodIn_of _ (by decide +kernel)) ggL_law_X7_settled
set_option maxRecDepth 20000 in
theorem gL_law_X6_known : GoodIn wsL_law (wsV RL 71 RX6 yX6_known wsX6_known) := goodIn_app (goodIn_of _ (by decide +kernel)) ggL_law_X6_known
set_option maxRecDepth 20000 in
theorem gL_law_X7_known : GoodIn wsL_law (wsV RL 74 RX7 yX7_known wsX7_known) := goodIn_app (goodIn_of _ (by decide +kernel)) ggL_law_X7_known
set_option maxRecDepth 20000 in
theorem gL_law_X6_group : GoodIn wsL_law (wsV RL 75 RX6 yX6_group wsX6_group) := goodIn_app (goodIn_of _ (by decide +kernel)) ggL_law_X6_group
set_option maxRecDepth 20000 in
theorem gL_law_X7_group : GoodIn wsL_law (wsV RL 78 RX7 yX7_group wsX7_group) := goodIn_app (goodIn_of _ (by decide +kernel)) ggL_law_X7_group
set_option maxRecDepth 20000 in
theorem gL_law_X6_lying : GoodIn wsL_law (wsV RL 79 RX6 yX6_lying wsX6_lying) := goodIn_app (goodIn_of _ (by decide +kernel)) ggL_law_X6_lying
set_option maxRecDepth 20000 in
theorem gL_law_X7_lying : GoodIn wsL_law (wsV RL 82 RX7 yX7_lying wsX7_lying) := goodIn_app (goodIn_of _ (by decide +kernel)) ggL_law_X7_lying
