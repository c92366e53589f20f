set_option maxRecDepth 20000 in
theorem gL_law_X6_offer : GoodIn wsL_law (wsV RL 83 RX6 yX6_offer wsX6_offer) := goodIn_app (goodIn_of _ (by decide +kernel)) ggL_law_X6_offer
set_option maxRecDepth 20000 in
theorem gL_law_X7_offer : GoodIn wsL_law (wsV RL 86 RX7 yX7_offer wsX7_offer) := goodIn_app (goodIn_of _ (by decide +kernel)) ggL_law_X7_offer
set_option maxRecDepth 20000 in
theorem gL_law_X6_offered : GoodIn wsL_law (wsV RL 87 RX6 yX6_offered wsX6_offered) := goodIn_app (goodIn_of _ (by decide +kernel)) ggL_law_X6_offered
set_option maxRecDepth 20000 in
theorem gL_law_X7_offered : GoodIn wsL_law (wsV RL 90 RX7 yX7_offered wsX7_offered) := goodIn_app (goodIn_of _ (by decide +kernel)) ggL_law_X7_offered
set_option maxRecDepth 20000 in
theorem gL_law_X6_advice : GoodIn wsL_law (wsV RL 91 RX6 yX6_advice wsX6_advice) := goodIn_app (goodIn_of _ (by decide +kernel)) ggL_law_X6_advice
set_option maxRecDepth 20000 in
theorem gL_law_X7_advice : GoodIn wsL_law (wsV RL 94 RX7 yX7_advice wsX7_advice) := goodIn_app (goodIn_of _ (by decide +kernel)) ggL_law_X7_advice
set_option maxRecDepth 20000 in
theorem gL_law_X6_sick : GoodIn wsL_law (wsV RL 95 RX6 yX6_sick wsX6_sick) := goodIn_app (goodIn_of _ (by decide +kernel)) ggL_law_X6_sick
set_option maxRecDepth 20000 in
theorem gL_law_X7_sick : GoodIn wsL_law (wsV RL 98 RX7 yX7_sick wsX7_sick) := goodIn_app (goodIn_of _ (by decide +kernel)) ggL_law_X7_sick
set_option maxRecDepth 20000 in
theorem gL_law_X6_pair : GoodIn wsL_law (wsV RL 99 RX6 yX6_pair wsX6_pair) := goodIn_app (goodIn_of _ (by decide +kernel)) ggL_law_X6_pair
set_option maxRecDepth 20000 in
theorem gL_law_X7_pair : GoodIn wsL_law (wsV RL 103 RX7 yX7_pair wsX7_pair) := goodIn_app (goodIn_of _ (by decide +kernel)) ggL_law_X7_pair
