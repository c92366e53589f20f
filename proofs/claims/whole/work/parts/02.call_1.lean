set_option maxRecDepth 20000 in
theorem ggX5_fewestOffers_X5_allAskedAreEmpty : GoodIn wsX5_fewestOffers wsX5_allAskedAreEmpty := goodIn_r _ [64, 16, 1, 25, 26, 27, 36, 37, 38, 6, 39, 32, 33, 34, 35, 76, 77, 78, 79, 80, 81] (by decide +kernel) (by decide +kernel)
set_option maxRecDepth 20000 in
theorem gX5_fewestOffers_X5_allAskedAreEmpty : GoodIn wsX5_fewestOffers (wsV RX5 57 RX5 yX5_allAskedAreEmpty wsX5_allAskedAreEmpty) := goodIn_app (goodIn_of _ (by decide +kernel)) ggX5_fewestOffers_X5_allAskedAreEmpty
set_option maxRecDepth 20000 in
theorem ggX5_takeWays_X5_load : GoodIn wsX5_takeWays wsX5_load := goodIn_r _ [8, 9, 10, 3, 11, 12, 13, 14, 15, 16, 17, 18, 19, 20, 21, 22, 23, 24, 25, 7, 26, 27, 28, 29, 30, 49, 50, 51, 52, 53, 54, 55, 56, 43, 44, 45, 46, 47, 48] (by decide +kernel) (by decide +kernel)
set_option maxRecDepth 20000 in
theorem gX5_takeWays_X5_load : GoodIn wsX5_takeWays (wsV RX5 60 RX5 yX5_load wsX5_load) := goodIn_app (goodIn_of _ (by decide +kernel)) ggX5_takeWays_X5_load
set_option maxRecDepth 20000 in
theorem ggX5_takeWays_X5_firstFilledColumn : GoodIn wsX5_takeWays wsX5_firstFilledColumn := goodIn_r _ [34, 10, 27, 28, 29, 7, 30, 43, 44, 45, 46, 47, 48] (by decide +kernel) (by decide +kernel)
set_option maxRecDepth 20000 in
theorem gX5_takeWays_X5_firstFilledColumn : GoodIn wsX5_takeWays (wsV RX5 32 RX5 yX5_firstFilledColumn wsX5_firstFilledColumn) := goodIn_app (goodIn_of _ (by decide +kernel)) ggX5_takeWays_X5_firstFilledColumn
set_option maxRecDepth 20000 in
theorem ggX5_takeWays_X5_takeWay : GoodIn wsX5_takeWays wsX5_takeWay := goodIn_r _ [38, 10, 2, 27, 1, 28, 29, 7, 30, 39, 40, 41, 42, 43, 44, 45, 46, 47, 48] (by decide +kernel) (by decide +kernel)
set_option maxRecDepth 20000 in
theorem gX5_takeWays_X5_takeWay : GoodIn wsX5_takeWays (wsV RX5 66 RX5 yX5_takeWay wsX5_takeWay) := goodIn_app (goodIn_of _ (by decide +kernel)) ggX5_takeWays_X5_takeWay
set_option maxRecDepth 20000 in
theorem ggX5_load_X2_isOn : GoodIn wsX5_load wsX2_isOn := goodIn_r _ [11, 12, 13, 14, 15, 25, 26, 27, 28, 29, 30, 31, 32] (by decide +kernel) (by decide +kernel)
set_option maxRecDepth 20000 in
theorem gX5_load_X2_isOn : GoodIn wsX5_load (wsV RX5 71 RX2 yX2_isOn wsX2_isOn) := goodIn_app (goodIn_of _ (by decide +kernel)) ggX5_load_X2_isOn
set_option maxRecDepth 20000 in
theorem ggX5_load_X5_loadRow : GoodIn wsX5_load wsX5_loadRow := goodIn_r _ [20, 2, 21, 22, 23, 19, 24, 13, 14, 15, 33, 34, 35, 36, 37, 38] (by decide +kernel) (by decide +kernel)
set_option maxRecDepth 20000 in
theorem gX5_load_X5_loadRow : GoodIn wsX5_load (wsV RX5 77 RX5 yX5_loadRow wsX5_loadRow) := goodIn_app (goodIn_of _ (by decide +kernel)) ggX5_load_X5_loadRow
set_option maxRecDepth 20000 in
theorem ggX5_loadRow_X5_startOf : GoodIn wsX5_loadRow wsX5_startOf := goodIn_r _ [6] (by decide +kernel) (by decide +kernel)
set_option maxRecDepth 20000 in
theorem gX5_loadRow_X5_startOf : GoodIn wsX5_loadRow (va_wsS RX5 83 yX5_startOf wsX5_startOf) := goodIn_app (goodIn_of _ (by decide +kernel)) ggX5_loadRow_X5_startOf
set_option maxRecDepth 20000 in
theorem ggX5_loadRow_X6_bitOf : GoodIn wsX5_loadRow wsX6_bitOf := goodIn_r _ [9] (by decide +kernel) (by decide +kernel)
set_option maxRecDepth 20000 in
theorem gX5_loadRow_X6_bitOf_n86 : GoodIn wsX5_loadRow (wsX6_bitOf) := ggX5_loadRow_X6_bitOf
set_option maxRecDepth 20000 in
theorem ggX5_firstFilledColumn_X5_startOf : GoodIn wsX5_firstFilledColumn wsX5_startOf := goodIn_r _ [6] (by decide +kernel) (by decide +kernel)
set_option maxRecDepth 20000 in
theorem gX5_firstFilledColumn_X5_startOf : GoodIn wsX5_firstFilledColumn (va_wsS RX5 83 yX5_startOf wsX5_startOf) := goodIn_app (goodIn_of _ (by decide +kernel)) ggX5_firstFilledColumn_X5_startOf
set_option maxRecDepth 20000 in
theorem ggX5_takeWay_X5_startOf : GoodIn wsX5_takeWay wsX5_startOf := goodIn_r _ [8] (by decide +kernel) (by decide +kernel)
set_option maxRecDepth 20000 in
theorem gX5_takeWay_X5_startOf : GoodIn wsX5_takeWay (va_wsS RX5 83 yX5_startOf wsX5_startOf) := goodIn_app (goodIn_of _ (by decide +kernel)) ggX5_takeWay_X5_startOf
set_option maxRecDepth 20000 in
theorem ggX5_takeWay_X5_clearColumn : GoodIn wsX5_takeWay wsX5_clearColumn := goodIn_r _ [12, 3, 1, 13, 14, 15, 16, 17, 18] (by decide +kernel) (by decide +kernel)
set_option maxRecDepth 20000 in
theorem gX5_takeWay_X5_clearColumn : GoodIn wsX5_takeWay (wsV RX5 89 RX5 yX5_clearColumn wsX5_clearColumn) := goodIn_app (goodIn_of _ (by decide +kernel)) ggX5_takeWay_X5_clearColumn
set_option maxRecDepth 20000 in
theorem ggX5_takeSet_J6_bitCount_0f7a4 : GoodIn wsX5_takeSet wsJ6_bitCount_0f7a4 := goodIn_r _ [5, 6, 7, 8] (by decide +kernel) (by decide +kernel)
set_option maxRecDepth 20000 in
theorem gX5_takeSet_J6_bitCount_0f7a4 : GoodIn wsX5_takeSet (va_wsS RX5 48 yJ6_bitCount_0f7a4 wsJ6_bitCount_0f7a4) := goodIn_app (goodIn_of _ (by decide +kernel)) ggX5_takeSet_J6_bitCount_0f7a4
set_option maxRecDepth 20000 in
theorem ggX5_takeSet_X5_takeOffer : GoodIn wsX5_takeSet wsX5_takeOffer := goodIn_r _ [13, 14, 15, 16, 17, 1, 18, 19, 20, 12, 21, 22, 23, 24, 25, 26, 27, 28, 29, 30, 31, 32, 33, 34, 35, 36, 37] (by decide +kernel) (by decide +kernel)
set_option maxRecDepth 20000 in
theorem gX5_takeSet_X5_takeOffer : GoodIn wsX5_takeSet (wsV RX5 93 RX5 yX5_takeOffer wsX5_takeOffer) := goodIn_app (goodIn_of _ (by decide +kernel)) ggX5_takeSet_X5_takeOffer
set_option maxRecDepth 20000 in
theorem ggX5_takeOffer_X5_firstFilledColumn : GoodIn wsX5_takeOffer wsX5_firstFilledColumn := goodIn_r _ [10, 1, 4, 11, 12, 9, 13, 21, 22, 23, 24, 25, 26] (by decide +kernel) (by decide +kernel)
set_option maxRecDepth 20000 in
theorem gX5_takeOffer_X5_firstFilledColumn : GoodIn wsX5_takeOffer (wsV RX5 32 RX5 yX5_firstFilledColumn wsX5_firstFilledColumn) := goodIn_app (goodIn_of _ (by decide +kernel)) ggX5_takeOffer_X5_firstFilledColumn
set_option maxRecDepth 20000 in
theorem ggX5_takeOffer_X5_startOf : GoodIn wsX5_takeOffer wsX5_startOf := goodIn_r _ [13] (by decide +kernel) (by decide +kernel)
set_option maxRecDepth 20000 in
theorem gX5_takeOffer_X5_startOf : GoodIn wsX5_takeOffer (va_wsS RX5 83 yX5_startOf wsX5_startOf) := goodIn_app (goodIn_of _ (by decide +kernel)) ggX5_takeOffer_X5_startOf
set_option maxRecDepth 20000 in
theorem ggX5_takeOffer_X6_bitOf : GoodIn wsX5_takeOffer wsX6_bitOf := goodIn_r _ [16] (by decide +kernel) (by decide +kernel)
set_option maxRecDepth 20000 in
theorem gX5_takeOffer_X6_bitOf_n86 : GoodIn wsX5_takeOffer (wsX6_bitOf) := ggX5_takeOffer_X6_bitOf
set_option maxRecDepth 20000 in
theorem ggX5_takeOffer_X5_clearColumn : GoodIn wsX5_takeOffer wsX5_clearColumn := goodIn_r _ [20, 4, 1, 21, 22, 23, 24, 25, 26] (by decide +kernel) (by decide +kernel)
set_option maxRecDepth 20000 in
theorem gX5_takeOffer_X5_clearColumn : GoodIn wsX5_takeOffer (wsV RX5 89 RX5 yX5_clearColumn wsX5_clearColumn) := goodIn_app (goodIn_of _ (by decide +kernel)) ggX5_takeOffer_X5_clearColumn
set_option maxRecDepth 20000 in
theorem ggX5_allAskedAreEmpty_X6_bitOf : GoodIn wsX5_allAskedAreEmpty wsX6_bitOf := goodIn_r _ [5] (by decide +kernel) (by decide +kernel)
set_option maxRecDepth 20000 in
theorem gX5_allAskedAreEmpty_X6_bitOf_n86 : GoodIn wsX5_allAskedAreEmpty (wsX6_bitOf) := ggX5_allAskedAreEmpty_X6_bitOf
set_option maxRecDepth 20000 in
theorem ggX5_allAskedAreEmpty_X5_firstFilledColumn : GoodIn wsX5_allAskedAreEmpty wsX5_firstFilledColumn := goodIn_r _ [10, 1, 11, 12, 13, 9, 14, 15, 16, 17, 18, 19, 20] (by decide +kernel) (by decide +kernel)
set_option maxRecDepth 20000 in
theorem gX5_allAskedAreEmpty_X5_firstFilledColumn : GoodIn wsX5_allAskedAreEmpty (wsV RX5 32 RX5 yX5_firstFilledColumn wsX5_firstFilledColumn) := goodIn_app (goodIn_of _ (by decide +kernel)) ggX5_allAskedAreEmpty_X5_firstFilledColumn
set_option maxRecDepth 20000 in
theorem ggX5_allOffersDo_J7_fill_53178 : GoodIn wsX5_allOffersDo wsJ7_fill_53178 := goodIn_r _ [5] (by decide +kernel) (by decide +kernel)
set_option maxRecDepth 20000 in
theorem gX5_allOffersDo_J7_fill_53178 : GoodIn wsX5_allOffersDo (va_wsS RX5 97 yJ7_fill_53178 wsJ7_fill_53178) := goodIn_app (goodIn_of _ (by decide +kernel)) ggX5_allOffersDo_J7_fill_53178
set_option maxRecDepth 20000 in
theorem ggX5_allOffersDo_X5_takeOffer : GoodIn wsX5_allOffersDo wsX5_takeOffer := goodIn_r _ [10, 11, 12, 13, 14, 1, 15, 16, 17, 9, 18, 19, 20, 21, 22, 23, 24, 25, 26, 27, 28, 33, 34, 35, 36, 37, 38] (by decide +kernel) (by decide +kernel)
set_option maxRecDepth 20000 in
theorem gX5_allOffersDo_X5_takeOffer : GoodIn wsX5_allOffersDo (wsV RX5 93 RX5 yX5_takeOffer wsX5_takeOffer) := goodIn_app (goodIn_of _ (by decide +kernel)) ggX5_allOffersDo_X5_takeOffer
set_option maxRecDepth 20000 in
theorem ggX5_allOffersDo_X5_allAskedAreEmpty : GoodIn wsX5_allOffersDo wsX5_allAskedAreEmpty := goodIn_r _ [32, 11, 12, 22, 23, 24, 15, 16, 17, 9, 18, 14, 19, 20, 21, 33, 34, 35, 36, 37, 38] (by decide +kernel) (by decide +kernel)
set_option maxRecDepth 20000 in
theorem gX5_allOffersDo_X5_allAskedAreEmpty : GoodIn wsX5_allOffersDo (wsV RX5 57 RX5 yX5_allAskedAreEmpty wsX5_allAskedAreEmpty) := goodIn_app (goodIn_of _ (by decide +kernel)) ggX5_allOffersDo_X5_allAskedAreEmpty
set_option maxRecDepth 20000 in
theorem ggX6_init_X2_init : GoodIn wsX6_init wsX2_init := goodIn_r _ [25, 26, 2, 3, 27, 28, 29, 30, 31, 65, 66, 67, 68, 69, 70, 71, 72] (by decide +kernel) (by decide +kernel)
set_option maxRecDepth 20000 in
theorem gX6_init_X2_init_n9 : GoodIn wsX6_init (wsX2_init) := ggX6_init_X2_init
set_option maxRecDepth 20000 in
theorem ggX6_init_X0_init : GoodIn wsX6_init wsX0_init := goodIn_r _ [33, 34, 2, 3, 35, 36, 27, 37, 38, 39, 40, 41, 78, 79, 80, 81, 82, 83, 84, 85, 86, 87, 88, 89, 90] (by decide +kernel) (by decide +kernel)
set_option maxRecDepth 20000 in
theorem gX6_init_X0_init_n18 : GoodIn wsX6_init (wsX0_init) := ggX6_init_X0_init
set_option maxRecDepth 20000 in
theorem ggX6_init_X1_init : GoodIn wsX6_init wsX1_init := goodIn_r _ [43, 44, 2, 3, 45, 46, 47, 48, 49, 50, 51, 52, 27, 53, 101, 102, 91, 92, 93] (by decide +kernel) (by decide +kernel)
set_option maxRecDepth 20000 in
theorem gX6_init_X1_init_n25 : GoodIn wsX6_init (wsX1_init) := ggX6_init_X1_init
set_option maxRecDepth 20000 in
theorem ggX6_init_X5_init : GoodIn wsX6_init wsX5_init := goodIn_r _ [55, 56, 2, 3, 27, 57, 58, 59, 94, 95, 96, 97, 98, 99] (by decide +kernel) (by decide +kernel)
set_option maxRecDepth 20000 in
theorem gX6_init_X5_init_n32 : GoodIn wsX6_init (wsX5_init) := ggX6_init_X5_init
set_option maxRecDepth 20000 in
theorem ggX6_init_X4_init : GoodIn wsX6_init wsX4_init := goodIn_r _ [61, 62, 2, 3, 63, 46, 47, 64, 50, 51, 52, 27, 53, 101, 102, 100] (by decide +kernel) (by decide +kernel)
set_option maxRecDepth 20000 in
theorem gX6_init_X4_init_n39 : GoodIn wsX6_init (wsX4_init) := ggX6_init_X4_init
set_option maxRecDepth 20000 in
theorem ggX6_lines_X2_startAnew : GoodIn wsX6_lines wsX2_startAnew := goodIn_r _ [7, 8, 9, 10, 11, 12, 37, 38, 39, 40, 41, 42, 43, 44] (by decide +kernel) (by decide +kernel)
set_option maxRecDepth 20000 in
theorem gX6_lines_X2_startAnew : GoodIn wsX6_lines (wsV RX6 48 RX2 yX2_startAnew wsX2_startAnew) := goodIn_app (goodIn_of _ (by decide +kernel)) ggX6_lines_X2_startAnew
set_option maxRecDepth 20000 in
theorem ggX6_lines_X6_forgetAnswers : GoodIn wsX6_lines wsX6_forgetAnswers := goodIn_r _ [17, 18, 19, 20, 21, 22, 23, 24, 25, 26, 27, 28, 29, 30, 31, 32, 33, 34, 35, 36, 45, 46, 47, 48, 49, 50, 51, 52, 53, 54, 55, 56, 57, 58, 59, 60] (by decide +kernel) (by decide +kernel)
set_option maxRecDepth 20000 in
theorem gX6_lines_X6_forgetAnswers : GoodIn wsX6_lines (wsV RX6 52 RX6 yX6_forgetAnswers wsX6_forgetAnswers) := goodIn_app (goodIn_of _ (by decide +kernel)) ggX6_lines_X6_forgetAnswers
set_option maxRecDepth 20000 in
theorem ggX6_way_X2_isFilledLineSet : GoodIn wsX6_way wsX2_isFilledLineSet := goodIn_r _ [7, 8, 9, 10, 6, 11, 12, 52, 53, 54, 55, 56, 57, 58, 59] (by decide +kernel) (by decide +kernel)
set_option maxRecDepth 20000 in
theorem gX6_way_X2_isFilledLineSet : GoodIn wsX6_way (wsV RX6 55 RX2 yX2_isFilledLineSet wsX2_isFilledLineSet) := goodIn_app (goodIn_of _ (by decide +kernel)) ggX6_way_X2_isFilledLineSet
set_option maxRecDepth 20000 in
theorem ggX6_way_X6_isSum : GoodIn wsX6_way wsX6_isSum := goodIn_r _ [16, 17] (by decide +kernel) (by decide +kernel)
set_option maxRecDepth 20000 in
theorem gX6_way_X6_isSum : GoodIn wsX6_way (va_wsS RX6 59 yX6_isSum wsX6_isSum) := goodIn_app (goodIn_of _ (by decide +kernel)) ggX6_way_X6_isSum
set_option maxRecDepth 20000 in
theorem ggX6_way_X6_forgetAnswers : GoodIn wsX6_way wsX6_forgetAnswers := goodIn_r _ [21, 22, 23, 24, 25, 26, 27, 28, 29, 30, 31, 32, 33, 34, 35, 47, 48, 49, 50, 51, 60, 61, 62, 63, 64, 65, 66, 67, 68, 69, 70, 71, 72, 73, 74, 75] (by decide +kernel) (by decide +kernel)
set_option maxRecDepth 20000 in
theorem gX6_way_X6_forgetAnswers : GoodIn wsX6_way (wsV RX6 52 RX6 yX6_forgetAnswers wsX6_forgetAnswers) := goodIn_app (goodIn_of _ (by decide +kernel)) ggX6_way_X6_forgetAnswers
set_option maxRecDepth 20000 in
theorem ggX6_way_X2_addWay : GoodIn wsX6_way wsX2_addWay := goodIn_r _ [39, 40, 41, 42, 43, 44, 45, 15, 46, 52, 53, 54, 55, 56, 57, 58, 59] (by decide +kernel) (by decide +kernel)
set_option maxRecDepth 20000 in
theorem gX6_way_X2_addWay : GoodIn wsX6_way (wsV RX6 65 RX2 yX2_addWay wsX2_addWay) := goodIn_app (goodIn_of _ (by decide +kernel)) ggX6_way_X2_addWay
set_option maxRecDepth 20000 in
theorem ggX6_sum_X2_hasWay : GoodIn wsX6_sum wsX2_hasWay := goodIn_r _ [7, 8, 37, 38, 39, 40, 41, 42, 43, 44] (by decide +kernel) (by decide +kernel)
set_option maxRecDepth 20000 in
theorem gX6_sum_X2_hasWay : GoodIn wsX6_sum (wsV RX6 69 RX2 yX2_hasWay wsX2_hasWay) := goodIn_app (goodIn_of _ (by decide +kernel)) ggX6_sum_X2_hasWay
set_option maxRecDepth 20000 in
theorem ggX6_sum_X6_isSum : GoodIn wsX6_sum wsX6_isSum := goodIn_r _ [12, 13] (by decide +kernel) (by decide +kernel)
set_option maxRecDepth 20000 in
theorem gX6_sum_X6_isSum : GoodIn wsX6_sum (va_wsS RX6 59 yX6_isSum wsX6_isSum) := goodIn_app (goodIn_of _ (by decide +kernel)) ggX6_sum_X6_isSum
set_option maxRecDepth 20000 in
theorem ggX6_sum_X6_forgetAnswers : GoodIn wsX6_sum wsX6_forgetAnswers := goodIn_r _ [17, 18, 19, 20, 21, 22, 23, 24, 25, 26, 27, 28, 29, 30, 31, 32, 33, 34, 35, 36, 45, 46, 47, 48, 49, 50, 51, 52, 53, 54, 55, 56, 57, 58, 59, 60] (by decide +kernel) (by decide +kernel)
set_option maxRecDepth 20000 in
theorem gX6_sum_X6_forgetAnswers : GoodIn wsX6_sum (wsV RX6 52 RX6 yX6_forgetAnswers wsX6_forgetAnswers) := goodIn_app (goodIn_of _ (by decide +kernel)) ggX6_sum_X6_forgetAnswers
set_option maxRecDepth 20000 in
theorem ggX6_over_X2_hasWay : GoodIn wsX6_over wsX2_hasWay := goodIn_r _ [7, 8, 42, 43, 44, 45, 46, 47, 48, 49] (by decide +kernel) (by decide +kernel)
set_option maxRecDepth 20000 in
theorem gX6_over_X2_hasWay : GoodIn wsX6_over (wsV RX6 69 RX2 yX2_hasWay wsX2_hasWay) := goodIn_app (goodIn_of _ (by decide +kernel)) ggX6_over_X2_hasWay
set_option maxRecDepth 20000 in
theorem ggX6_over_X2_isFilledLineSet : GoodIn wsX6_over wsX2_isFilledLineSet := goodIn_r _ [12, 13, 14, 15, 6, 16, 17, 42, 43, 44, 45, 46, 47, 48, 49] (by decide +kernel) (by decide +kernel)
set_option maxRecDepth 20000 in
theorem gX6_over_X2_isFilledLineSet : GoodIn wsX6_over (wsV RX6 55 RX2 yX2_isFilledLineSet wsX2_isFilledLineSet) := goodIn_app (goodIn_of _ (by decide +kernel)) ggX6_over_X2_isFilledLineSet
set_option maxRecDepth 20000 in
theorem ggX6_over_X6_forgetAnswers : GoodIn wsX6_over wsX6_forgetAnswers := goodIn_r _ [22, 23, 24, 25, 26, 27, 28, 29, 30, 31, 32, 33, 34, 35, 36, 37, 38, 39, 40, 41, 50, 51, 52, 53, 54, 55, 56, 57, 58, 59, 60, 61, 62, 63, 64, 65] (by decide +kernel) (by decide +kernel)
set_option maxRecDepth 20000 in
theorem gX6_over_X6_forgetAnswers : GoodIn wsX6_over (wsV RX6 52 RX6 yX6_forgetAnswers wsX6_forgetAnswers) := goodIn_app (goodIn_of _ (by decide +kernel)) ggX6_over_X6_forgetAnswers
set_option maxRecDepth 20000 in
theorem ggX6_on_X2_hasWay : GoodIn wsX6_on wsX2_hasWay := goodIn_r _ [7, 8, 39, 40, 41, 42, 43, 44, 45, 46] (by decide +kernel) (by decide +kernel)
set_option maxRecDepth 20000 in
theorem gX6_on_X2_hasWay : GoodIn wsX6_on (wsV RX6 69 RX2 yX2_hasWay wsX2_hasWay) := goodIn_app (goodIn_of _ (by decide +kernel)) ggX6_on_X2_hasWay
set_option maxRecDepth 20000 in
theorem ggX6_on_X6_bitOf : GoodIn wsX6_on wsX6_bitOf := goodIn_r _ [12] (by decide +kernel) (by decide +kernel)
set_option maxRecDepth 20000 in
theorem gX6_on_X6_bitOf : GoodIn wsX6_on (va_wsS RX6 82 yX6_bitOf wsX6_bitOf) := goodIn_app (goodIn_of _ (by decide +kernel)) ggX6_on_X6_bitOf
set_option maxRecDepth 20000 in
theorem ggX6_on_X6_withBit : GoodIn wsX6_on wsX6_withBit := goodIn_r _ [15] (by decide +kernel) (by decide +kernel)
set_option maxRecDepth 20000 in
theorem gX6_on_X6_withBit : GoodIn wsX6_on (va_wsS RX6 85 yX6_withBit wsX6_withBit) := goodIn_app (goodIn_of _ (by decide +kernel)) ggX6_on_X6_withBit
set_option maxRecDepth 20000 in
theorem ggX6_on_X6_forgetAnswers : GoodIn wsX6_on wsX6_forgetAnswers := goodIn_r _ [19, 20, 21, 22, 23, 24, 25, 26, 27, 28, 29, 30, 31, 32, 33, 34, 35, 36, 37, 38, 47, 48, 49, 50, 51, 52, 53, 54, 55, 56, 57, 58, 59, 60, 61, 62] (by decide +kernel) (by decide +kernel)
set_option maxRecDepth 20000 in
theorem gX6_on_X6_forgetAnswers : GoodIn wsX6_on (wsV RX6 52 RX6 yX6_forgetAnswers wsX6_forgetAnswers) := goodIn_app (goodIn_of _ (by decide +kernel)) ggX6_on_X6_forgetAnswers
set_option maxRecDepth 20000 in
theorem ggX6_bad_X2_hasWay : GoodIn wsX6_bad wsX2_hasWay := goodIn_r _ [7, 8, 21, 22, 23, 24, 25, 26, 27, 28] (by decide +kernel) (by decide +kernel)
set_option maxRecDepth 20000 in
theorem gX6_bad_X2_hasWay : GoodIn wsX6_bad (wsV RX6 69 RX2 yX2_hasWay wsX2_hasWay) := goodIn_app (goodIn_of _ (by decide +kernel)) ggX6_bad_X2_hasWay
set_option maxRecDepth 20000 in
theorem ggX6_bad_X6_bitOf : GoodIn wsX6_bad wsX6_bitOf := goodIn_r _ [12] (by decide +kernel) (by decide +kernel)
set_option maxRecDepth 20000 in
theorem gX6_bad_X6_bitOf : GoodIn wsX6_bad (va_wsS RX6 82 yX6_bitOf wsX6_bitOf) := goodIn_app (goodIn_of _ (by decide +kernel)) ggX6_bad_X6_bitOf
set_option maxRecDepth 20000 in
theorem ggX6_bad_X6_withBit : GoodIn wsX6_bad wsX6_withBit := goodIn_r _ [15] (by decide +kernel) (by decide +kernel)
set_option maxRecDepth 20000 in
theorem gX6_bad_X6_withBit : GoodIn wsX6_bad (va_wsS RX6 85 yX6_withBit wsX6_withBit) := goodIn_app (goodIn_of _ (by decide +kernel)) ggX6_bad_X6_withBit
set_option maxRecDepth 20000 in
theorem ggX6_back_X2_dropLastWay : GoodIn wsX6_back wsX2_dropLastWay := goodIn_r _ [7, 8, 9, 10, 11, 12, 13, 37, 38, 39, 40, 41, 42, 43, 44] (by decide +kernel) (by decide +kernel)
set_option maxRecDepth 20000 in
theorem gX6_back_X2_dropLastWay : GoodIn wsX6_back (wsV RX6 92 RX2 yX2_dropLastWay wsX2_dropLastWay) := goodIn_app (goodIn_of _ (by decide +kernel)) ggX6_back_X2_dropLastWay
set_option maxRecDepth 20000 in
theorem ggX6_back_X6_forgetAnswers : GoodIn wsX6_back wsX6_forgetAnswers := goodIn_r _ [17, 18, 19, 20, 21, 22, 23, 24, 25, 26, 27, 28, 29, 30, 31, 32, 33, 34, 35, 36, 45, 46, 47, 48, 49, 50, 51, 52, 53, 54, 55, 56, 57, 58, 59, 60] (by decide +kernel) (by decide +kernel)
set_option maxRecDepth 20000 in
theorem gX6_back_X6_forgetAnswers : GoodIn wsX6_back (wsV RX6 52 RX6 yX6_forgetAnswers wsX6_forgetAnswers) := goodIn_app (goodIn_of _ (by decide +kernel)) ggX6_back_X6_forgetAnswers
set_option maxRecDepth 20000 in
theorem ggX6_told_X2_hasWay : GoodIn wsX6_told wsX2_hasWay := goodIn_r _ [10, 11, 21, 22, 23, 24, 25, 26, 27, 28] (by decide +kernel) (by decide +kernel)
set_option maxRecDepth 20000 in
theorem gX6_told_X2_hasWay : GoodIn wsX6_told (wsV RX6 69 RX2 yX2_hasWay wsX2_hasWay) := goodIn_app (goodIn_of _ (by decide +kernel)) ggX6_told_X2_hasWay
set_option maxRecDepth 20000 in
theorem ggX6_told_X6_bitOf : GoodIn wsX6_told wsX6_bitOf := goodIn_r _ [15] (by decide +kernel) (by decide +kernel)
set_option maxRecDepth 20000 in
theorem gX6_told_X6_bitOf : GoodIn wsX6_told (va_wsS RX6 82 yX6_bitOf wsX6_bitOf) := goodIn_app (goodIn_of _ (by decide +kernel)) ggX6_told_X6_bitOf
set_option maxRecDepth 20000 in
theorem ggX6_count_J6_bitCount_0f7a4 : GoodIn wsX6_count wsJ6_bitCount_0f7a4 := goodIn_r _ [10, 11, 12, 13] (by decide +kernel) (by decide +kernel)
set_option maxRecDepth 20000 in
theorem gX6_count_J6_bitCount_0f7a4 : GoodIn wsX6_count (va_wsS RX6 95 yJ6_bitCount_0f7a4 wsJ6_bitCount_0f7a4) := goodIn_app (goodIn_of _ (by decide +kernel)) ggX6_count_J6_bitCount_0f7a4
set_option maxRecDepth 20000 in
theorem ggX6_count_X5_rankOfWays : GoodIn wsX6_count wsX5_rankOfWays := goodIn_r _ [18, 19, 20, 21, 22, 17, 23, 24, 25, 26, 27, 28, 29, 30, 31, 32, 33, 34, 35, 36, 37, 38, 39, 40, 41, 42, 43, 44, 45, 46, 47, 48, 49, 50, 51, 52, 53, 54, 55, 56, 57, 58, 59, 60, 61, 62, 63, 199, 200, 201, 202, 203, 204, 191, 192, 193, 194, 195, 196, 197, 198] (by decide +kernel) (by decide +kernel)
set_option maxRecDepth 20000 in
theorem gX6_count_X5_rankOfWays : GoodIn wsX6_count (wsV RX6 101 RX5 yX5_rankOfWays wsX5_rankOfWays) := goodIn_app (goodIn_of _ (by decide +kernel)) ggX6_count_X5_rankOfWays
set_option maxRecDepth 20000 in
theorem ggX6_count_X2_seenLines : GoodIn wsX6_count wsX2_seenLines := goodIn_r _ [67, 68, 69, 70, 36, 37, 38, 39, 40, 41, 42, 43, 191, 192, 193, 194, 195, 196, 197, 198] (by decide +kernel) (by decide +kernel)
set_option maxRecDepth 20000 in
theorem gX6_count_X2_seenLines : GoodIn wsX6_count (wsV RX6 105 RX2 yX2_seenLines wsX2_seenLines) := goodIn_app (goodIn_of _ (by decide +kernel)) ggX6_count_X2_seenLines
set_option maxRecDepth 20000 in
theorem ggX6_count_X6_settledLines : GoodIn wsX6_count wsX6_settledLines := goodIn_r _ [74, 75, 1, 4, 2, 76, 77, 78, 79, 80, 81, 82, 83, 84, 85, 86, 87, 88, 89, 90, 91, 92, 93, 94, 95, 96, 97, 98, 99, 8, 9, 10, 11, 12, 13, 100, 101, 102, 103, 41, 42, 43, 104, 105, 106, 107, 108, 109, 110, 111, 112, 113, 114, 115, 116, 117, 118, 119, 120, 121, 122, 123, 124, 125, 126, 127, 128, 129, 130, 131, 132, 133, 134, 135, 136, 137, 138, 139, 140, 141, 142, 143, 144, 145, 146, 147, 148, 149, 150, 151, 152, 153, 154, 155, 156, 157, 158, 159, 160, 161, 162, 163, 164, 64, 65, 66, 38, 67, 68, 69, 70, 36, 37, 39, 40, 165, 166, 167, 168, 169, 170, 171, 172, 186, 187, 188, 189, 190, 191, 192, 193, 194, 195, 196, 197, 198, 205, 206, 207, 208, 209, 210, 211, 212, 213, 214, 215, 216, 217] (by decide +kernel) (by decide +kernel)
set_option maxRecDepth 20000 in
theorem gX6_count_X6_settledLines : GoodIn wsX6_count (wsV RX6 109 RX6 yX6_settledLines wsX6_settledLines) := goodIn_app (goodIn_of _ (by decide +kernel)) ggX6_count_X6_settledLines
set_option maxRecDepth 20000 in
theorem ggX6_count_X5_linesFromWays : GoodIn wsX6_count wsX5_linesFromWays := goodIn_r _ [176, 31, 20, 21, 22, 17, 23, 19, 24, 25, 26, 27, 28, 29, 30, 32, 33, 34, 35, 36, 37, 38, 39, 40, 41, 42, 43, 44, 45, 46, 47, 48, 49, 50, 51, 52, 53, 54, 55, 56, 57, 58, 59, 60, 61, 62, 63, 199, 200, 201, 202, 203, 204, 191, 192, 193, 194, 195, 196, 197, 198] (by decide +kernel) (by decide +kernel)
set_option maxRecDepth 20000 in
theorem gX6_count_X5_linesFromWays : GoodIn wsX6_count (wsV RX6 112 RX5 yX5_linesFromWays wsX5_linesFromWays) := goodIn_app (goodIn_of _ (by decide +kernel)) ggX6_count_X5_linesFromWays
set_option maxRecDepth 20000 in
theorem ggX6_count_X2_groupCount : GoodIn wsX6_count wsX2_groupCount := goodIn_r _ [180, 181, 182, 183, 184, 38, 185, 68, 69, 70, 36, 37, 39, 40, 41, 42, 43, 191, 192, 193, 194, 195, 196, 197, 198] (by decide +kernel) (by decide +kernel)
set_option maxRecDepth 20000 in
theorem gX6_count_X2_groupCount : GoodIn wsX6_count (wsV RX6 115 RX2 yX2_groupCount wsX2_groupCount) := goodIn_app (goodIn_of _ (by decide +kernel)) ggX6_count_X2_groupCount
set_option maxRecDepth 20000 in
theorem ggX6_fits_X0_solve : GoodIn wsX6_fits wsX0_solve := goodIn_r _ [8, 9, 10, 11, 12, 13, 14, 15, 7, 16, 17, 18, 19, 20, 21, 22, 23, 24, 25, 26, 27, 28, 29, 30, 31, 32, 33, 34, 35, 36, 37, 38, 39, 40, 41, 42, 43, 44, 45, 46, 47, 48, 49, 50, 51, 52, 53, 54, 55, 56, 57, 58, 59, 60, 61, 62, 63, 64, 65, 66, 67, 68, 69, 70, 71, 72, 73, 74, 75, 76, 77, 78, 79, 80, 81, 82, 83, 84, 85, 86, 87, 88, 89, 90, 91, 92, 106, 107, 108, 109, 110, 111, 112, 113, 114, 115, 116, 117, 118, 98, 99, 100, 101, 102, 103, 104, 105] (by decide +kernel) (by decide +kernel)
set_option maxRecDepth 20000 in
theorem gX6_fits_X0_solve : GoodIn wsX6_fits (wsV RX6 121 RX0 yX0_solve wsX0_solve) := goodIn_app (goodIn_of _ (by decide +kernel)) ggX6_fits_X0_solve
set_option maxRecDepth 20000 in
theorem ggX6_bound_X2_isLineSet : GoodIn wsX6_bound wsX2_isLineSet := goodIn_r _ [12, 13, 140, 141, 142, 143, 144, 145, 146, 147] (by decide +kernel) (by decide +kernel)
set_option maxRecDepth 20000 in
theorem gX6_bound_X2_isLineSet : GoodIn wsX6_bound (wsV RX6 125 RX2 yX2_isLineSet wsX2_isLineSet) := goodIn_app (goodIn_of _ (by decide +kernel)) ggX6_bound_X2_isLineSet
set_option maxRecDepth 20000 in
theorem ggX6_bound_X6_isZeroOrOne : GoodIn wsX6_bound wsX6_isZeroOrOne := goodIn_r _ [17] (by decide +kernel) (by decide +kernel)
set_option maxRecDepth 20000 in
theorem gX6_bound_X6_isZeroOrOne : GoodIn wsX6_bound (va_wsS RX6 128 yX6_isZeroOrOne wsX6_isZeroOrOne) := goodIn_app (goodIn_of _ (by decide +kernel)) ggX6_bound_X6_isZeroOrOne
set_option maxRecDepth 20000 in
theorem ggX6_bound_X0_solve : GoodIn wsX6_bound wsX0_solve := goodIn_r _ [22, 23, 24, 25, 26, 27, 28, 29, 21, 30, 31, 32, 33, 34, 35, 36, 37, 38, 39, 40, 41, 42, 43, 44, 45, 46, 47, 48, 49, 50, 51, 52, 16, 53, 54, 55, 56, 57, 58, 59, 60, 61, 62, 63, 64, 65, 66, 67, 68, 69, 70, 71, 72, 73, 74, 75, 76, 77, 78, 79, 80, 81, 82, 83, 84, 85, 86, 87, 88, 89, 90, 91, 92, 93, 94, 95, 96, 97, 98, 99, 100, 101, 102, 103, 104, 105, 148, 149, 150, 151, 152, 153, 154, 155, 156, 157, 158, 159, 160, 140, 141, 142, 143, 144, 145, 146, 147] (by decide +kernel) (by decide +kernel)
set_option maxRecDepth 20000 in
theorem gX6_bound_X0_solve : GoodIn wsX6_bound (wsV RX6 121 RX0 yX0_solve wsX0_solve) := goodIn_app (goodIn_of _ (by decide +kernel)) ggX6_bound_X0_solve
set_option maxRecDepth 20000 in
theorem ggX6_bound_X6_isEndless : GoodIn wsX6_bound wsX6_isEndless := goodIn_r _ [109, 1, 110, 111, 112, 11, 113, 114, 115, 116, 117, 118, 119, 120, 52, 16, 53, 135, 136, 137, 138, 139, 140, 141, 142, 143, 144, 145, 146, 147] (by decide +kernel) (by decide +kernel)
set_option maxRecDepth 20000 in
theorem gX6_bound_X6_isEndless : GoodIn wsX6_bound (wsV RX6 135 RX6 yX6_isEndless wsX6_isEndless) := goodIn_app (goodIn_of _ (by decide +kernel)) ggX6_bound_X6_isEndless
set_option maxRecDepth 20000 in
theorem ggX6_bound_X0_goToEnd : GoodIn wsX6_bound wsX0_goToEnd := goodIn_r _ [124, 35, 59, 60, 61, 21, 62, 32, 63, 64, 52, 16, 53, 65, 66, 67, 68, 69, 70, 71, 72, 73, 34, 74, 75, 76, 77, 33, 58, 36, 25, 78, 79, 80, 81, 82, 83, 84, 85, 86, 87, 88, 89, 90, 91, 92, 93, 94, 95, 96, 97, 148, 149, 150, 151, 152, 153, 154, 155, 156, 157, 158, 159, 160] (by decide +kernel) (by decide +kernel)
set_option maxRecDepth 20000 in
theorem gX6_bound_X0_goToEnd : GoodIn wsX6_bound (wsV RX6 141 RX0 yX0_goToEnd wsX0_goToEnd) := goodIn_app (goodIn_of _ (by decide +kernel)) ggX6_bound_X0_goToEnd
set_option maxRecDepth 20000 in
theorem ggX6_bound_X0_upperOf : GoodIn wsX6_bound wsX0_upperOf := goodIn_r _ [128, 33, 58, 36, 25, 52, 16, 53, 148, 149, 150, 151, 152, 153, 154, 155, 156, 157, 158, 159, 160] (by decide +kernel) (by decide +kernel)
set_option maxRecDepth 20000 in
theorem gX6_bound_X0_upperOf : GoodIn wsX6_bound (wsV RX6 145 RX0 yX0_upperOf wsX0_upperOf) := goodIn_app (goodIn_of _ (by decide +kernel)) ggX6_bound_X0_upperOf
set_option maxRecDepth 20000 in
theorem ggX6_bound_X6_partOfFraction : GoodIn wsX6_bound wsX6_partOfFraction := goodIn_r _ [131, 132, 133, 16, 134] (by decide +kernel) (by decide +kernel)
set_option maxRecDepth 20000 in
theorem gX6_bound_X6_partOfFraction : GoodIn wsX6_bound (va_wsS RX6 153 yX6_partOfFraction wsX6_partOfFraction) := goodIn_app (goodIn_of _ (by decide +kernel)) ggX6_bound_X6_partOfFraction
set_option maxRecDepth 20000 in
theorem ggX6_shown_X2_hasLine : GoodIn wsX6_shown wsX2_hasLine := goodIn_r _ [13, 14, 153, 154, 155, 156, 157, 158, 159, 160] (by decide +kernel) (by decide +kernel)
set_option maxRecDepth 20000 in
theorem gX6_shown_X2_hasLine : GoodIn wsX6_shown (wsV RX6 157 RX2 yX2_hasLine wsX2_hasLine) := goodIn_app (goodIn_of _ (by decide +kernel)) ggX6_shown_X2_hasLine
