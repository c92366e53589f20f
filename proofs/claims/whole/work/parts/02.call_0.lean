set_option maxRecDepth 20000 in
theorem ggX0_solve_X0_load : GoodIn wsX0_solve wsX0_load := goodIn_r _ [9, 10, 11, 12, 3, 13, 14, 15, 16, 17, 18, 19, 20, 21, 22, 23, 24, 25, 26, 27, 28, 29, 30, 31, 32, 33, 34, 35, 36, 8, 37, 38, 99, 100, 101, 102, 103, 104, 105, 106, 86, 87, 88, 89, 90, 91, 92, 93, 94, 95, 96, 97, 98] (by decide +kernel) (by decide +kernel)
set_option maxRecDepth 20000 in
theorem gX0_solve_X0_load : GoodIn wsX0_solve (wsV RX0 37 RX0 yX0_load wsX0_load) := goodIn_app (goodIn_of _ (by decide +kernel)) ggX0_solve_X0_load
set_option maxRecDepth 20000 in
theorem ggX0_solve_X0_setGoal : GoodIn wsX0_solve wsX0_setGoal := goodIn_r _ [42, 11, 43, 44, 31, 32, 33, 86, 87, 88, 89, 90, 91, 92, 93, 94, 95, 96, 97, 98] (by decide +kernel) (by decide +kernel)
set_option maxRecDepth 20000 in
theorem gX0_solve_X0_setGoal : GoodIn wsX0_solve (wsV RX0 41 RX0 yX0_setGoal wsX0_setGoal) := goodIn_app (goodIn_of _ (by decide +kernel)) ggX0_solve_X0_setGoal
set_option maxRecDepth 20000 in
theorem ggX0_solve_X0_walkToLeast : GoodIn wsX0_solve wsX0_walkToLeast := goodIn_r _ [48, 49, 50, 51, 52, 8, 53, 11, 14, 13, 43, 31, 32, 33, 54, 55, 56, 57, 12, 38, 44, 15, 3, 58, 59, 60, 61, 62, 63, 64, 65, 66, 67, 68, 69, 70, 71, 72, 73, 74, 75, 76, 77, 86, 87, 88, 89, 90, 91, 92, 93, 94, 95, 96, 97, 98] (by decide +kernel) (by decide +kernel)
set_option maxRecDepth 20000 in
theorem gX0_solve_X0_walkToLeast : GoodIn wsX0_solve (wsV RX0 45 RX0 yX0_walkToLeast wsX0_walkToLeast) := goodIn_app (goodIn_of _ (by decide +kernel)) ggX0_solve_X0_walkToLeast
set_option maxRecDepth 20000 in
theorem ggX0_solve_X0_costOfColumn : GoodIn wsX0_solve wsX0_costOfColumn := goodIn_r _ [57, 12, 38, 44, 43, 15, 3, 86, 87, 88, 89, 90, 91, 92, 93, 94, 95, 96, 97, 98] (by decide +kernel) (by decide +kernel)
set_option maxRecDepth 20000 in
theorem gX0_solve_X0_costOfColumn : GoodIn wsX0_solve (wsV RX0 51 RX0 yX0_costOfColumn wsX0_costOfColumn) := goodIn_app (goodIn_of _ (by decide +kernel)) ggX0_solve_X0_costOfColumn
set_option maxRecDepth 20000 in
theorem ggX0_solve_X0_dropSlacks : GoodIn wsX0_solve wsX0_dropSlacks := goodIn_r _ [81, 12, 11, 38, 15, 3, 66, 67, 68, 8, 69, 13, 70, 71, 72, 73, 74, 75, 76, 77, 86, 87, 88, 89, 90, 91, 92, 93, 94, 95, 96, 97, 98] (by decide +kernel) (by decide +kernel)
set_option maxRecDepth 20000 in
theorem gX0_solve_X0_dropSlacks : GoodIn wsX0_solve (wsV RX0 55 RX0 yX0_dropSlacks wsX0_dropSlacks) := goodIn_app (goodIn_of _ (by decide +kernel)) ggX0_solve_X0_dropSlacks
set_option maxRecDepth 20000 in
theorem ggX0_solve_X0_waysThatClash : GoodIn wsX0_solve wsX0_waysThatClash := goodIn_r _ [85, 12, 11, 19, 54, 55, 56, 8, 57, 38, 44, 43, 15, 3, 86, 87, 88, 89, 90, 91, 92, 93, 94, 95, 96, 97, 98] (by decide +kernel) (by decide +kernel)
set_option maxRecDepth 20000 in
theorem gX0_solve_X0_waysThatClash : GoodIn wsX0_solve (wsV RX0 58 RX0 yX0_waysThatClash wsX0_waysThatClash) := goodIn_app (goodIn_of _ (by decide +kernel)) ggX0_solve_X0_waysThatClash
set_option maxRecDepth 20000 in
theorem ggX0_goToEnd_X0_setGoal : GoodIn wsX0_goToEnd wsX0_setGoal := goodIn_r _ [6, 7, 8, 9, 10, 11, 12, 51, 52, 53, 54, 55, 56, 57, 58, 59, 60, 61, 62, 63] (by decide +kernel) (by decide +kernel)
set_option maxRecDepth 20000 in
theorem gX0_goToEnd_X0_setGoal : GoodIn wsX0_goToEnd (wsV RX0 41 RX0 yX0_setGoal wsX0_setGoal) := goodIn_app (goodIn_of _ (by decide +kernel)) ggX0_goToEnd_X0_setGoal
set_option maxRecDepth 20000 in
theorem ggX0_goToEnd_X0_walkToLeast : GoodIn wsX0_goToEnd wsX0_walkToLeast := goodIn_r _ [16, 17, 18, 19, 20, 5, 21, 7, 1, 22, 8, 10, 11, 12, 23, 24, 25, 26, 27, 28, 9, 29, 30, 31, 32, 33, 34, 35, 36, 37, 38, 39, 40, 41, 42, 43, 44, 45, 46, 47, 48, 49, 50, 51, 52, 53, 54, 55, 56, 57, 58, 59, 60, 61, 62, 63] (by decide +kernel) (by decide +kernel)
set_option maxRecDepth 20000 in
theorem gX0_goToEnd_X0_walkToLeast : GoodIn wsX0_goToEnd (wsV RX0 45 RX0 yX0_walkToLeast wsX0_walkToLeast) := goodIn_app (goodIn_of _ (by decide +kernel)) ggX0_goToEnd_X0_walkToLeast
set_option maxRecDepth 20000 in
theorem ggX0_leastInTurnUpTo_X0_barWhatCosts : GoodIn wsX0_leastInTurnUpTo wsX0_barWhatCosts := goodIn_r _ [6, 1, 7, 8, 9, 10, 11, 12, 5, 13, 14, 15, 16, 17, 18, 55, 56, 57, 58, 59, 60, 61, 62, 63, 64, 65, 66, 67] (by decide +kernel) (by decide +kernel)
set_option maxRecDepth 20000 in
theorem gX0_leastInTurnUpTo_X0_barWhatCosts : GoodIn wsX0_leastInTurnUpTo (wsV RX0 71 RX0 yX0_barWhatCosts wsX0_barWhatCosts) := goodIn_app (goodIn_of _ (by decide +kernel)) ggX0_leastInTurnUpTo_X0_barWhatCosts
set_option maxRecDepth 20000 in
theorem ggX0_leastInTurnUpTo_X0_setGoal : GoodIn wsX0_leastInTurnUpTo wsX0_setGoal := goodIn_r _ [22, 1, 8, 16, 23, 24, 25, 55, 56, 57, 58, 59, 60, 61, 62, 63, 64, 65, 66, 67] (by decide +kernel) (by decide +kernel)
set_option maxRecDepth 20000 in
theorem gX0_leastInTurnUpTo_X0_setGoal : GoodIn wsX0_leastInTurnUpTo (wsV RX0 41 RX0 yX0_setGoal wsX0_setGoal) := goodIn_app (goodIn_of _ (by decide +kernel)) ggX0_leastInTurnUpTo_X0_setGoal
set_option maxRecDepth 20000 in
theorem ggX0_leastInTurnUpTo_X0_walkToLeast : GoodIn wsX0_leastInTurnUpTo wsX0_walkToLeast := goodIn_r _ [29, 30, 31, 32, 33, 5, 34, 1, 9, 7, 8, 23, 24, 25, 10, 11, 12, 13, 14, 15, 16, 17, 18, 35, 36, 37, 38, 39, 40, 41, 42, 43, 44, 45, 46, 47, 48, 49, 50, 51, 52, 53, 54, 55, 56, 57, 58, 59, 60, 61, 62, 63, 64, 65, 66, 67] (by decide +kernel) (by decide +kernel)
set_option maxRecDepth 20000 in
theorem gX0_leastInTurnUpTo_X0_walkToLeast : GoodIn wsX0_leastInTurnUpTo (wsV RX0 45 RX0 yX0_walkToLeast wsX0_walkToLeast) := goodIn_app (goodIn_of _ (by decide +kernel)) ggX0_leastInTurnUpTo_X0_walkToLeast
set_option maxRecDepth 20000 in
theorem ggX0_upperOf_X6_bitOf : GoodIn wsX0_upperOf wsX6_bitOf := goodIn_r _ [7] (by decide +kernel) (by decide +kernel)
set_option maxRecDepth 20000 in
theorem gX0_upperOf_X6_bitOf_n77 : GoodIn wsX0_upperOf (wsX6_bitOf) := ggX0_upperOf_X6_bitOf
set_option maxRecDepth 20000 in
theorem ggX0_load_J6_bitCount_0f7a4 : GoodIn wsX0_load wsJ6_bitCount_0f7a4 := goodIn_r _ [15, 16, 17, 18] (by decide +kernel) (by decide +kernel)
set_option maxRecDepth 20000 in
theorem gX0_load_J6_bitCount_0f7a4 : GoodIn wsX0_load (va_wsS RX0 84 yJ6_bitCount_0f7a4 wsJ6_bitCount_0f7a4) := goodIn_app (goodIn_of _ (by decide +kernel)) ggX0_load_J6_bitCount_0f7a4
set_option maxRecDepth 20000 in
theorem ggX0_load_J7_fill_d0a16 : GoodIn wsX0_load wsJ7_fill_d0a16 := goodIn_r _ [22] (by decide +kernel) (by decide +kernel)
set_option maxRecDepth 20000 in
theorem gX0_load_J7_fill_d0a16 : GoodIn wsX0_load (va_wsS RX0 90 yJ7_fill_d0a16 wsJ7_fill_d0a16) := goodIn_app (goodIn_of _ (by decide +kernel)) ggX0_load_J7_fill_d0a16
set_option maxRecDepth 20000 in
theorem ggX0_load_X6_bitOf : GoodIn wsX0_load wsX6_bitOf := goodIn_r _ [25] (by decide +kernel) (by decide +kernel)
set_option maxRecDepth 20000 in
theorem gX0_load_X6_bitOf_n77 : GoodIn wsX0_load (wsX6_bitOf) := ggX0_load_X6_bitOf
set_option maxRecDepth 20000 in
theorem ggX0_load_X0_loadRow : GoodIn wsX0_load wsX0_loadRow := goodIn_r _ [30, 4, 2, 7, 31, 23, 24, 25, 40, 41, 42, 43, 44, 45, 46, 47, 48, 49, 50, 51, 52] (by decide +kernel) (by decide +kernel)
set_option maxRecDepth 20000 in
theorem gX0_load_X0_loadRow : GoodIn wsX0_load (wsV RX0 105 RX0 yX0_loadRow wsX0_loadRow) := goodIn_app (goodIn_of _ (by decide +kernel)) ggX0_load_X0_loadRow
set_option maxRecDepth 20000 in
theorem ggX0_loadRow_X6_bitOf : GoodIn wsX0_loadRow wsX6_bitOf := goodIn_r _ [7] (by decide +kernel) (by decide +kernel)
set_option maxRecDepth 20000 in
theorem gX0_loadRow_X6_bitOf_n77 : GoodIn wsX0_loadRow (wsX6_bitOf) := ggX0_loadRow_X6_bitOf
set_option maxRecDepth 20000 in
theorem ggX0_setGoal_X6_bitOf : GoodIn wsX0_setGoal wsX6_bitOf := goodIn_r _ [6] (by decide +kernel) (by decide +kernel)
set_option maxRecDepth 20000 in
theorem gX0_setGoal_X6_bitOf_n77 : GoodIn wsX0_setGoal (wsX6_bitOf) := ggX0_setGoal_X6_bitOf
set_option maxRecDepth 20000 in
theorem ggX0_walkToLeast_X0_firstLineThatHelps : GoodIn wsX0_walkToLeast wsX0_firstLineThatHelps := goodIn_r _ [6, 7, 8, 9, 10, 11, 12, 13, 14, 15, 16, 5, 17, 18, 19, 20, 21, 22, 43, 44, 45, 46, 47, 48, 49, 50, 51, 52, 53, 54, 55] (by decide +kernel) (by decide +kernel)
set_option maxRecDepth 20000 in
theorem gX0_walkToLeast_X0_firstLineThatHelps : GoodIn wsX0_walkToLeast (wsV RX0 112 RX0 yX0_firstLineThatHelps wsX0_firstLineThatHelps) := goodIn_app (goodIn_of _ (by decide +kernel)) ggX0_walkToLeast_X0_firstLineThatHelps
set_option maxRecDepth 20000 in
theorem ggX0_walkToLeast_X0_rowThatGivesWay : GoodIn wsX0_walkToLeast wsX0_rowThatGivesWay := goodIn_r _ [26, 18, 21, 22, 27, 28, 29, 5, 30, 19, 43, 44, 45, 46, 47, 48, 49, 50, 51, 52, 53, 54, 55] (by decide +kernel) (by decide +kernel)
set_option maxRecDepth 20000 in
theorem gX0_walkToLeast_X0_rowThatGivesWay : GoodIn wsX0_walkToLeast (wsV RX0 115 RX0 yX0_rowThatGivesWay wsX0_rowThatGivesWay) := goodIn_app (goodIn_of _ (by decide +kernel)) ggX0_walkToLeast_X0_rowThatGivesWay
set_option maxRecDepth 20000 in
theorem ggX0_walkToLeast_X0_exchange : GoodIn wsX0_walkToLeast wsX0_exchange := goodIn_r _ [34, 22, 21, 9, 18, 19, 35, 36, 37, 5, 38, 39, 40, 41, 42, 43, 44, 45, 46, 47, 48, 49, 50, 51, 52, 53, 54, 55] (by decide +kernel) (by decide +kernel)
set_option maxRecDepth 20000 in
theorem gX0_walkToLeast_X0_exchange : GoodIn wsX0_walkToLeast (wsV RX0 118 RX0 yX0_exchange wsX0_exchange) := goodIn_app (goodIn_of _ (by decide +kernel)) ggX0_walkToLeast_X0_exchange
set_option maxRecDepth 20000 in
theorem ggX0_firstLineThatHelps_X6_bitOf : GoodIn wsX0_firstLineThatHelps wsX6_bitOf := goodIn_r _ [7] (by decide +kernel) (by decide +kernel)
set_option maxRecDepth 20000 in
theorem gX0_firstLineThatHelps_X6_bitOf_n77 : GoodIn wsX0_firstLineThatHelps (wsX6_bitOf) := ggX0_firstLineThatHelps_X6_bitOf
set_option maxRecDepth 20000 in
theorem ggX0_firstLineThatHelps_X0_costOfColumn : GoodIn wsX0_firstLineThatHelps wsX0_costOfColumn := goodIn_r _ [12, 13, 14, 15, 4, 16, 17, 18, 19, 20, 21, 22, 23, 24, 25, 26, 27, 28, 29, 30] (by decide +kernel) (by decide +kernel)
set_option maxRecDepth 20000 in
theorem gX0_firstLineThatHelps_X0_costOfColumn : GoodIn wsX0_firstLineThatHelps (wsV RX0 51 RX0 yX0_costOfColumn wsX0_costOfColumn) := goodIn_app (goodIn_of _ (by decide +kernel)) ggX0_firstLineThatHelps_X0_costOfColumn
set_option maxRecDepth 20000 in
theorem ggX0_rowThatGivesWay_X0_givesWayBefore : GoodIn wsX0_rowThatGivesWay wsX0_givesWayBefore := goodIn_r _ [8, 3, 2, 9, 10, 11, 12, 13, 14, 15, 16, 17, 18, 19, 20, 21, 22] (by decide +kernel) (by decide +kernel)
set_option maxRecDepth 20000 in
theorem gX0_rowThatGivesWay_X0_givesWayBefore : GoodIn wsX0_rowThatGivesWay (wsV RX0 122 RX0 yX0_givesWayBefore wsX0_givesWayBefore) := goodIn_app (goodIn_of _ (by decide +kernel)) ggX0_rowThatGivesWay_X0_givesWayBefore
set_option maxRecDepth 20000 in
theorem ggX0_exchange_X0_turnSigns : GoodIn wsX0_exchange wsX0_turnSigns := goodIn_r _ [10, 1, 2, 15, 16, 17, 18, 19, 20, 21, 22, 23, 24, 25, 26, 27] (by decide +kernel) (by decide +kernel)
set_option maxRecDepth 20000 in
theorem gX0_exchange_X0_turnSigns : GoodIn wsX0_exchange (wsV RX0 126 RX0 yX0_turnSigns wsX0_turnSigns) := goodIn_app (goodIn_of _ (by decide +kernel)) ggX0_exchange_X0_turnSigns
set_option maxRecDepth 20000 in
theorem ggX0_exchange_X0_clearColumn : GoodIn wsX0_exchange wsX0_clearColumn := goodIn_r _ [14, 2, 3, 1, 15, 16, 17, 18, 19, 20, 21, 22, 23, 24, 25, 26, 27] (by decide +kernel) (by decide +kernel)
set_option maxRecDepth 20000 in
theorem gX0_exchange_X0_clearColumn : GoodIn wsX0_exchange (wsV RX0 130 RX0 yX0_clearColumn wsX0_clearColumn) := goodIn_app (goodIn_of _ (by decide +kernel)) ggX0_exchange_X0_clearColumn
set_option maxRecDepth 20000 in
theorem ggX0_dropSlacks_X0_exchange : GoodIn wsX0_dropSlacks wsX0_exchange := goodIn_r _ [10, 5, 4, 11, 1, 3, 12, 13, 14, 9, 15, 16, 17, 18, 19, 20, 21, 22, 23, 24, 25, 26, 27, 28, 29, 30, 31, 32] (by decide +kernel) (by decide +kernel)
set_option maxRecDepth 20000 in
theorem gX0_dropSlacks_X0_exchange : GoodIn wsX0_dropSlacks (wsV RX0 118 RX0 yX0_exchange wsX0_exchange) := goodIn_app (goodIn_of _ (by decide +kernel)) ggX0_dropSlacks_X0_exchange
set_option maxRecDepth 20000 in
theorem ggX0_waysThatClash_X0_costOfColumn : GoodIn wsX0_waysThatClash wsX0_costOfColumn := goodIn_r _ [8, 1, 9, 10, 11, 12, 13, 14, 15, 16, 17, 18, 19, 20, 21, 22, 23, 24, 25, 26] (by decide +kernel) (by decide +kernel)
set_option maxRecDepth 20000 in
theorem gX0_waysThatClash_X0_costOfColumn : GoodIn wsX0_waysThatClash (wsV RX0 51 RX0 yX0_costOfColumn wsX0_costOfColumn) := goodIn_app (goodIn_of _ (by decide +kernel)) ggX0_waysThatClash_X0_costOfColumn
set_option maxRecDepth 20000 in
theorem ggX0_barWhatCosts_X0_costOfColumn : GoodIn wsX0_barWhatCosts wsX0_costOfColumn := goodIn_r _ [9, 10, 11, 12, 3, 13, 14, 15, 16, 17, 18, 19, 20, 21, 22, 23, 24, 25, 26, 27] (by decide +kernel) (by decide +kernel)
set_option maxRecDepth 20000 in
theorem gX0_barWhatCosts_X0_costOfColumn : GoodIn wsX0_barWhatCosts (wsV RX0 51 RX0 yX0_costOfColumn wsX0_costOfColumn) := goodIn_app (goodIn_of _ (by decide +kernel)) ggX0_barWhatCosts_X0_costOfColumn
set_option maxRecDepth 20000 in
theorem ggX1_init_X3_init : GoodIn wsX1_init wsX3_init := goodIn_r _ [10, 11, 2, 3, 12, 13, 14, 15] (by decide +kernel) (by decide +kernel)
set_option maxRecDepth 20000 in
theorem gX1_init_X3_init_n9 : GoodIn wsX1_init (wsX3_init) := ggX1_init_X3_init
set_option maxRecDepth 20000 in
theorem ggX1_leastSets_X3_empty : GoodIn wsX1_leastSets wsX3_empty := goodIn_r _ [10, 11, 135, 136] (by decide +kernel) (by decide +kernel)
set_option maxRecDepth 20000 in
theorem gX1_leastSets_X3_empty : GoodIn wsX1_leastSets (wsV RX1 23 RX3 yX3_empty wsX3_empty) := goodIn_app (goodIn_of _ (by decide +kernel)) ggX1_leastSets_X3_empty
set_option maxRecDepth 20000 in
theorem ggX1_leastSets_J6_bitCount_0f7a4 : GoodIn wsX1_leastSets wsJ6_bitCount_0f7a4 := goodIn_r _ [15, 16, 17, 18] (by decide +kernel) (by decide +kernel)
set_option maxRecDepth 20000 in
theorem gX1_leastSets_J6_bitCount_0f7a4 : GoodIn wsX1_leastSets (va_wsS RX1 32 yJ6_bitCount_0f7a4 wsJ6_bitCount_0f7a4) := goodIn_app (goodIn_of _ (by decide +kernel)) ggX1_leastSets_J6_bitCount_0f7a4
set_option maxRecDepth 20000 in
theorem ggX1_leastSets_X1_findOfSize : GoodIn wsX1_leastSets wsX1_findOfSize := goodIn_r _ [23, 4, 2, 3, 24, 12, 13, 14, 15, 16, 17, 18, 25, 26, 27, 22, 28, 5, 29, 30, 31, 32, 33, 34, 35, 36, 37, 38, 39, 40, 41, 42, 43, 44, 45, 46, 47, 48, 49, 50, 51, 52, 53, 54, 55, 56, 57, 58, 59, 60, 61, 62, 63, 64, 65, 66, 67, 68, 69, 70, 71, 72, 73, 74, 75, 76, 77, 78, 79, 80, 81, 82, 83, 84, 85, 86, 87, 88, 89, 90, 91, 92, 93, 94, 95, 96, 97, 98, 99, 100, 101, 102, 103, 104, 105, 106, 107, 108, 109, 110, 111, 112, 113, 114, 115, 9, 116, 11, 117, 118, 119, 120, 121, 122, 123, 127, 128, 129, 130, 131, 132, 133, 134, 124, 125, 126, 137, 138, 139, 140, 141, 142, 143, 144, 145, 146, 147, 148, 149, 135, 136] (by decide +kernel) (by decide +kernel)
set_option maxRecDepth 20000 in
theorem gX1_leastSets_X1_findOfSize : GoodIn wsX1_leastSets (wsV RX1 41 RX1 yX1_findOfSize wsX1_findOfSize) := goodIn_app (goodIn_of _ (by decide +kernel)) ggX1_leastSets_X1_findOfSize
set_option maxRecDepth 20000 in
theorem ggX1_findOfSize_J6_bitCount_0f7a4 : GoodIn wsX1_findOfSize wsJ6_bitCount_0f7a4 := goodIn_r _ [8, 9, 10, 11] (by decide +kernel) (by decide +kernel)
set_option maxRecDepth 20000 in
theorem gX1_findOfSize_J6_bitCount_0f7a4 : GoodIn wsX1_findOfSize (va_wsS RX1 32 yJ6_bitCount_0f7a4 wsJ6_bitCount_0f7a4) := goodIn_app (goodIn_of _ (by decide +kernel)) ggX1_findOfSize_J6_bitCount_0f7a4
set_option maxRecDepth 20000 in
theorem ggX1_findOfSize_X1_breaksAllClashes : GoodIn wsX1_findOfSize wsX1_breaksAllClashes := goodIn_r _ [16, 3, 17, 18, 123, 124, 125, 139, 140] (by decide +kernel) (by decide +kernel)
set_option maxRecDepth 20000 in
theorem gX1_findOfSize_X1_breaksAllClashes : GoodIn wsX1_findOfSize (wsV RX1 45 RX1 yX1_breaksAllClashes wsX1_breaksAllClashes) := goodIn_app (goodIn_of _ (by decide +kernel)) ggX1_findOfSize_X1_breaksAllClashes
set_option maxRecDepth 20000 in
theorem ggX1_findOfSize_X0_solve : GoodIn wsX1_findOfSize wsX0_solve := goodIn_r _ [23, 24, 25, 26, 27, 28, 29, 30, 22, 31, 32, 33, 34, 35, 36, 37, 38, 39, 40, 41, 42, 6, 7, 8, 9, 10, 11, 43, 44, 45, 46, 47, 48, 49, 50, 51, 52, 53, 54, 55, 56, 57, 58, 59, 60, 61, 62, 63, 64, 65, 66, 67, 68, 69, 70, 71, 72, 73, 74, 75, 76, 77, 78, 79, 80, 81, 82, 83, 84, 85, 86, 87, 88, 89, 90, 91, 92, 93, 94, 95, 96, 97, 98, 99, 100, 101, 126, 127, 128, 129, 130, 131, 132, 133, 134, 135, 136, 137, 138, 115, 116, 117, 118, 119, 120, 121, 122] (by decide +kernel) (by decide +kernel)
set_option maxRecDepth 20000 in
theorem gX1_findOfSize_X0_solve : GoodIn wsX1_findOfSize (wsV RX1 49 RX0 yX0_solve wsX0_solve) := goodIn_app (goodIn_of _ (by decide +kernel)) ggX1_findOfSize_X0_solve
set_option maxRecDepth 20000 in
theorem ggX1_findOfSize_X3_add : GoodIn wsX1_findOfSize wsX3_add := goodIn_r _ [106, 107, 108, 139, 140] (by decide +kernel) (by decide +kernel)
set_option maxRecDepth 20000 in
theorem gX1_findOfSize_X3_add : GoodIn wsX1_findOfSize (wsV RX1 55 RX3 yX3_add wsX3_add) := goodIn_app (goodIn_of _ (by decide +kernel)) ggX1_findOfSize_X3_add
set_option maxRecDepth 20000 in
theorem ggX1_findOfSize_X1_leastClash : GoodIn wsX1_findOfSize wsX1_leastClash := goodIn_r _ [111, 112, 4, 113, 48, 114, 19, 20, 21, 22, 23, 24, 25, 26, 27, 28, 29, 30, 31, 32, 33, 34, 35, 36, 37, 38, 39, 40, 41, 42, 6, 7, 8, 9, 10, 11, 43, 44, 45, 46, 47, 49, 50, 51, 52, 53, 54, 55, 56, 57, 58, 59, 60, 61, 62, 63, 64, 65, 66, 67, 68, 69, 70, 71, 72, 73, 74, 75, 76, 77, 78, 79, 80, 81, 82, 83, 84, 85, 86, 87, 88, 89, 90, 91, 92, 93, 94, 95, 96, 97, 98, 99, 100, 101, 115, 116, 117, 118, 119, 120, 121, 122, 126, 127, 128, 129, 130, 131, 132, 133, 134, 135, 136, 137, 138] (by decide +kernel) (by decide +kernel)
set_option maxRecDepth 20000 in
theorem gX1_findOfSize_X1_leastClash : GoodIn wsX1_findOfSize (va_wsS RX1 62 yX1_leastClash wsX1_leastClash) := goodIn_app (goodIn_of _ (by decide +kernel)) ggX1_findOfSize_X1_leastClash
set_option maxRecDepth 20000 in
theorem ggX1_leastClash_X6_withBit : GoodIn wsX1_leastClash wsX6_withBit := goodIn_r _ [5] (by decide +kernel) (by decide +kernel)
set_option maxRecDepth 20000 in
theorem gX1_leastClash_X6_withBit_n73 : GoodIn wsX1_leastClash (wsX6_withBit) := ggX1_leastClash_X6_withBit
set_option maxRecDepth 20000 in
theorem ggX1_leastClash_X0_solve : GoodIn wsX1_leastClash wsX0_solve := goodIn_r _ [10, 11, 12, 13, 14, 15, 16, 17, 9, 18, 19, 20, 21, 22, 23, 24, 25, 26, 27, 28, 29, 30, 31, 32, 33, 34, 35, 36, 37, 38, 39, 40, 4, 41, 42, 43, 44, 45, 46, 47, 48, 49, 50, 51, 52, 53, 54, 55, 56, 57, 58, 59, 60, 61, 62, 63, 64, 65, 66, 67, 68, 69, 70, 71, 72, 73, 74, 75, 76, 77, 78, 79, 80, 81, 82, 83, 84, 85, 86, 87, 88, 89, 90, 91, 92, 93, 102, 103, 104, 105, 106, 107, 108, 109, 110, 111, 112, 113, 114, 94, 95, 96, 97, 98, 99, 100, 101] (by decide +kernel) (by decide +kernel)
set_option maxRecDepth 20000 in
theorem gX1_leastClash_X0_solve : GoodIn wsX1_leastClash (wsV RX1 49 RX0 yX0_solve wsX0_solve) := goodIn_app (goodIn_of _ (by decide +kernel)) ggX1_leastClash_X0_solve
set_option maxRecDepth 20000 in
theorem ggX2_isFilledLineSet_X2_isLineSet : GoodIn wsX2_isFilledLineSet wsX2_isLineSet := goodIn_r _ [5, 6, 7, 8, 9, 10, 11, 12, 13, 14] (by decide +kernel) (by decide +kernel)
set_option maxRecDepth 20000 in
theorem gX2_isFilledLineSet_X2_isLineSet : GoodIn wsX2_isFilledLineSet (wsV RX2 37 RX2 yX2_isLineSet wsX2_isLineSet) := goodIn_app (goodIn_of _ (by decide +kernel)) ggX2_isFilledLineSet_X2_isLineSet
set_option maxRecDepth 20000 in
theorem ggX2_addWay_X6_withBit : GoodIn wsX2_addWay wsX6_withBit := goodIn_r _ [8] (by decide +kernel) (by decide +kernel)
set_option maxRecDepth 20000 in
theorem gX2_addWay_X6_withBit_n41 : GoodIn wsX2_addWay (wsX6_withBit) := ggX2_addWay_X6_withBit
set_option maxRecDepth 20000 in
theorem ggX2_dropLastWay_X6_withBit : GoodIn wsX2_dropLastWay wsX6_withBit := goodIn_r _ [6] (by decide +kernel) (by decide +kernel)
set_option maxRecDepth 20000 in
theorem gX2_dropLastWay_X6_withBit_n41 : GoodIn wsX2_dropLastWay (wsX6_withBit) := ggX2_dropLastWay_X6_withBit
set_option maxRecDepth 20000 in
theorem ggX2_isOn_X6_bitOf : GoodIn wsX2_isOn wsX6_bitOf := goodIn_r _ [4] (by decide +kernel) (by decide +kernel)
set_option maxRecDepth 20000 in
theorem gX2_isOn_X6_bitOf_n45 : GoodIn wsX2_isOn (wsX6_bitOf) := ggX2_isOn_X6_bitOf
set_option maxRecDepth 20000 in
theorem ggX2_seenLines_X2_isOn : GoodIn wsX2_seenLines wsX2_isOn := goodIn_r _ [7, 8, 9, 10, 11, 12, 13, 14, 15, 16, 17, 18, 19] (by decide +kernel) (by decide +kernel)
set_option maxRecDepth 20000 in
theorem gX2_seenLines_X2_isOn : GoodIn wsX2_seenLines (wsV RX2 49 RX2 yX2_isOn wsX2_isOn) := goodIn_app (goodIn_of _ (by decide +kernel)) ggX2_seenLines_X2_isOn
set_option maxRecDepth 20000 in
theorem ggX2_linesAlike_X2_isOn : GoodIn wsX2_linesAlike wsX2_isOn := goodIn_r _ [8, 9, 10, 11, 12, 13, 14, 15, 16, 17, 18, 19, 20] (by decide +kernel) (by decide +kernel)
set_option maxRecDepth 20000 in
theorem gX2_linesAlike_X2_isOn : GoodIn wsX2_linesAlike (wsV RX2 49 RX2 yX2_isOn wsX2_isOn) := goodIn_app (goodIn_of _ (by decide +kernel)) ggX2_linesAlike_X2_isOn
set_option maxRecDepth 20000 in
theorem ggX2_linesAlike_X6_bitOf : GoodIn wsX2_linesAlike wsX6_bitOf := goodIn_r _ [12] (by decide +kernel) (by decide +kernel)
set_option maxRecDepth 20000 in
theorem gX2_linesAlike_X6_bitOf_n45 : GoodIn wsX2_linesAlike (wsX6_bitOf) := ggX2_linesAlike_X6_bitOf
set_option maxRecDepth 20000 in
theorem ggX2_groupCount_X2_linesAlike : GoodIn wsX2_groupCount wsX2_linesAlike := goodIn_r _ [6, 1, 7, 8, 9, 10, 11, 5, 12, 13, 14, 15, 16, 17, 18, 19, 20, 21, 22, 23, 24] (by decide +kernel) (by decide +kernel)
set_option maxRecDepth 20000 in
theorem gX2_groupCount_X2_linesAlike : GoodIn wsX2_groupCount (wsV RX2 52 RX2 yX2_linesAlike wsX2_linesAlike) := goodIn_app (goodIn_of _ (by decide +kernel)) ggX2_groupCount_X2_linesAlike
set_option maxRecDepth 20000 in
theorem ggX4_init_X3_init : GoodIn wsX4_init wsX3_init := goodIn_r _ [9, 10, 2, 3, 11, 12, 13, 14] (by decide +kernel) (by decide +kernel)
set_option maxRecDepth 20000 in
theorem gX4_init_X3_init_n11 : GoodIn wsX4_init (wsX3_init) := ggX4_init_X3_init
set_option maxRecDepth 20000 in
theorem ggX4_leastSets_X3_empty : GoodIn wsX4_leastSets wsX3_empty := goodIn_r _ [6, 7, 41, 42] (by decide +kernel) (by decide +kernel)
set_option maxRecDepth 20000 in
theorem gX4_leastSets_X3_empty : GoodIn wsX4_leastSets (wsV RX4 18 RX3 yX3_empty wsX3_empty) := goodIn_app (goodIn_of _ (by decide +kernel)) ggX4_leastSets_X3_empty
set_option maxRecDepth 20000 in
theorem ggX4_leastSets_X4_linesOfNoGoodWay : GoodIn wsX4_leastSets wsX4_linesOfNoGoodWay := goodIn_r _ [11, 12, 13, 14, 15, 16, 17, 18, 19, 20, 21, 22, 23, 24, 43, 44, 45, 46, 47, 48, 49, 50] (by decide +kernel) (by decide +kernel)
set_option maxRecDepth 20000 in
theorem gX4_leastSets_X4_linesOfNoGoodWay : GoodIn wsX4_leastSets (va_wsS RX4 21 yX4_linesOfNoGoodWay wsX4_linesOfNoGoodWay) := goodIn_app (goodIn_of _ (by decide +kernel)) ggX4_leastSets_X4_linesOfNoGoodWay
set_option maxRecDepth 20000 in
theorem ggX4_leastSets_J6_bitCount_0f7a4 : GoodIn wsX4_leastSets wsJ6_bitCount_0f7a4 := goodIn_r _ [28, 29, 30, 31] (by decide +kernel) (by decide +kernel)
set_option maxRecDepth 20000 in
theorem gX4_leastSets_J6_bitCount_0f7a4 : GoodIn wsX4_leastSets (va_wsS RX4 25 yJ6_bitCount_0f7a4 wsJ6_bitCount_0f7a4) := goodIn_app (goodIn_of _ (by decide +kernel)) ggX4_leastSets_J6_bitCount_0f7a4
set_option maxRecDepth 20000 in
theorem ggX4_leastSets_X4_meetsAllBadWays : GoodIn wsX4_leastSets wsX4_meetsAllBadWays := goodIn_r _ [34, 13, 14, 15, 16, 17, 18, 19, 20, 21, 22, 23, 24, 43, 44, 45, 46, 47, 48, 49, 50] (by decide +kernel) (by decide +kernel)
set_option maxRecDepth 20000 in
theorem gX4_leastSets_X4_meetsAllBadWays : GoodIn wsX4_leastSets (va_wsS RX4 31 yX4_meetsAllBadWays wsX4_meetsAllBadWays) := goodIn_app (goodIn_of _ (by decide +kernel)) ggX4_leastSets_X4_meetsAllBadWays
set_option maxRecDepth 20000 in
theorem ggX4_leastSets_X3_add : GoodIn wsX4_leastSets wsX3_add := goodIn_r _ [38, 7, 39, 41, 42] (by decide +kernel) (by decide +kernel)
set_option maxRecDepth 20000 in
theorem gX4_leastSets_X3_add : GoodIn wsX4_leastSets (wsV RX4 35 RX3 yX3_add wsX3_add) := goodIn_app (goodIn_of _ (by decide +kernel)) ggX4_leastSets_X3_add
set_option maxRecDepth 20000 in
theorem ggX4_linesOfNoGoodWay_X2_isOn : GoodIn wsX4_linesOfNoGoodWay wsX2_isOn := goodIn_r _ [9, 10, 11, 12, 13, 14, 15, 16, 17, 18, 19, 20, 21] (by decide +kernel) (by decide +kernel)
set_option maxRecDepth 20000 in
theorem gX4_linesOfNoGoodWay_X2_isOn : GoodIn wsX4_linesOfNoGoodWay (wsV RX4 48 RX2 yX2_isOn wsX2_isOn) := goodIn_app (goodIn_of _ (by decide +kernel)) ggX4_linesOfNoGoodWay_X2_isOn
set_option maxRecDepth 20000 in
theorem ggX4_linesOfNoGoodWay_X6_bitOf : GoodIn wsX4_linesOfNoGoodWay wsX6_bitOf := goodIn_r _ [13] (by decide +kernel) (by decide +kernel)
set_option maxRecDepth 20000 in
theorem gX4_linesOfNoGoodWay_X6_bitOf_n55 : GoodIn wsX4_linesOfNoGoodWay (wsX6_bitOf) := ggX4_linesOfNoGoodWay_X6_bitOf
set_option maxRecDepth 20000 in
theorem ggX4_meetsAllBadWays_X2_isOn : GoodIn wsX4_meetsAllBadWays wsX2_isOn := goodIn_r _ [8, 9, 10, 11, 12, 13, 14, 15, 16, 17, 18, 19, 20] (by decide +kernel) (by decide +kernel)
set_option maxRecDepth 20000 in
theorem gX4_meetsAllBadWays_X2_isOn : GoodIn wsX4_meetsAllBadWays (wsV RX4 48 RX2 yX2_isOn wsX2_isOn) := goodIn_app (goodIn_of _ (by decide +kernel)) ggX4_meetsAllBadWays_X2_isOn
set_option maxRecDepth 20000 in
theorem ggX4_meetsAllBadWays_X6_bitOf : GoodIn wsX4_meetsAllBadWays wsX6_bitOf := goodIn_r _ [12] (by decide +kernel) (by decide +kernel)
set_option maxRecDepth 20000 in
theorem gX4_meetsAllBadWays_X6_bitOf_n55 : GoodIn wsX4_meetsAllBadWays (wsX6_bitOf) := ggX4_meetsAllBadWays_X6_bitOf
set_option maxRecDepth 20000 in
theorem ggX5_rankOfWays_X5_takeWays : GoodIn wsX5_rankOfWays wsX5_takeWays := goodIn_r _ [6, 1, 7, 8, 9, 10, 11, 5, 12, 13, 14, 15, 16, 17, 18, 19, 20, 21, 22, 23, 24, 25, 26, 27, 28, 29, 30, 31, 32, 33, 34, 35, 36, 37, 38, 39, 40, 41, 42, 43, 44, 45, 46, 47, 48, 49, 50, 51, 52, 53, 54, 55, 56, 57, 58, 59, 60] (by decide +kernel) (by decide +kernel)
set_option maxRecDepth 20000 in
theorem gX5_rankOfWays_X5_takeWays : GoodIn wsX5_rankOfWays (wsV RX5 21 RX5 yX5_takeWays wsX5_takeWays) := goodIn_app (goodIn_of _ (by decide +kernel)) ggX5_rankOfWays_X5_takeWays
set_option maxRecDepth 20000 in
theorem ggX5_linesFromWays_X5_takeWays : GoodIn wsX5_linesFromWays wsX5_takeWays := goodIn_r _ [6, 7, 8, 9, 10, 11, 12, 5, 13, 14, 1, 15, 16, 17, 18, 19, 20, 21, 22, 23, 24, 25, 26, 27, 28, 29, 30, 31, 32, 33, 34, 35, 36, 37, 38, 39, 40, 41, 42, 43, 44, 45, 46, 47, 48, 49, 50, 51, 52, 53, 54, 55, 56, 57, 58, 59, 60] (by decide +kernel) (by decide +kernel)
set_option maxRecDepth 20000 in
theorem gX5_linesFromWays_X5_takeWays : GoodIn wsX5_linesFromWays (wsV RX5 21 RX5 yX5_takeWays wsX5_takeWays) := goodIn_app (goodIn_of _ (by decide +kernel)) ggX5_linesFromWays_X5_takeWays
set_option maxRecDepth 20000 in
theorem ggX5_linesFromWays_X5_firstFilledColumn : GoodIn wsX5_linesFromWays wsX5_firstFilledColumn := goodIn_r _ [38, 1, 31, 32, 33, 5, 34, 47, 48, 49, 50, 51, 52] (by decide +kernel) (by decide +kernel)
set_option maxRecDepth 20000 in
theorem gX5_linesFromWays_X5_firstFilledColumn : GoodIn wsX5_linesFromWays (wsV RX5 32 RX5 yX5_firstFilledColumn wsX5_firstFilledColumn) := goodIn_app (goodIn_of _ (by decide +kernel)) ggX5_linesFromWays_X5_firstFilledColumn
set_option maxRecDepth 20000 in
theorem ggX5_fewestOffers_X5_takeWays : GoodIn wsX5_fewestOffers wsX5_takeWays := goodIn_r _ [7, 8, 9, 10, 11, 12, 13, 6, 14, 15, 16, 17, 2, 18, 19, 20, 21, 22, 23, 24, 25, 26, 27, 28, 29, 30, 31, 32, 33, 34, 35, 36, 37, 38, 39, 40, 41, 42, 43, 44, 45, 46, 47, 76, 77, 78, 79, 80, 81, 82, 83, 84, 85, 86, 87, 88, 89] (by decide +kernel) (by decide +kernel)
set_option maxRecDepth 20000 in
theorem gX5_fewestOffers_X5_takeWays : GoodIn wsX5_fewestOffers (wsV RX5 21 RX5 yX5_takeWays wsX5_takeWays) := goodIn_app (goodIn_of _ (by decide +kernel)) ggX5_fewestOffers_X5_takeWays
set_option maxRecDepth 20000 in
theorem ggX5_fewestOffers_X5_allOffersDo : GoodIn wsX5_fewestOffers wsX5_allOffersDo := goodIn_r _ [51, 52, 53, 54, 55, 56, 57, 58, 59, 6, 60, 16, 1, 9, 32, 36, 37, 38, 39, 33, 34, 35, 25, 26, 27, 44, 45, 46, 47, 61, 62, 63, 64, 76, 77, 78, 79, 80, 81] (by decide +kernel) (by decide +kernel)
set_option maxRecDepth 20000 in
theorem gX5_fewestOffers_X5_allOffersDo : GoodIn wsX5_fewestOffers (wsV RX5 44 RX5 yX5_allOffersDo wsX5_allOffersDo) := goodIn_app (goodIn_of _ (by decide +kernel)) ggX5_fewestOffers_X5_allOffersDo
set_option maxRecDepth 20000 in
theorem ggX5_fewestOffers_J6_bitCount_0f7a4 : GoodIn wsX5_fewestOffers wsJ6_bitCount_0f7a4 := goodIn_r _ [68, 69, 70, 71] (by decide +kernel) (by decide +kernel)
set_option maxRecDepth 20000 in
theorem gX5_fewestOffers_J6_bitCount_0f7a4 : GoodIn wsX5_fewestOffers (va_wsS RX5 48 yJ6_bitCount_0f7a4 wsJ6_bitCount_0f7a4) := goodIn_app (goodIn_of _ (by decide +kernel)) ggX5_fewestOffers_J6_bitCount_0f7a4
set_option maxRecDepth 20000 in
theorem ggX5_fewestOffers_X5_takeSet : GoodIn wsX5_fewestOffers wsX5_takeSet := goodIn_r _ [75, 52, 65, 66, 67, 68, 69, 70, 71, 57, 58, 59, 6, 60, 16, 1, 9, 32, 36, 37, 38, 39, 33, 34, 35, 25, 26, 27, 44, 45, 46, 47, 76, 77, 78, 79, 80, 81] (by decide +kernel) (by decide +kernel)
set_option maxRecDepth 20000 in
theorem gX5_fewestOffers_X5_takeSet : GoodIn wsX5_fewestOffers (wsV RX5 54 RX5 yX5_takeSet wsX5_takeSet) := goodIn_app (goodIn_of _ (by decide +kernel)) ggX5_fewestOffers_X5_takeSet
