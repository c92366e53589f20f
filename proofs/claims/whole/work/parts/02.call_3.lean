set_option maxRecDepth 20000 in
theorem ggX7_tries_X7_pivot : GoodIn wsX7_tries wsX7_pivot := goodIn_r _ [27, 5, 1, 8, 28, 29, 30, 31, 32, 33, 34, 35, 36, 37, 38, 39, 40, 41, 42, 43, 44, 45] (by decide +kernel) (by decide +kernel)
set_option maxRecDepth 20000 in
theorem gX7_tries_X7_pivot : GoodIn wsX7_tries (wsV RX7 87 RX7 yX7_pivot wsX7_pivot) := goodIn_app (goodIn_of _ (by decide +kernel)) ggX7_tries_X7_pivot
set_option maxRecDepth 20000 in
theorem ggX7_betters_X7_of : GoodIn wsX7_betters wsX7_of := goodIn_r _ [9] (by decide +kernel) (by decide +kernel)
set_option maxRecDepth 20000 in
theorem gX7_betters_X7_of : GoodIn wsX7_betters (va_wsS RX7 116 yX7_of wsX7_of) := goodIn_app (goodIn_of _ (by decide +kernel)) ggX7_betters_X7_of
set_option maxRecDepth 20000 in
theorem ggX7_find_X7_seenSet : GoodIn wsX7_find wsX7_seenSet := goodIn_r _ [10, 11, 12, 13, 45, 46, 47, 48, 49, 50, 51, 52, 53, 54, 55, 56, 57, 58, 59, 60, 61, 62] (by decide +kernel) (by decide +kernel)
set_option maxRecDepth 20000 in
theorem gX7_find_X7_seenSet : GoodIn wsX7_find (wsV RX7 123 RX7 yX7_seenSet wsX7_seenSet) := goodIn_app (goodIn_of _ (by decide +kernel)) ggX7_find_X7_seenSet
set_option maxRecDepth 20000 in
theorem ggX7_find_X7_tries : GoodIn wsX7_find wsX7_tries := goodIn_r _ [17, 18, 11, 12, 1, 19, 13, 20, 21, 22, 4, 3, 23, 24, 9, 25, 26, 27, 28, 29, 30, 31, 32, 33, 34, 35, 36, 37, 45, 46, 47, 48, 49, 50, 51, 52, 53, 54, 55, 56, 57, 58, 59, 60, 61, 62] (by decide +kernel) (by decide +kernel)
set_option maxRecDepth 20000 in
theorem gX7_find_X7_tries : GoodIn wsX7_find (wsV RX7 126 RX7 yX7_tries wsX7_tries) := goodIn_app (goodIn_of _ (by decide +kernel)) ggX7_find_X7_tries
set_option maxRecDepth 20000 in
theorem ggX7_find_X7_betters : GoodIn wsX7_find wsX7_betters := goodIn_r _ [41, 3, 5, 2, 4, 1, 42, 43, 9, 44, 45, 46, 47, 48, 49, 50, 51, 52, 53, 54, 55, 56, 57, 58, 59, 60, 61, 62] (by decide +kernel) (by decide +kernel)
set_option maxRecDepth 20000 in
theorem gX7_find_X7_betters : GoodIn wsX7_find (wsV RX7 129 RX7 yX7_betters wsX7_betters) := goodIn_app (goodIn_of _ (by decide +kernel)) ggX7_find_X7_betters
set_option maxRecDepth 20000 in
theorem ggX7_part_X7_gcd : GoodIn wsX7_part wsX7_gcd := goodIn_r _ [4] (by decide +kernel) (by decide +kernel)
set_option maxRecDepth 20000 in
theorem gX7_part_X7_gcd : GoodIn wsX7_part (va_wsS RX7 132 yX7_gcd wsX7_gcd) := goodIn_app (goodIn_of _ (by decide +kernel)) ggX7_part_X7_gcd
set_option maxRecDepth 20000 in
theorem ggX7_isEndless_X7_seenSet : GoodIn wsX7_isEndless wsX7_seenSet := goodIn_r _ [5, 6, 7, 8, 9, 10, 11, 12, 13, 14, 15, 16, 17, 18, 19, 20, 21, 22, 23, 24, 25, 26] (by decide +kernel) (by decide +kernel)
set_option maxRecDepth 20000 in
theorem gX7_isEndless_X7_seenSet : GoodIn wsX7_isEndless (wsV RX7 123 RX7 yX7_seenSet wsX7_seenSet) := goodIn_app (goodIn_of _ (by decide +kernel)) ggX7_isEndless_X7_seenSet
set_option maxRecDepth 20000 in
theorem ggX7_bound_X7_noSet : GoodIn wsX7_bound wsX7_noSet := goodIn_r _ [10, 11, 12, 13, 9, 14, 86, 87, 88, 89, 90, 91, 92, 93, 94, 95, 96, 97, 98, 99, 100, 101, 102, 103] (by decide +kernel) (by decide +kernel)
set_option maxRecDepth 20000 in
theorem gX7_bound_X7_noSet : GoodIn wsX7_bound (wsV RX7 58 RX7 yX7_noSet wsX7_noSet) := goodIn_app (goodIn_of _ (by decide +kernel)) ggX7_bound_X7_noSet
set_option maxRecDepth 20000 in
theorem ggX7_bound_X7_in : GoodIn wsX7_bound wsX7_in := goodIn_r _ [14] (by decide +kernel) (by decide +kernel)
set_option maxRecDepth 20000 in
theorem gX7_bound_X7_in : GoodIn wsX7_bound (va_wsS RX7 46 yX7_in wsX7_in) := goodIn_app (goodIn_of _ (by decide +kernel)) ggX7_bound_X7_in
set_option maxRecDepth 20000 in
theorem ggX7_bound_X7_onSet : GoodIn wsX7_bound wsX7_onSet := goodIn_r _ [18, 19, 20, 86, 87, 88, 89, 90, 91, 92, 93, 94, 95, 96, 97, 98, 99, 100, 101, 102, 103] (by decide +kernel) (by decide +kernel)
set_option maxRecDepth 20000 in
theorem gX7_bound_X7_onSet : GoodIn wsX7_bound (wsV RX7 90 RX7 yX7_onSet wsX7_onSet) := goodIn_app (goodIn_of _ (by decide +kernel)) ggX7_bound_X7_onSet
set_option maxRecDepth 20000 in
theorem ggX7_bound_X7_doFit : GoodIn wsX7_bound wsX7_doFit := goodIn_r _ [24, 25, 11, 19, 26, 27, 28, 29, 30, 31, 32, 9, 33, 34, 35, 36, 37, 38, 39, 40, 41, 42, 43, 44, 45, 86, 87, 88, 89, 90, 91, 92, 93, 94, 95, 96, 97, 98, 99, 100, 101, 102, 103] (by decide +kernel) (by decide +kernel)
set_option maxRecDepth 20000 in
theorem gX7_bound_X7_doFit : GoodIn wsX7_bound (wsV RX7 108 RX7 yX7_doFit wsX7_doFit) := goodIn_app (goodIn_of _ (by decide +kernel)) ggX7_bound_X7_doFit
set_option maxRecDepth 20000 in
theorem ggX7_bound_X7_isEndless : GoodIn wsX7_bound wsX7_isEndless := goodIn_r _ [49, 50, 51, 52, 9, 53, 19, 20, 27, 86, 87, 88, 89, 90, 91, 92, 93, 94, 95, 96, 97, 98, 99, 100, 101, 102, 103] (by decide +kernel) (by decide +kernel)
set_option maxRecDepth 20000 in
theorem gX7_bound_X7_isEndless : GoodIn wsX7_bound (wsV RX7 140 RX7 yX7_isEndless wsX7_isEndless) := goodIn_app (goodIn_of _ (by decide +kernel)) ggX7_bound_X7_isEndless
set_option maxRecDepth 20000 in
theorem ggX7_bound_X7_find : GoodIn wsX7_bound wsX7_find := goodIn_r _ [57, 11, 4, 58, 59, 5, 50, 51, 52, 9, 53, 19, 20, 27, 60, 61, 62, 63, 25, 26, 28, 30, 64, 31, 32, 33, 65, 66, 67, 68, 69, 70, 71, 72, 42, 43, 44, 45, 73, 74, 75, 76, 77, 78, 79, 86, 87, 88, 89, 90, 91, 92, 93, 94, 95, 96, 97, 98, 99, 100, 101, 102, 103] (by decide +kernel) (by decide +kernel)
set_option maxRecDepth 20000 in
theorem gX7_bound_X7_find : GoodIn wsX7_bound (wsV RX7 145 RX7 yX7_find wsX7_find) := goodIn_app (goodIn_of _ (by decide +kernel)) ggX7_bound_X7_find
set_option maxRecDepth 20000 in
theorem ggX7_bound_X7_of : GoodIn wsX7_bound wsX7_of := goodIn_r _ [79] (by decide +kernel) (by decide +kernel)
set_option maxRecDepth 20000 in
theorem gX7_bound_X7_of : GoodIn wsX7_bound (va_wsS RX7 116 yX7_of wsX7_of) := goodIn_app (goodIn_of _ (by decide +kernel)) ggX7_bound_X7_of
set_option maxRecDepth 20000 in
theorem ggX7_bound_X7_part : GoodIn wsX7_bound wsX7_part := goodIn_r _ [82, 83, 84, 9, 85] (by decide +kernel) (by decide +kernel)
set_option maxRecDepth 20000 in
theorem gX7_bound_X7_part : GoodIn wsX7_bound (va_wsS RX7 148 yX7_part wsX7_part) := goodIn_app (goodIn_of _ (by decide +kernel)) ggX7_bound_X7_part
set_option maxRecDepth 20000 in
theorem ggX7_noLine_X7_in : GoodIn wsX7_noLine wsX7_in := goodIn_r _ [5] (by decide +kernel) (by decide +kernel)
set_option maxRecDepth 20000 in
theorem gX7_noLine_X7_in : GoodIn wsX7_noLine (va_wsS RX7 46 yX7_in wsX7_in) := goodIn_app (goodIn_of _ (by decide +kernel)) ggX7_noLine_X7_in
set_option maxRecDepth 20000 in
theorem ggX7_shown_X7_noLine : GoodIn wsX7_shown wsX7_noLine := goodIn_r _ [11, 12, 13, 14, 10, 15, 91, 92, 93, 94, 95, 96, 97, 98, 99, 100, 101, 102, 103, 104, 105, 106, 107, 108] (by decide +kernel) (by decide +kernel)
set_option maxRecDepth 20000 in
theorem gX7_shown_X7_noLine : GoodIn wsX7_shown (wsV RX7 152 RX7 yX7_noLine wsX7_noLine) := goodIn_app (goodIn_of _ (by decide +kernel)) ggX7_shown_X7_noLine
set_option maxRecDepth 20000 in
theorem ggX7_shown_X7_noSet : GoodIn wsX7_shown wsX7_noSet := goodIn_r _ [19, 12, 13, 14, 10, 15, 91, 92, 93, 94, 95, 96, 97, 98, 99, 100, 101, 102, 103, 104, 105, 106, 107, 108] (by decide +kernel) (by decide +kernel)
set_option maxRecDepth 20000 in
theorem gX7_shown_X7_noSet : GoodIn wsX7_shown (wsV RX7 58 RX7 yX7_noSet wsX7_noSet) := goodIn_app (goodIn_of _ (by decide +kernel)) ggX7_shown_X7_noSet
set_option maxRecDepth 20000 in
theorem ggX7_shown_X7_in : GoodIn wsX7_shown wsX7_in := goodIn_r _ [15] (by decide +kernel) (by decide +kernel)
set_option maxRecDepth 20000 in
theorem gX7_shown_X7_in : GoodIn wsX7_shown (va_wsS RX7 46 yX7_in wsX7_in) := goodIn_app (goodIn_of _ (by decide +kernel)) ggX7_shown_X7_in
set_option maxRecDepth 20000 in
theorem ggX7_shown_X7_onSet : GoodIn wsX7_shown wsX7_onSet := goodIn_r _ [23, 24, 25, 91, 92, 93, 94, 95, 96, 97, 98, 99, 100, 101, 102, 103, 104, 105, 106, 107, 108] (by decide +kernel) (by decide +kernel)
set_option maxRecDepth 20000 in
theorem gX7_shown_X7_onSet : GoodIn wsX7_shown (wsV RX7 90 RX7 yX7_onSet wsX7_onSet) := goodIn_app (goodIn_of _ (by decide +kernel)) ggX7_shown_X7_onSet
set_option maxRecDepth 20000 in
theorem ggX7_shown_X7_doFit : GoodIn wsX7_shown wsX7_doFit := goodIn_r _ [29, 30, 12, 24, 31, 32, 33, 34, 35, 36, 37, 10, 38, 39, 40, 41, 42, 43, 44, 45, 46, 47, 48, 49, 50, 91, 92, 93, 94, 95, 96, 97, 98, 99, 100, 101, 102, 103, 104, 105, 106, 107, 108] (by decide +kernel) (by decide +kernel)
set_option maxRecDepth 20000 in
theorem gX7_shown_X7_doFit : GoodIn wsX7_shown (wsV RX7 108 RX7 yX7_doFit wsX7_doFit) := goodIn_app (goodIn_of _ (by decide +kernel)) ggX7_shown_X7_doFit
set_option maxRecDepth 20000 in
theorem ggX7_shown_X7_isEndless : GoodIn wsX7_shown wsX7_isEndless := goodIn_r _ [54, 55, 56, 57, 10, 58, 24, 25, 32, 91, 92, 93, 94, 95, 96, 97, 98, 99, 100, 101, 102, 103, 104, 105, 106, 107, 108] (by decide +kernel) (by decide +kernel)
set_option maxRecDepth 20000 in
theorem gX7_shown_X7_isEndless : GoodIn wsX7_shown (wsV RX7 140 RX7 yX7_isEndless wsX7_isEndless) := goodIn_app (goodIn_of _ (by decide +kernel)) ggX7_shown_X7_isEndless
set_option maxRecDepth 20000 in
theorem ggX7_shown_X7_find : GoodIn wsX7_shown wsX7_find := goodIn_r _ [62, 12, 5, 63, 64, 6, 55, 56, 57, 10, 58, 24, 25, 32, 65, 66, 67, 68, 30, 31, 33, 35, 69, 36, 37, 38, 70, 71, 72, 73, 74, 75, 76, 77, 47, 48, 49, 50, 78, 79, 80, 81, 82, 83, 84, 91, 92, 93, 94, 95, 96, 97, 98, 99, 100, 101, 102, 103, 104, 105, 106, 107, 108] (by decide +kernel) (by decide +kernel)
set_option maxRecDepth 20000 in
theorem gX7_shown_X7_find : GoodIn wsX7_shown (wsV RX7 145 RX7 yX7_find wsX7_find) := goodIn_app (goodIn_of _ (by decide +kernel)) ggX7_shown_X7_find
set_option maxRecDepth 20000 in
theorem ggX7_shown_X7_part : GoodIn wsX7_shown wsX7_part := goodIn_r _ [87, 88, 89, 10, 90] (by decide +kernel) (by decide +kernel)
set_option maxRecDepth 20000 in
theorem gX7_shown_X7_part : GoodIn wsX7_shown (va_wsS RX7 148 yX7_part wsX7_part) := goodIn_app (goodIn_of _ (by decide +kernel)) ggX7_shown_X7_part
set_option maxRecDepth 20000 in
theorem ggX7_isSettled_X7_seenSet : GoodIn wsX7_isSettled wsX7_seenSet := goodIn_r _ [7, 8, 9, 10, 49, 50, 51, 52, 53, 54, 55, 56, 57, 58, 59, 60, 61, 62, 63, 64, 65, 66] (by decide +kernel) (by decide +kernel)
set_option maxRecDepth 20000 in
theorem gX7_isSettled_X7_seenSet : GoodIn wsX7_isSettled (wsV RX7 123 RX7 yX7_seenSet wsX7_seenSet) := goodIn_app (goodIn_of _ (by decide +kernel)) ggX7_isSettled_X7_seenSet
set_option maxRecDepth 20000 in
theorem ggX7_isSettled_X7_find : GoodIn wsX7_isSettled wsX7_find := goodIn_r _ [14, 15, 1, 16, 17, 2, 3, 4, 5, 6, 7, 8, 9, 10, 18, 19, 20, 21, 22, 23, 24, 25, 26, 27, 28, 29, 30, 31, 32, 33, 34, 35, 36, 37, 38, 39, 40, 41, 42, 43, 44, 45, 46, 47, 48, 49, 50, 51, 52, 53, 54, 55, 56, 57, 58, 59, 60, 61, 62, 63, 64, 65, 66] (by decide +kernel) (by decide +kernel)
set_option maxRecDepth 20000 in
theorem gX7_isSettled_X7_find : GoodIn wsX7_isSettled (wsV RX7 145 RX7 yX7_find wsX7_find) := goodIn_app (goodIn_of _ (by decide +kernel)) ggX7_isSettled_X7_find
set_option maxRecDepth 20000 in
theorem ggX7_settled_X7_noLine : GoodIn wsX7_settled wsX7_noLine := goodIn_r _ [5, 6, 7, 8, 4, 9, 77, 78, 79, 80, 81, 82, 83, 84, 85, 86, 87, 88, 89, 90, 91, 92, 93, 94] (by decide +kernel) (by decide +kernel)
set_option maxRecDepth 20000 in
theorem gX7_settled_X7_noLine : GoodIn wsX7_settled (wsV RX7 152 RX7 yX7_noLine wsX7_noLine) := goodIn_app (goodIn_of _ (by decide +kernel)) ggX7_settled_X7_noLine
set_option maxRecDepth 20000 in
theorem ggX7_settled_X7_onSet : GoodIn wsX7_settled wsX7_onSet := goodIn_r _ [13, 14, 15, 77, 78, 79, 80, 81, 82, 83, 84, 85, 86, 87, 88, 89, 90, 91, 92, 93, 94] (by decide +kernel) (by decide +kernel)
set_option maxRecDepth 20000 in
theorem gX7_settled_X7_onSet : GoodIn wsX7_settled (wsV RX7 90 RX7 yX7_onSet wsX7_onSet) := goodIn_app (goodIn_of _ (by decide +kernel)) ggX7_settled_X7_onSet
set_option maxRecDepth 20000 in
theorem ggX7_settled_X7_doFit : GoodIn wsX7_settled wsX7_doFit := goodIn_r _ [19, 20, 6, 14, 21, 22, 23, 24, 25, 26, 27, 4, 28, 29, 30, 31, 32, 33, 34, 35, 36, 37, 38, 39, 40, 77, 78, 79, 80, 81, 82, 83, 84, 85, 86, 87, 88, 89, 90, 91, 92, 93, 94] (by decide +kernel) (by decide +kernel)
set_option maxRecDepth 20000 in
theorem gX7_settled_X7_doFit : GoodIn wsX7_settled (wsV RX7 108 RX7 yX7_doFit wsX7_doFit) := goodIn_app (goodIn_of _ (by decide +kernel)) ggX7_settled_X7_doFit
set_option maxRecDepth 20000 in
theorem ggX7_settled_X7_isSettled : GoodIn wsX7_settled wsX7_isSettled := goodIn_r _ [44, 45, 46, 47, 48, 49, 4, 50, 14, 15, 22, 51, 52, 53, 54, 6, 55, 56, 57, 58, 59, 60, 20, 21, 23, 25, 61, 26, 27, 28, 62, 63, 64, 65, 66, 67, 68, 69, 37, 38, 39, 40, 70, 71, 72, 73, 74, 75, 76, 77, 78, 79, 80, 81, 82, 83, 84, 85, 86, 87, 88, 89, 90, 91, 92, 93, 94] (by decide +kernel) (by decide +kernel)
set_option maxRecDepth 20000 in
theorem gX7_settled_X7_isSettled : GoodIn wsX7_settled (wsV RX7 157 RX7 yX7_isSettled wsX7_isSettled) := goodIn_app (goodIn_of _ (by decide +kernel)) ggX7_settled_X7_isSettled
set_option maxRecDepth 20000 in
theorem ggX7_known_X7_noLine : GoodIn wsX7_known wsX7_noLine := goodIn_r _ [5, 6, 7, 8, 4, 9, 46, 47, 48, 49, 50, 51, 52, 53, 54, 55, 56, 57, 58, 59, 60, 61, 62, 63] (by decide +kernel) (by decide +kernel)
set_option maxRecDepth 20000 in
theorem gX7_known_X7_noLine : GoodIn wsX7_known (wsV RX7 152 RX7 yX7_noLine wsX7_noLine) := goodIn_app (goodIn_of _ (by decide +kernel)) ggX7_known_X7_noLine
set_option maxRecDepth 20000 in
theorem ggX7_known_X7_isKnown : GoodIn wsX7_known wsX7_isKnown := goodIn_r _ [13, 14, 15, 16, 4, 17, 18, 19, 20, 21, 22, 23, 24, 25, 26, 27, 28, 6, 29, 30, 31, 32, 33, 34, 35, 36, 37, 38, 39, 40, 41, 42, 43, 44, 45, 46, 47, 48, 49, 50, 51, 52, 53, 54, 55, 56, 57, 58, 59, 60, 61, 62, 63] (by decide +kernel) (by decide +kernel)
set_option maxRecDepth 20000 in
theorem gX7_known_X7_isKnown : GoodIn wsX7_known (wsV RX7 160 RX7 yX7_isKnown wsX7_isKnown) := goodIn_app (goodIn_of _ (by decide +kernel)) ggX7_known_X7_isKnown
set_option maxRecDepth 20000 in
theorem ggX7_groupOf_X7_overLine : GoodIn wsX7_groupOf wsX7_overLine := goodIn_r _ [6, 7, 8, 9, 10, 11, 12, 13, 14, 15, 16, 17, 18, 19, 20, 21, 22, 23, 24, 25, 26, 27] (by decide +kernel) (by decide +kernel)
set_option maxRecDepth 20000 in
theorem gX7_groupOf_X7_overLine : GoodIn wsX7_groupOf (wsV RX7 163 RX7 yX7_overLine wsX7_overLine) := goodIn_app (goodIn_of _ (by decide +kernel)) ggX7_groupOf_X7_overLine
set_option maxRecDepth 20000 in
theorem ggX7_group_X7_noLine : GoodIn wsX7_group wsX7_noLine := goodIn_r _ [5, 6, 7, 8, 4, 9, 21, 22, 23, 24, 25, 26, 27, 28, 29, 30, 31, 32, 33, 34, 35, 36, 37, 38] (by decide +kernel) (by decide +kernel)
set_option maxRecDepth 20000 in
theorem gX7_group_X7_noLine : GoodIn wsX7_group (wsV RX7 152 RX7 yX7_noLine wsX7_noLine) := goodIn_app (goodIn_of _ (by decide +kernel)) ggX7_group_X7_noLine
set_option maxRecDepth 20000 in
theorem ggX7_group_X7_groupOf : GoodIn wsX7_group wsX7_groupOf := goodIn_r _ [13, 6, 14, 15, 16, 4, 17, 18, 19, 20, 21, 22, 23, 24, 25, 26, 27, 28, 29, 30, 31, 32, 33, 34, 35, 36, 37, 38] (by decide +kernel) (by decide +kernel)
set_option maxRecDepth 20000 in
theorem gX7_group_X7_groupOf : GoodIn wsX7_group (wsV RX7 166 RX7 yX7_groupOf wsX7_groupOf) := goodIn_app (goodIn_of _ (by decide +kernel)) ggX7_group_X7_groupOf
set_option maxRecDepth 20000 in
theorem ggX7_count_X7_in : GoodIn wsX7_count wsX7_in := goodIn_r _ [8] (by decide +kernel) (by decide +kernel)
set_option maxRecDepth 20000 in
theorem gX7_count_X7_in : GoodIn wsX7_count (va_wsS RX7 46 yX7_in wsX7_in) := goodIn_app (goodIn_of _ (by decide +kernel)) ggX7_count_X7_in
set_option maxRecDepth 20000 in
theorem ggX7_count_X7_onSet : GoodIn wsX7_count wsX7_onSet := goodIn_r _ [12, 3, 13, 96, 97, 98, 99, 100, 101, 102, 103, 104, 105, 106, 107, 108, 109, 110, 111, 112, 113] (by decide +kernel) (by decide +kernel)
set_option maxRecDepth 20000 in
theorem gX7_count_X7_onSet : GoodIn wsX7_count (wsV RX7 90 RX7 yX7_onSet wsX7_onSet) := goodIn_app (goodIn_of _ (by decide +kernel)) ggX7_count_X7_onSet
set_option maxRecDepth 20000 in
theorem ggX7_count_X7_doFit : GoodIn wsX7_count wsX7_doFit := goodIn_r _ [17, 18, 2, 3, 19, 20, 21, 22, 23, 24, 25, 7, 26, 27, 28, 29, 30, 31, 32, 33, 34, 35, 36, 37, 38, 96, 97, 98, 99, 100, 101, 102, 103, 104, 105, 106, 107, 108, 109, 110, 111, 112, 113] (by decide +kernel) (by decide +kernel)
set_option maxRecDepth 20000 in
theorem gX7_count_X7_doFit : GoodIn wsX7_count (wsV RX7 108 RX7 yX7_doFit wsX7_doFit) := goodIn_app (goodIn_of _ (by decide +kernel)) ggX7_count_X7_doFit
set_option maxRecDepth 20000 in
theorem ggX7_count_X7_isSettled : GoodIn wsX7_count wsX7_isSettled := goodIn_r _ [42, 43, 44, 45, 46, 47, 7, 48, 3, 13, 20, 49, 50, 51, 52, 2, 53, 54, 55, 56, 57, 58, 18, 19, 21, 23, 59, 24, 25, 26, 60, 61, 62, 63, 64, 65, 66, 67, 35, 36, 37, 38, 68, 69, 70, 71, 72, 73, 74, 96, 97, 98, 99, 100, 101, 102, 103, 104, 105, 106, 107, 108, 109, 110, 111, 112, 113] (by decide +kernel) (by decide +kernel)
set_option maxRecDepth 20000 in
theorem gX7_count_X7_isSettled : GoodIn wsX7_count (wsV RX7 157 RX7 yX7_isSettled wsX7_isSettled) := goodIn_app (goodIn_of _ (by decide +kernel)) ggX7_count_X7_isSettled
set_option maxRecDepth 20000 in
theorem ggX7_count_X7_isKnown : GoodIn wsX7_count wsX7_isKnown := goodIn_r _ [78, 9, 10, 11, 7, 12, 3, 13, 79, 80, 81, 82, 18, 20, 4, 83, 23, 2, 84, 85, 86, 87, 19, 60, 61, 62, 63, 64, 65, 66, 67, 35, 36, 37, 38, 96, 97, 98, 99, 100, 101, 102, 103, 104, 105, 106, 107, 108, 109, 110, 111, 112, 113] (by decide +kernel) (by decide +kernel)
set_option maxRecDepth 20000 in
theorem gX7_count_X7_isKnown : GoodIn wsX7_count (wsV RX7 160 RX7 yX7_isKnown wsX7_isKnown) := goodIn_app (goodIn_of _ (by decide +kernel)) ggX7_count_X7_isKnown
set_option maxRecDepth 20000 in
theorem ggX7_count_X7_groupOf : GoodIn wsX7_count wsX7_groupOf := goodIn_r _ [91, 2, 92, 93, 94, 7, 95, 3, 13, 20, 96, 97, 98, 99, 100, 101, 102, 103, 104, 105, 106, 107, 108, 109, 110, 111, 112, 113] (by decide +kernel) (by decide +kernel)
set_option maxRecDepth 20000 in
theorem gX7_count_X7_groupOf : GoodIn wsX7_count (wsV RX7 166 RX7 yX7_groupOf wsX7_groupOf) := goodIn_app (goodIn_of _ (by decide +kernel)) ggX7_count_X7_groupOf
set_option maxRecDepth 20000 in
theorem ggX7_count_X7_bits : GoodIn wsX7_count wsX7_bits := goodIn_r _ [26] (by decide +kernel) (by decide +kernel)
set_option maxRecDepth 20000 in
theorem gX7_count_X7_bits : GoodIn wsX7_count (va_wsS RX7 98 yX7_bits wsX7_bits) := goodIn_app (goodIn_of _ (by decide +kernel)) ggX7_count_X7_bits
set_option maxRecDepth 20000 in
theorem ggX7_count_X7_rank : GoodIn wsX7_count wsX7_rank := goodIn_r _ [82, 18, 3, 20, 4, 83, 23, 2, 84, 85, 86, 7, 87, 19, 60, 61, 62, 63, 64, 65, 66, 67, 35, 36, 37, 38, 96, 97, 98, 99, 100, 101, 102, 103, 104, 105, 106, 107, 108, 109, 110, 111, 112, 113] (by decide +kernel) (by decide +kernel)
set_option maxRecDepth 20000 in
theorem gX7_count_X7_rank : GoodIn wsX7_count (wsV RX7 94 RX7 yX7_rank wsX7_rank) := goodIn_app (goodIn_of _ (by decide +kernel)) ggX7_count_X7_rank
set_option maxRecDepth 20000 in
theorem ggX7_count_X7_seenSet : GoodIn wsX7_count wsX7_seenSet := goodIn_r _ [48, 3, 13, 20, 96, 97, 98, 99, 100, 101, 102, 103, 104, 105, 106, 107, 108, 109, 110, 111, 112, 113] (by decide +kernel) (by decide +kernel)
set_option maxRecDepth 20000 in
theorem gX7_count_X7_seenSet : GoodIn wsX7_count (wsV RX7 123 RX7 yX7_seenSet wsX7_seenSet) := goodIn_app (goodIn_of _ (by decide +kernel)) ggX7_count_X7_seenSet
set_option maxRecDepth 20000 in
theorem ggX7_foundAt_X7_in : GoodIn wsX7_foundAt wsX7_in := goodIn_r _ [6] (by decide +kernel) (by decide +kernel)
set_option maxRecDepth 20000 in
theorem gX7_foundAt_X7_in : GoodIn wsX7_foundAt (va_wsS RX7 46 yX7_in wsX7_in) := goodIn_app (goodIn_of _ (by decide +kernel)) ggX7_foundAt_X7_in
set_option maxRecDepth 20000 in
theorem ggX7_lying_X7_onSet : GoodIn wsX7_lying wsX7_onSet := goodIn_r _ [8, 2, 9, 43, 44, 45, 46, 47, 48, 49, 50, 51, 52, 53, 54, 55, 56, 57, 58, 59, 60] (by decide +kernel) (by decide +kernel)
set_option maxRecDepth 20000 in
theorem gX7_lying_X7_onSet : GoodIn wsX7_lying (wsV RX7 90 RX7 yX7_onSet wsX7_onSet) := goodIn_app (goodIn_of _ (by decide +kernel)) ggX7_lying_X7_onSet
set_option maxRecDepth 20000 in
theorem ggX7_lying_X7_bits : GoodIn wsX7_lying wsX7_bits := goodIn_r _ [12] (by decide +kernel) (by decide +kernel)
set_option maxRecDepth 20000 in
theorem gX7_lying_X7_bits : GoodIn wsX7_lying (va_wsS RX7 98 yX7_bits wsX7_bits) := goodIn_app (goodIn_of _ (by decide +kernel)) ggX7_lying_X7_bits
set_option maxRecDepth 20000 in
theorem ggX7_lying_X7_doFit : GoodIn wsX7_lying wsX7_doFit := goodIn_r _ [16, 17, 18, 2, 19, 20, 21, 22, 23, 10, 11, 7, 12, 24, 25, 26, 27, 28, 29, 30, 31, 32, 33, 34, 35, 43, 44, 45, 46, 47, 48, 49, 50, 51, 52, 53, 54, 55, 56, 57, 58, 59, 60] (by decide +kernel) (by decide +kernel)
set_option maxRecDepth 20000 in
theorem gX7_lying_X7_doFit : GoodIn wsX7_lying (wsV RX7 108 RX7 yX7_doFit wsX7_doFit) := goodIn_app (goodIn_of _ (by decide +kernel)) ggX7_lying_X7_doFit
set_option maxRecDepth 20000 in
theorem ggX7_lying_X7_foundAt : GoodIn wsX7_lying wsX7_foundAt := goodIn_r _ [39, 1, 3, 40, 41, 7, 42, 43, 44, 45, 46, 47, 48, 49, 50, 51, 52, 53, 54, 55, 56, 57, 58, 59, 60] (by decide +kernel) (by decide +kernel)
set_option maxRecDepth 20000 in
theorem gX7_lying_X7_foundAt : GoodIn wsX7_lying (wsV RX7 174 RX7 yX7_foundAt wsX7_foundAt) := goodIn_app (goodIn_of _ (by decide +kernel)) ggX7_lying_X7_foundAt
set_option maxRecDepth 20000 in
theorem ggX7_offer_X7_noSet : GoodIn wsX7_offer wsX7_noSet := goodIn_r _ [7, 8, 9, 10, 6, 11, 12, 13, 14, 15, 16, 17, 18, 19, 20, 21, 22, 23, 24, 25, 26, 27, 28, 29] (by decide +kernel) (by decide +kernel)
set_option maxRecDepth 20000 in
theorem gX7_offer_X7_noSet : GoodIn wsX7_offer (wsV RX7 58 RX7 yX7_noSet wsX7_noSet) := goodIn_app (goodIn_of _ (by decide +kernel)) ggX7_offer_X7_noSet
set_option maxRecDepth 20000 in
theorem ggX7_offered_X7_in : GoodIn wsX7_offered wsX7_in := goodIn_r _ [6] (by decide +kernel) (by decide +kernel)
set_option maxRecDepth 20000 in
theorem gX7_offered_X7_in : GoodIn wsX7_offered (va_wsS RX7 46 yX7_in wsX7_in) := goodIn_app (goodIn_of _ (by decide +kernel)) ggX7_offered_X7_in
set_option maxRecDepth 20000 in
theorem ggX7_offered_X7_noSet : GoodIn wsX7_offered wsX7_noSet := goodIn_r _ [10, 11, 3, 4, 5, 6, 12, 13, 14, 15, 16, 17, 18, 19, 20, 21, 22, 23, 24, 25, 26, 27, 28, 29] (by decide +kernel) (by decide +kernel)
set_option maxRecDepth 20000 in
theorem gX7_offered_X7_noSet : GoodIn wsX7_offered (wsV RX7 58 RX7 yX7_noSet wsX7_noSet) := goodIn_app (goodIn_of _ (by decide +kernel)) ggX7_offered_X7_noSet
set_option maxRecDepth 20000 in
theorem ggX7_advises_X7_isKnown : GoodIn wsX7_advises wsX7_isKnown := goodIn_r _ [6, 7, 8, 9, 5, 10, 11, 12, 13, 14, 15, 16, 17, 18, 19, 20, 21, 1, 22, 23, 24, 25, 26, 27, 28, 29, 30, 31, 32, 33, 34, 35, 36, 37, 38, 39, 40, 41, 42, 43, 44, 45, 46, 47, 48, 49, 50, 51, 52, 53, 54, 55, 56] (by decide +kernel) (by decide +kernel)
set_option maxRecDepth 20000 in
theorem gX7_advises_X7_isKnown : GoodIn wsX7_advises (wsV RX7 160 RX7 yX7_isKnown wsX7_isKnown) := goodIn_app (goodIn_of _ (by decide +kernel)) ggX7_advises_X7_isKnown
set_option maxRecDepth 20000 in
theorem ggX7_advice_X7_noSet : GoodIn wsX7_advice wsX7_noSet := goodIn_r _ [6, 7, 8, 9, 5, 10, 53, 54, 55, 56, 57, 58, 59, 60, 61, 62, 63, 64, 65, 66, 67, 68, 69, 70] (by decide +kernel) (by decide +kernel)
set_option maxRecDepth 20000 in
theorem gX7_advice_X7_noSet : GoodIn wsX7_advice (wsV RX7 58 RX7 yX7_noSet wsX7_noSet) := goodIn_app (goodIn_of _ (by decide +kernel)) ggX7_advice_X7_noSet
set_option maxRecDepth 20000 in
theorem ggX7_advice_X7_bits : GoodIn wsX7_advice wsX7_bits := goodIn_r _ [13] (by decide +kernel) (by decide +kernel)
set_option maxRecDepth 20000 in
theorem gX7_advice_X7_bits : GoodIn wsX7_advice (va_wsS RX7 98 yX7_bits wsX7_bits) := goodIn_app (goodIn_of _ (by decide +kernel)) ggX7_advice_X7_bits
set_option maxRecDepth 20000 in
theorem ggX7_advice_X7_advises : GoodIn wsX7_advice wsX7_advises := goodIn_r _ [17, 7, 18, 19, 20, 5, 21, 22, 23, 24, 25, 26, 27, 28, 29, 30, 31, 32, 33, 1, 34, 35, 36, 37, 38, 39, 40, 41, 42, 43, 44, 45, 46, 47, 48, 49, 50, 51, 52, 53, 54, 55, 56, 57, 58, 59, 60, 61, 62, 63, 64, 65, 66, 67, 68, 69, 70] (by decide +kernel) (by decide +kernel)
set_option maxRecDepth 20000 in
theorem gX7_advice_X7_advises : GoodIn wsX7_advice (wsV RX7 177 RX7 yX7_advises wsX7_advises) := goodIn_app (goodIn_of _ (by decide +kernel)) ggX7_advice_X7_advises
set_option maxRecDepth 20000 in
theorem ggX7_sick_X7_bits : GoodIn wsX7_sick wsX7_bits := goodIn_r _ [7] (by decide +kernel) (by decide +kernel)
set_option maxRecDepth 20000 in
theorem gX7_sick_X7_bits : GoodIn wsX7_sick (va_wsS RX7 98 yX7_bits wsX7_bits) := goodIn_app (goodIn_of _ (by decide +kernel)) ggX7_sick_X7_bits
set_option maxRecDepth 20000 in
theorem ggX7_sick_X7_explains : GoodIn wsX7_sick wsX7_explains := goodIn_r _ [11, 12, 13, 14, 15, 23, 24, 25, 26, 27, 28, 29, 30, 31, 32, 33, 34, 35, 36, 37, 38, 39, 40] (by decide +kernel) (by decide +kernel)
set_option maxRecDepth 20000 in
theorem gX7_sick_X7_explains : GoodIn wsX7_sick (wsV RX7 180 RX7 yX7_explains wsX7_explains) := goodIn_app (goodIn_of _ (by decide +kernel)) ggX7_sick_X7_explains
set_option maxRecDepth 20000 in
theorem ggX7_sick_X7_foundAt : GoodIn wsX7_sick wsX7_foundAt := goodIn_r _ [19, 1, 3, 20, 21, 6, 22, 23, 24, 25, 26, 27, 28, 29, 30, 31, 32, 33, 34, 35, 36, 37, 38, 39, 40] (by decide +kernel) (by decide +kernel)
set_option maxRecDepth 20000 in
theorem gX7_sick_X7_foundAt : GoodIn wsX7_sick (wsV RX7 174 RX7 yX7_foundAt wsX7_foundAt) := goodIn_app (goodIn_of _ (by decide +kernel)) ggX7_sick_X7_foundAt
set_option maxRecDepth 20000 in
theorem ggX7_pair_X7_in : GoodIn wsX7_pair wsX7_in := goodIn_r _ [8] (by decide +kernel) (by decide +kernel)
set_option maxRecDepth 20000 in
theorem gX7_pair_X7_in : GoodIn wsX7_pair (va_wsS RX7 46 yX7_in wsX7_in) := goodIn_app (goodIn_of _ (by decide +kernel)) ggX7_pair_X7_in
set_option maxRecDepth 20000 in
theorem ggX7_pair_X7_part : GoodIn wsX7_pair wsX7_part := goodIn_r _ [11, 12, 13, 7, 14] (by decide +kernel) (by decide +kernel)
set_option maxRecDepth 20000 in
theorem gX7_pair_X7_part : GoodIn wsX7_pair (va_wsS RX7 148 yX7_part wsX7_part) := goodIn_app (goodIn_of _ (by decide +kernel)) ggX7_pair_X7_part
