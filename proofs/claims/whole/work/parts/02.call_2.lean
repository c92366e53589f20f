set_option maxRecDepth 20000 in
theorem ggX6_shown_X2_isLineSet : GoodIn wsX6_shown wsX2_isLineSet := goodIn_r _ [18, 14, 153, 154, 155, 156, 157, 158, 159, 160] (by decide +kernel) (by decide +kernel)
set_option maxRecDepth 20000 in
theorem gX6_shown_X2_isLineSet : GoodIn wsX6_shown (wsV RX6 125 RX2 yX2_isLineSet wsX2_isLineSet) := goodIn_app (goodIn_of _ (by decide +kernel)) ggX6_shown_X2_isLineSet
set_option maxRecDepth 20000 in
theorem ggX6_shown_X6_isZeroOrOne : GoodIn wsX6_shown wsX6_isZeroOrOne := goodIn_r _ [22] (by decide +kernel) (by decide +kernel)
set_option maxRecDepth 20000 in
theorem gX6_shown_X6_isZeroOrOne : GoodIn wsX6_shown (va_wsS RX6 128 yX6_isZeroOrOne wsX6_isZeroOrOne) := goodIn_app (goodIn_of _ (by decide +kernel)) ggX6_shown_X6_isZeroOrOne
set_option maxRecDepth 20000 in
theorem ggX6_shown_X0_solve : GoodIn wsX6_shown wsX0_solve := goodIn_r _ [27, 28, 29, 30, 31, 32, 33, 34, 26, 35, 36, 37, 38, 39, 40, 41, 42, 43, 44, 45, 46, 47, 48, 49, 50, 51, 52, 53, 54, 55, 56, 57, 21, 58, 59, 60, 61, 62, 63, 64, 65, 66, 67, 68, 69, 70, 71, 72, 73, 74, 75, 76, 77, 78, 79, 80, 81, 82, 83, 84, 85, 86, 87, 88, 89, 90, 91, 92, 93, 94, 95, 96, 97, 98, 99, 100, 101, 102, 103, 104, 105, 106, 107, 108, 109, 110, 161, 162, 163, 164, 165, 166, 167, 168, 169, 170, 171, 172, 173, 153, 154, 155, 156, 157, 158, 159, 160] (by decide +kernel) (by decide +kernel)
set_option maxRecDepth 20000 in
theorem gX6_shown_X0_solve : GoodIn wsX6_shown (wsV RX6 121 RX0 yX0_solve wsX0_solve) := goodIn_app (goodIn_of _ (by decide +kernel)) ggX6_shown_X0_solve
set_option maxRecDepth 20000 in
theorem ggX6_shown_X6_isEndless : GoodIn wsX6_shown wsX6_isEndless := goodIn_r _ [114, 1, 115, 116, 117, 12, 118, 119, 120, 121, 122, 123, 124, 125, 57, 21, 58, 148, 149, 150, 151, 152, 153, 154, 155, 156, 157, 158, 159, 160] (by decide +kernel) (by decide +kernel)
set_option maxRecDepth 20000 in
theorem gX6_shown_X6_isEndless : GoodIn wsX6_shown (wsV RX6 135 RX6 yX6_isEndless wsX6_isEndless) := goodIn_app (goodIn_of _ (by decide +kernel)) ggX6_shown_X6_isEndless
set_option maxRecDepth 20000 in
theorem ggX6_shown_X0_goToEnd : GoodIn wsX6_shown wsX0_goToEnd := goodIn_r _ [129, 40, 64, 65, 66, 26, 67, 37, 68, 69, 57, 21, 58, 70, 71, 72, 73, 74, 75, 76, 77, 78, 39, 79, 80, 81, 82, 38, 63, 41, 30, 83, 84, 85, 86, 87, 88, 89, 90, 91, 92, 93, 94, 95, 96, 97, 98, 99, 100, 101, 102, 161, 162, 163, 164, 165, 166, 167, 168, 169, 170, 171, 172, 173] (by decide +kernel) (by decide +kernel)
set_option maxRecDepth 20000 in
theorem gX6_shown_X0_goToEnd : GoodIn wsX6_shown (wsV RX6 141 RX0 yX0_goToEnd wsX0_goToEnd) := goodIn_app (goodIn_of _ (by decide +kernel)) ggX6_shown_X0_goToEnd
set_option maxRecDepth 20000 in
theorem ggX6_shown_X0_leastInTurnUpTo : GoodIn wsX6_shown wsX0_leastInTurnUpTo := goodIn_r _ [133, 37, 134, 135, 136, 26, 137, 39, 68, 40, 79, 80, 81, 82, 38, 63, 69, 41, 30, 64, 65, 66, 67, 57, 21, 58, 70, 71, 72, 73, 74, 75, 76, 77, 78, 83, 84, 85, 86, 87, 88, 89, 90, 91, 92, 93, 94, 95, 96, 97, 98, 99, 100, 101, 102, 161, 162, 163, 164, 165, 166, 167, 168, 169, 170, 171, 172, 173] (by decide +kernel) (by decide +kernel)
set_option maxRecDepth 20000 in
theorem gX6_shown_X0_leastInTurnUpTo : GoodIn wsX6_shown (wsV RX6 162 RX0 yX0_leastInTurnUpTo wsX0_leastInTurnUpTo) := goodIn_app (goodIn_of _ (by decide +kernel)) ggX6_shown_X0_leastInTurnUpTo
set_option maxRecDepth 20000 in
theorem ggX6_shown_X0_upperOf : GoodIn wsX6_shown wsX0_upperOf := goodIn_r _ [141, 38, 63, 41, 30, 57, 21, 58, 161, 162, 163, 164, 165, 166, 167, 168, 169, 170, 171, 172, 173] (by decide +kernel) (by decide +kernel)
set_option maxRecDepth 20000 in
theorem gX6_shown_X0_upperOf : GoodIn wsX6_shown (wsV RX6 145 RX0 yX0_upperOf wsX0_upperOf) := goodIn_app (goodIn_of _ (by decide +kernel)) ggX6_shown_X0_upperOf
set_option maxRecDepth 20000 in
theorem ggX6_shown_X6_partOfFraction : GoodIn wsX6_shown wsX6_partOfFraction := goodIn_r _ [144, 145, 146, 21, 147] (by decide +kernel) (by decide +kernel)
set_option maxRecDepth 20000 in
theorem gX6_shown_X6_partOfFraction : GoodIn wsX6_shown (va_wsS RX6 153 yX6_partOfFraction wsX6_partOfFraction) := goodIn_app (goodIn_of _ (by decide +kernel)) ggX6_shown_X6_partOfFraction
set_option maxRecDepth 20000 in
theorem ggX6_settled_X2_hasLine : GoodIn wsX6_settled wsX2_hasLine := goodIn_r _ [8, 9, 132, 133, 134, 135, 136, 137, 138, 139] (by decide +kernel) (by decide +kernel)
set_option maxRecDepth 20000 in
theorem gX6_settled_X2_hasLine : GoodIn wsX6_settled (wsV RX6 157 RX2 yX2_hasLine wsX2_hasLine) := goodIn_app (goodIn_of _ (by decide +kernel)) ggX6_settled_X2_hasLine
set_option maxRecDepth 20000 in
theorem ggX6_settled_X0_solve : GoodIn wsX6_settled wsX0_solve := goodIn_r _ [14, 15, 16, 17, 18, 19, 20, 21, 13, 22, 23, 24, 25, 26, 27, 28, 29, 30, 31, 32, 33, 34, 35, 36, 37, 38, 39, 40, 41, 42, 43, 44, 45, 46, 47, 48, 49, 50, 51, 52, 53, 54, 55, 56, 57, 58, 59, 60, 61, 62, 63, 64, 65, 66, 67, 68, 69, 70, 71, 72, 73, 74, 75, 76, 77, 78, 79, 80, 81, 82, 83, 84, 85, 86, 87, 88, 89, 90, 91, 92, 93, 94, 95, 96, 97, 98, 140, 141, 142, 143, 144, 145, 146, 147, 148, 149, 150, 151, 152, 132, 133, 134, 135, 136, 137, 138, 139] (by decide +kernel) (by decide +kernel)
set_option maxRecDepth 20000 in
theorem gX6_settled_X0_solve : GoodIn wsX6_settled (wsV RX6 121 RX0 yX0_solve wsX0_solve) := goodIn_app (goodIn_of _ (by decide +kernel)) ggX6_settled_X0_solve
set_option maxRecDepth 20000 in
theorem ggX6_settled_X6_isSettledLine : GoodIn wsX6_settled wsX6_isSettledLine := goodIn_r _ [102, 2, 103, 104, 105, 106, 45, 107, 1, 108, 109, 110, 7, 111, 112, 113, 114, 115, 116, 117, 118, 44, 46, 119, 120, 121, 13, 122, 27, 52, 53, 54, 55, 24, 56, 57, 58, 59, 60, 61, 62, 63, 64, 65, 66, 26, 67, 68, 69, 70, 25, 51, 28, 17, 71, 72, 73, 74, 75, 76, 77, 78, 79, 80, 81, 82, 83, 84, 85, 86, 87, 88, 89, 90, 123, 124, 125, 126, 127, 128, 129, 130, 131, 140, 141, 142, 143, 144, 145, 146, 147, 148, 149, 150, 151, 152, 132, 133, 134, 135, 136, 137, 138, 139] (by decide +kernel) (by decide +kernel)
set_option maxRecDepth 20000 in
theorem gX6_settled_X6_isSettledLine : GoodIn wsX6_settled (wsV RX6 165 RX6 yX6_isSettledLine wsX6_isSettledLine) := goodIn_app (goodIn_of _ (by decide +kernel)) ggX6_settled_X6_isSettledLine
set_option maxRecDepth 20000 in
theorem ggX6_known_X2_hasLine : GoodIn wsX6_known wsX2_hasLine := goodIn_r _ [7, 8, 64, 65, 66, 67, 68, 69, 70, 71] (by decide +kernel) (by decide +kernel)
set_option maxRecDepth 20000 in
theorem gX6_known_X2_hasLine : GoodIn wsX6_known (wsV RX6 157 RX2 yX2_hasLine wsX2_hasLine) := goodIn_app (goodIn_of _ (by decide +kernel)) ggX6_known_X2_hasLine
set_option maxRecDepth 20000 in
theorem ggX6_known_X5_linesFromWays : GoodIn wsX6_known wsX5_linesFromWays := goodIn_r _ [13, 14, 15, 16, 17, 12, 18, 19, 20, 21, 22, 23, 24, 25, 26, 27, 28, 29, 30, 31, 32, 6, 33, 34, 35, 36, 37, 38, 39, 40, 41, 42, 43, 44, 45, 46, 47, 48, 49, 50, 51, 52, 53, 54, 55, 56, 57, 72, 73, 74, 75, 76, 77, 64, 65, 66, 67, 68, 69, 70, 71] (by decide +kernel) (by decide +kernel)
set_option maxRecDepth 20000 in
theorem gX6_known_X5_linesFromWays : GoodIn wsX6_known (wsV RX6 112 RX5 yX5_linesFromWays wsX5_linesFromWays) := goodIn_app (goodIn_of _ (by decide +kernel)) ggX6_known_X5_linesFromWays
set_option maxRecDepth 20000 in
theorem ggX6_known_X6_bitOf : GoodIn wsX6_known wsX6_bitOf := goodIn_r _ [37] (by decide +kernel) (by decide +kernel)
set_option maxRecDepth 20000 in
theorem gX6_known_X6_bitOf : GoodIn wsX6_known (va_wsS RX6 82 yX6_bitOf wsX6_bitOf) := goodIn_app (goodIn_of _ (by decide +kernel)) ggX6_known_X6_bitOf
set_option maxRecDepth 20000 in
theorem ggX6_group_X2_hasLine : GoodIn wsX6_group wsX2_hasLine := goodIn_r _ [6, 7, 27, 28, 29, 30, 31, 32, 33, 34] (by decide +kernel) (by decide +kernel)
set_option maxRecDepth 20000 in
theorem gX6_group_X2_hasLine : GoodIn wsX6_group (wsV RX6 157 RX2 yX2_hasLine wsX2_hasLine) := goodIn_app (goodIn_of _ (by decide +kernel)) ggX6_group_X2_hasLine
set_option maxRecDepth 20000 in
theorem ggX6_group_X2_linesAlike : GoodIn wsX6_group wsX2_linesAlike := goodIn_r _ [11, 7, 12, 13, 14, 15, 16, 5, 17, 18, 19, 20, 21, 27, 28, 29, 30, 31, 32, 33, 34] (by decide +kernel) (by decide +kernel)
set_option maxRecDepth 20000 in
theorem gX6_group_X2_linesAlike : GoodIn wsX6_group (wsV RX6 168 RX2 yX2_linesAlike wsX2_linesAlike) := goodIn_app (goodIn_of _ (by decide +kernel)) ggX6_group_X2_linesAlike
set_option maxRecDepth 20000 in
theorem ggX6_lying_X1_leastSets : GoodIn wsX6_lying wsX1_leastSets := goodIn_r _ [8, 9, 10, 11, 12, 13, 14, 15, 16, 17, 18, 19, 20, 21, 22, 23, 24, 25, 26, 27, 28, 29, 7, 30, 31, 32, 33, 34, 35, 36, 37, 38, 39, 40, 41, 42, 43, 44, 45, 46, 47, 48, 49, 50, 51, 52, 53, 54, 55, 56, 57, 58, 59, 60, 61, 62, 63, 64, 65, 66, 67, 68, 69, 70, 71, 72, 73, 74, 75, 76, 77, 78, 79, 80, 81, 82, 83, 84, 85, 86, 87, 88, 89, 90, 91, 92, 93, 94, 95, 96, 97, 98, 99, 100, 101, 102, 103, 104, 105, 106, 107, 108, 109, 110, 111, 112, 113, 114, 115, 116, 117, 118, 119, 120, 121, 122, 123, 124, 125, 126, 127, 128, 129, 130, 140, 141, 142, 143, 144, 145, 146, 147, 148, 149, 150, 151, 152, 153, 154, 155, 156, 157, 158, 159, 160, 161, 162, 163, 164, 165] (by decide +kernel) (by decide +kernel)
set_option maxRecDepth 20000 in
theorem gX6_lying_X1_leastSets : GoodIn wsX6_lying (wsV RX6 171 RX1 yX1_leastSets wsX1_leastSets) := goodIn_app (goodIn_of _ (by decide +kernel)) ggX6_lying_X1_leastSets
set_option maxRecDepth 20000 in
theorem ggX6_lying_X3_answer : GoodIn wsX6_lying wsX3_answer := goodIn_r _ [134, 19, 124, 151, 152] (by decide +kernel) (by decide +kernel)
set_option maxRecDepth 20000 in
theorem gX6_lying_X3_answer : GoodIn wsX6_lying (wsV RX6 175 RX3 yX3_answer wsX3_answer) := goodIn_app (goodIn_of _ (by decide +kernel)) ggX6_lying_X3_answer
set_option maxRecDepth 20000 in
theorem ggX6_offer_X2_isFilledLineSet : GoodIn wsX6_offer wsX2_isFilledLineSet := goodIn_r _ [7, 8, 9, 10, 6, 11, 12, 24, 25, 26, 27, 28, 29, 30, 31] (by decide +kernel) (by decide +kernel)
set_option maxRecDepth 20000 in
theorem gX6_offer_X2_isFilledLineSet : GoodIn wsX6_offer (wsV RX6 55 RX2 yX2_isFilledLineSet wsX2_isFilledLineSet) := goodIn_app (goodIn_of _ (by decide +kernel)) ggX6_offer_X2_isFilledLineSet
set_option maxRecDepth 20000 in
theorem ggX6_offer_X2_addOffer : GoodIn wsX6_offer wsX2_addOffer := goodIn_r _ [16, 17, 18, 24, 25, 26, 27, 28, 29, 30, 31] (by decide +kernel) (by decide +kernel)
set_option maxRecDepth 20000 in
theorem gX6_offer_X2_addOffer : GoodIn wsX6_offer (wsV RX6 180 RX2 yX2_addOffer wsX2_addOffer) := goodIn_app (goodIn_of _ (by decide +kernel)) ggX6_offer_X2_addOffer
set_option maxRecDepth 20000 in
theorem ggX6_offered_X2_hasOffer : GoodIn wsX6_offered wsX2_hasOffer := goodIn_r _ [7, 8, 23, 24, 25, 26, 27, 28, 29, 30] (by decide +kernel) (by decide +kernel)
set_option maxRecDepth 20000 in
theorem gX6_offered_X2_hasOffer : GoodIn wsX6_offered (wsV RX6 183 RX2 yX2_hasOffer wsX2_hasOffer) := goodIn_app (goodIn_of _ (by decide +kernel)) ggX6_offered_X2_hasOffer
set_option maxRecDepth 20000 in
theorem ggX6_offered_X2_isFilledLineSet : GoodIn wsX6_offered wsX2_isFilledLineSet := goodIn_r _ [12, 13, 14, 15, 6, 16, 17, 23, 24, 25, 26, 27, 28, 29, 30] (by decide +kernel) (by decide +kernel)
set_option maxRecDepth 20000 in
theorem gX6_offered_X2_isFilledLineSet : GoodIn wsX6_offered (wsV RX6 55 RX2 yX2_isFilledLineSet wsX2_isFilledLineSet) := goodIn_app (goodIn_of _ (by decide +kernel)) ggX6_offered_X2_isFilledLineSet
set_option maxRecDepth 20000 in
theorem ggX6_advice_X2_isLineSet : GoodIn wsX6_advice wsX2_isLineSet := goodIn_r _ [7, 8, 92, 93, 94, 95, 96, 97, 98, 99] (by decide +kernel) (by decide +kernel)
set_option maxRecDepth 20000 in
theorem gX6_advice_X2_isLineSet : GoodIn wsX6_advice (wsV RX6 125 RX2 yX2_isLineSet wsX2_isLineSet) := goodIn_app (goodIn_of _ (by decide +kernel)) ggX6_advice_X2_isLineSet
set_option maxRecDepth 20000 in
theorem ggX6_advice_X5_fewestOffers : GoodIn wsX6_advice wsX5_fewestOffers := goodIn_r _ [13, 14, 15, 16, 17, 18, 12, 19, 20, 21, 22, 23, 24, 25, 26, 27, 28, 29, 30, 31, 32, 33, 6, 34, 35, 36, 37, 38, 39, 40, 41, 42, 43, 44, 45, 46, 47, 48, 49, 50, 51, 52, 53, 54, 55, 56, 57, 58, 59, 60, 61, 62, 63, 64, 65, 66, 67, 68, 69, 70, 71, 72, 73, 74, 75, 76, 77, 78, 79, 80, 81, 82, 83, 84, 85, 86, 100, 101, 102, 103, 104, 105, 92, 93, 94, 95, 96, 97, 98, 99] (by decide +kernel) (by decide +kernel)
set_option maxRecDepth 20000 in
theorem gX6_advice_X5_fewestOffers : GoodIn wsX6_advice (wsV RX6 189 RX5 yX5_fewestOffers wsX5_fewestOffers) := goodIn_app (goodIn_of _ (by decide +kernel)) ggX6_advice_X5_fewestOffers
set_option maxRecDepth 20000 in
theorem ggX6_sick_X4_leastSets : GoodIn wsX6_sick wsX4_leastSets := goodIn_r _ [7, 8, 9, 10, 11, 12, 13, 14, 15, 16, 6, 17, 18, 19, 20, 21, 22, 23, 24, 25, 26, 27, 28, 29, 30, 31, 32, 33, 34, 35, 36, 37, 38, 39, 40, 41, 42, 43, 44, 45, 55, 56, 57, 58, 59, 60, 61, 62, 63, 64, 65] (by decide +kernel) (by decide +kernel)
set_option maxRecDepth 20000 in
theorem gX6_sick_X4_leastSets : GoodIn wsX6_sick (wsV RX6 193 RX4 yX4_leastSets wsX4_leastSets) := goodIn_app (goodIn_of _ (by decide +kernel)) ggX6_sick_X4_leastSets
set_option maxRecDepth 20000 in
theorem ggX6_sick_X3_answer : GoodIn wsX6_sick wsX3_answer := goodIn_r _ [49, 14, 45, 56, 57] (by decide +kernel) (by decide +kernel)
set_option maxRecDepth 20000 in
theorem gX6_sick_X3_answer : GoodIn wsX6_sick (wsV RX6 175 RX3 yX3_answer wsX3_answer) := goodIn_app (goodIn_of _ (by decide +kernel)) ggX6_sick_X3_answer
set_option maxRecDepth 20000 in
theorem ggX6_pair_X6_isPair : GoodIn wsX6_pair wsX6_isPair := goodIn_r _ [6, 7] (by decide +kernel) (by decide +kernel)
set_option maxRecDepth 20000 in
theorem gX6_pair_X6_isPair : GoodIn wsX6_pair (va_wsS RX6 196 yX6_isPair wsX6_isPair) := goodIn_app (goodIn_of _ (by decide +kernel)) ggX6_pair_X6_isPair
set_option maxRecDepth 20000 in
theorem ggX6_pair_X6_isZeroOrOne : GoodIn wsX6_pair wsX6_isZeroOrOne := goodIn_r _ [10] (by decide +kernel) (by decide +kernel)
set_option maxRecDepth 20000 in
theorem gX6_pair_X6_isZeroOrOne : GoodIn wsX6_pair (va_wsS RX6 128 yX6_isZeroOrOne wsX6_isZeroOrOne) := goodIn_app (goodIn_of _ (by decide +kernel)) ggX6_pair_X6_isZeroOrOne
set_option maxRecDepth 20000 in
theorem ggX6_pair_X6_partOfFraction : GoodIn wsX6_pair wsX6_partOfFraction := goodIn_r _ [13, 14, 15, 5, 16] (by decide +kernel) (by decide +kernel)
set_option maxRecDepth 20000 in
theorem gX6_pair_X6_partOfFraction : GoodIn wsX6_pair (va_wsS RX6 153 yX6_partOfFraction wsX6_partOfFraction) := goodIn_app (goodIn_of _ (by decide +kernel)) ggX6_pair_X6_partOfFraction
set_option maxRecDepth 20000 in
theorem ggX6_forgetAnswers_X0_forget : GoodIn wsX6_forgetAnswers wsX0_forget := goodIn_r _ [7, 8, 20, 21, 22, 23, 24, 25, 26, 27, 28, 29, 30, 31, 32] (by decide +kernel) (by decide +kernel)
set_option maxRecDepth 20000 in
theorem gX6_forgetAnswers_X0_forget : GoodIn wsX6_forgetAnswers (wsV RX6 200 RX0 yX0_forget wsX0_forget) := goodIn_app (goodIn_of _ (by decide +kernel)) ggX6_forgetAnswers_X0_forget
set_option maxRecDepth 20000 in
theorem ggX6_forgetAnswers_X1_forget : GoodIn wsX6_forgetAnswers wsX1_forget := goodIn_r _ [13, 14, 33, 34, 35] (by decide +kernel) (by decide +kernel)
set_option maxRecDepth 20000 in
theorem gX6_forgetAnswers_X1_forget : GoodIn wsX6_forgetAnswers (wsV RX6 203 RX1 yX1_forget wsX1_forget) := goodIn_app (goodIn_of _ (by decide +kernel)) ggX6_forgetAnswers_X1_forget
set_option maxRecDepth 20000 in
theorem ggX6_isEndless_X2_seenLines : GoodIn wsX6_isEndless wsX2_seenLines := goodIn_r _ [6, 7, 8, 9, 10, 11, 5, 12, 13, 14, 15, 16, 22, 23, 24, 25, 26, 27, 28, 29] (by decide +kernel) (by decide +kernel)
set_option maxRecDepth 20000 in
theorem gX6_isEndless_X2_seenLines : GoodIn wsX6_isEndless (wsV RX6 105 RX2 yX2_seenLines wsX2_seenLines) := goodIn_app (goodIn_of _ (by decide +kernel)) ggX6_isEndless_X2_seenLines
set_option maxRecDepth 20000 in
theorem ggX6_settledLines_X0_solve : GoodIn wsX6_settledLines wsX0_solve := goodIn_r _ [9, 10, 11, 12, 13, 14, 15, 16, 8, 17, 18, 19, 20, 21, 22, 23, 24, 25, 26, 27, 28, 29, 30, 31, 32, 33, 34, 35, 36, 37, 38, 39, 40, 41, 42, 43, 44, 45, 46, 47, 48, 49, 50, 51, 52, 53, 54, 55, 56, 57, 58, 59, 60, 61, 62, 63, 64, 65, 66, 67, 68, 69, 70, 71, 72, 73, 74, 75, 76, 77, 78, 79, 80, 81, 82, 83, 84, 85, 86, 87, 88, 89, 90, 91, 92, 93, 136, 137, 138, 139, 140, 141, 142, 143, 144, 145, 146, 147, 148, 128, 129, 130, 131, 132, 133, 134, 135] (by decide +kernel) (by decide +kernel)
set_option maxRecDepth 20000 in
theorem gX6_settledLines_X0_solve : GoodIn wsX6_settledLines (wsV RX6 121 RX0 yX0_solve wsX0_solve) := goodIn_app (goodIn_of _ (by decide +kernel)) ggX6_settledLines_X0_solve
set_option maxRecDepth 20000 in
theorem ggX6_settledLines_X6_isSettledLine : GoodIn wsX6_settledLines wsX6_isSettledLine := goodIn_r _ [97, 1, 98, 99, 100, 101, 40, 102, 2, 103, 104, 105, 106, 107, 108, 109, 110, 111, 112, 113, 114, 39, 41, 115, 116, 117, 8, 118, 22, 47, 48, 49, 50, 19, 51, 52, 53, 54, 55, 56, 57, 58, 59, 60, 61, 21, 62, 63, 64, 65, 20, 46, 23, 12, 66, 67, 68, 69, 70, 71, 72, 73, 74, 75, 76, 77, 78, 79, 80, 81, 82, 83, 84, 85, 119, 120, 121, 122, 123, 124, 125, 126, 127, 136, 137, 138, 139, 140, 141, 142, 143, 144, 145, 146, 147, 148, 128, 129, 130, 131, 132, 133, 134, 135] (by decide +kernel) (by decide +kernel)
set_option maxRecDepth 20000 in
theorem gX6_settledLines_X6_isSettledLine : GoodIn wsX6_settledLines (wsV RX6 165 RX6 yX6_isSettledLine wsX6_isSettledLine) := goodIn_app (goodIn_of _ (by decide +kernel)) ggX6_settledLines_X6_isSettledLine
set_option maxRecDepth 20000 in
theorem ggX6_isSettledLine_X6_isEndless : GoodIn wsX6_isSettledLine wsX6_isEndless := goodIn_r _ [7, 8, 9, 10, 11, 12, 13, 14, 15, 16, 17, 18, 19, 20, 21, 6, 22, 78, 79, 80, 81, 82, 96, 97, 98, 99, 100, 101, 102, 103] (by decide +kernel) (by decide +kernel)
set_option maxRecDepth 20000 in
theorem gX6_isSettledLine_X6_isEndless : GoodIn wsX6_isSettledLine (wsV RX6 135 RX6 yX6_isEndless wsX6_isEndless) := goodIn_app (goodIn_of _ (by decide +kernel)) ggX6_isSettledLine_X6_isEndless
set_option maxRecDepth 20000 in
theorem ggX6_isSettledLine_X0_goToEnd : GoodIn wsX6_isSettledLine wsX0_goToEnd := goodIn_r _ [27, 28, 29, 30, 31, 26, 32, 33, 34, 35, 21, 6, 22, 36, 37, 38, 39, 40, 41, 42, 43, 44, 45, 46, 47, 48, 49, 50, 51, 52, 53, 54, 55, 56, 57, 58, 59, 60, 61, 62, 63, 64, 65, 66, 67, 68, 69, 70, 71, 72, 73, 83, 84, 85, 86, 87, 88, 89, 90, 91, 92, 93, 94, 95] (by decide +kernel) (by decide +kernel)
set_option maxRecDepth 20000 in
theorem gX6_isSettledLine_X0_goToEnd : GoodIn wsX6_isSettledLine (wsV RX6 141 RX0 yX0_goToEnd wsX0_goToEnd) := goodIn_app (goodIn_of _ (by decide +kernel)) ggX6_isSettledLine_X0_goToEnd
set_option maxRecDepth 20000 in
theorem ggX6_isSettledLine_X0_upperOf : GoodIn wsX6_isSettledLine wsX0_upperOf := goodIn_r _ [77, 50, 51, 52, 53, 21, 6, 22, 83, 84, 85, 86, 87, 88, 89, 90, 91, 92, 93, 94, 95] (by decide +kernel) (by decide +kernel)
set_option maxRecDepth 20000 in
theorem gX6_isSettledLine_X0_upperOf : GoodIn wsX6_isSettledLine (wsV RX6 145 RX0 yX0_upperOf wsX0_upperOf) := goodIn_app (goodIn_of _ (by decide +kernel)) ggX6_isSettledLine_X0_upperOf
set_option maxRecDepth 20000 in
theorem ggX6_partOfFraction_X6_greatestDivisor : GoodIn wsX6_partOfFraction wsX6_greatestDivisor := goodIn_r _ [4] (by decide +kernel) (by decide +kernel)
set_option maxRecDepth 20000 in
theorem gX6_partOfFraction_X6_greatestDivisor : GoodIn wsX6_partOfFraction (va_wsS RX6 206 yX6_greatestDivisor wsX6_greatestDivisor) := goodIn_app (goodIn_of _ (by decide +kernel)) ggX6_partOfFraction_X6_greatestDivisor
set_option maxRecDepth 20000 in
theorem ggX7_noSet_X7_in : GoodIn wsX7_noSet wsX7_in := goodIn_r _ [5] (by decide +kernel) (by decide +kernel)
set_option maxRecDepth 20000 in
theorem gX7_noSet_X7_in : GoodIn wsX7_noSet (va_wsS RX7 46 yX7_in wsX7_in) := goodIn_app (goodIn_of _ (by decide +kernel)) ggX7_noSet_X7_in
set_option maxRecDepth 20000 in
theorem ggX7_lines_X7_in : GoodIn wsX7_lines wsX7_in := goodIn_r _ [8] (by decide +kernel) (by decide +kernel)
set_option maxRecDepth 20000 in
theorem gX7_lines_X7_in : GoodIn wsX7_lines (va_wsS RX7 46 yX7_in wsX7_in) := goodIn_app (goodIn_of _ (by decide +kernel)) ggX7_lines_X7_in
set_option maxRecDepth 20000 in
theorem ggX7_way_X7_noSet : GoodIn wsX7_way wsX7_noSet := goodIn_r _ [11, 12, 13, 14, 10, 15, 16, 17, 18, 19, 20, 21, 22, 23, 24, 25, 26, 27, 28, 29, 30, 31, 32, 33] (by decide +kernel) (by decide +kernel)
set_option maxRecDepth 20000 in
theorem gX7_way_X7_noSet : GoodIn wsX7_way (wsV RX7 58 RX7 yX7_noSet wsX7_noSet) := goodIn_app (goodIn_of _ (by decide +kernel)) ggX7_way_X7_noSet
set_option maxRecDepth 20000 in
theorem ggX7_way_X7_in : GoodIn wsX7_way wsX7_in := goodIn_r _ [15] (by decide +kernel) (by decide +kernel)
set_option maxRecDepth 20000 in
theorem gX7_way_X7_in : GoodIn wsX7_way (va_wsS RX7 46 yX7_in wsX7_in) := goodIn_app (goodIn_of _ (by decide +kernel)) ggX7_way_X7_in
set_option maxRecDepth 20000 in
theorem ggX7_noWay_X7_in : GoodIn wsX7_noWay wsX7_in := goodIn_r _ [5] (by decide +kernel) (by decide +kernel)
set_option maxRecDepth 20000 in
theorem gX7_noWay_X7_in : GoodIn wsX7_noWay (va_wsS RX7 46 yX7_in wsX7_in) := goodIn_app (goodIn_of _ (by decide +kernel)) ggX7_noWay_X7_in
set_option maxRecDepth 20000 in
theorem ggX7_sum_X7_noWay : GoodIn wsX7_sum wsX7_noWay := goodIn_r _ [7, 8, 9, 10, 6, 11, 12, 13, 14, 15, 16, 17, 18, 19, 20, 21, 22, 23, 24, 25, 26, 27, 28, 29] (by decide +kernel) (by decide +kernel)
set_option maxRecDepth 20000 in
theorem gX7_sum_X7_noWay : GoodIn wsX7_sum (wsV RX7 64 RX7 yX7_noWay wsX7_noWay) := goodIn_app (goodIn_of _ (by decide +kernel)) ggX7_sum_X7_noWay
set_option maxRecDepth 20000 in
theorem ggX7_sum_X7_in : GoodIn wsX7_sum wsX7_in := goodIn_r _ [11] (by decide +kernel) (by decide +kernel)
set_option maxRecDepth 20000 in
theorem gX7_sum_X7_in : GoodIn wsX7_sum (va_wsS RX7 46 yX7_in wsX7_in) := goodIn_app (goodIn_of _ (by decide +kernel)) ggX7_sum_X7_in
set_option maxRecDepth 20000 in
theorem ggX7_over_X7_noWay : GoodIn wsX7_over wsX7_noWay := goodIn_r _ [6, 7, 8, 9, 5, 10, 16, 17, 18, 19, 20, 21, 22, 23, 24, 25, 26, 27, 28, 29, 30, 31, 32, 33] (by decide +kernel) (by decide +kernel)
set_option maxRecDepth 20000 in
theorem gX7_over_X7_noWay : GoodIn wsX7_over (wsV RX7 64 RX7 yX7_noWay wsX7_noWay) := goodIn_app (goodIn_of _ (by decide +kernel)) ggX7_over_X7_noWay
set_option maxRecDepth 20000 in
theorem ggX7_over_X7_noSet : GoodIn wsX7_over wsX7_noSet := goodIn_r _ [14, 15, 8, 9, 5, 10, 16, 17, 18, 19, 20, 21, 22, 23, 24, 25, 26, 27, 28, 29, 30, 31, 32, 33] (by decide +kernel) (by decide +kernel)
set_option maxRecDepth 20000 in
theorem gX7_over_X7_noSet : GoodIn wsX7_over (wsV RX7 58 RX7 yX7_noSet wsX7_noSet) := goodIn_app (goodIn_of _ (by decide +kernel)) ggX7_over_X7_noSet
set_option maxRecDepth 20000 in
theorem ggX7_on_X7_noWay : GoodIn wsX7_on wsX7_noWay := goodIn_r _ [6, 7, 8, 9, 5, 10, 11, 12, 13, 14, 15, 16, 17, 18, 19, 20, 21, 22, 23, 24, 25, 26, 27, 28] (by decide +kernel) (by decide +kernel)
set_option maxRecDepth 20000 in
theorem gX7_on_X7_noWay : GoodIn wsX7_on (wsV RX7 64 RX7 yX7_noWay wsX7_noWay) := goodIn_app (goodIn_of _ (by decide +kernel)) ggX7_on_X7_noWay
set_option maxRecDepth 20000 in
theorem ggX7_bad_X7_noWay : GoodIn wsX7_bad wsX7_noWay := goodIn_r _ [6, 7, 8, 9, 5, 10, 11, 12, 13, 14, 15, 16, 17, 18, 19, 20, 21, 22, 23, 24, 25, 26, 27, 28] (by decide +kernel) (by decide +kernel)
set_option maxRecDepth 20000 in
theorem gX7_bad_X7_noWay : GoodIn wsX7_bad (wsV RX7 64 RX7 yX7_noWay wsX7_noWay) := goodIn_app (goodIn_of _ (by decide +kernel)) ggX7_bad_X7_noWay
set_option maxRecDepth 20000 in
theorem ggX7_told_X7_noWay : GoodIn wsX7_told wsX7_noWay := goodIn_r _ [9, 10, 11, 12, 8, 13, 14, 15, 16, 17, 18, 19, 20, 21, 22, 23, 24, 25, 26, 27, 28, 29, 30, 31] (by decide +kernel) (by decide +kernel)
set_option maxRecDepth 20000 in
theorem gX7_told_X7_noWay : GoodIn wsX7_told (wsV RX7 64 RX7 yX7_noWay wsX7_noWay) := goodIn_app (goodIn_of _ (by decide +kernel)) ggX7_told_X7_noWay
set_option maxRecDepth 20000 in
theorem ggX7_rank_X7_addRow : GoodIn wsX7_rank wsX7_addRow := goodIn_r _ [12, 7, 13, 1, 26, 27, 28, 29, 30, 31, 32, 33, 34, 35, 36, 37, 38, 39, 40, 41, 42, 43] (by decide +kernel) (by decide +kernel)
set_option maxRecDepth 20000 in
theorem gX7_rank_X7_addRow : GoodIn wsX7_rank (wsV RX7 75 RX7 yX7_addRow wsX7_addRow) := goodIn_app (goodIn_of _ (by decide +kernel)) ggX7_rank_X7_addRow
set_option maxRecDepth 20000 in
theorem ggX7_rank_X7_findRow : GoodIn wsX7_rank wsX7_findRow := goodIn_r _ [17, 1, 13, 26, 27, 28, 29, 30, 31, 32, 33, 34, 35, 36, 37, 38, 39, 40, 41, 42, 43] (by decide +kernel) (by decide +kernel)
set_option maxRecDepth 20000 in
theorem gX7_rank_X7_findRow : GoodIn wsX7_rank (wsV RX7 79 RX7 yX7_findRow wsX7_findRow) := goodIn_app (goodIn_of _ (by decide +kernel)) ggX7_rank_X7_findRow
set_option maxRecDepth 20000 in
theorem ggX7_rank_X7_swap : GoodIn wsX7_rank wsX7_swap := goodIn_r _ [21, 13, 26, 27, 28, 29, 30, 31, 32, 33, 34, 35, 36, 37, 38, 39, 40, 41, 42, 43] (by decide +kernel) (by decide +kernel)
set_option maxRecDepth 20000 in
theorem gX7_rank_X7_swap : GoodIn wsX7_rank (wsV RX7 83 RX7 yX7_swap wsX7_swap) := goodIn_app (goodIn_of _ (by decide +kernel)) ggX7_rank_X7_swap
set_option maxRecDepth 20000 in
theorem ggX7_rank_X7_pivot : GoodIn wsX7_rank wsX7_pivot := goodIn_r _ [25, 13, 1, 6, 26, 27, 28, 29, 30, 31, 32, 33, 34, 35, 36, 37, 38, 39, 40, 41, 42, 43] (by decide +kernel) (by decide +kernel)
set_option maxRecDepth 20000 in
theorem gX7_rank_X7_pivot : GoodIn wsX7_rank (wsV RX7 87 RX7 yX7_pivot wsX7_pivot) := goodIn_app (goodIn_of _ (by decide +kernel)) ggX7_rank_X7_pivot
set_option maxRecDepth 20000 in
theorem ggX7_isKnown_X7_onSet : GoodIn wsX7_isKnown wsX7_onSet := goodIn_r _ [5, 6, 7, 35, 36, 37, 38, 39, 40, 41, 42, 43, 44, 45, 46, 47, 48, 49, 50, 51, 52] (by decide +kernel) (by decide +kernel)
set_option maxRecDepth 20000 in
theorem gX7_isKnown_X7_onSet : GoodIn wsX7_isKnown (wsV RX7 90 RX7 yX7_onSet wsX7_onSet) := goodIn_app (goodIn_of _ (by decide +kernel)) ggX7_isKnown_X7_onSet
set_option maxRecDepth 20000 in
theorem ggX7_isKnown_X7_rank : GoodIn wsX7_isKnown wsX7_rank := goodIn_r _ [11, 12, 6, 13, 14, 15, 16, 17, 18, 19, 20, 4, 21, 22, 23, 24, 25, 26, 27, 28, 29, 30, 31, 32, 33, 34, 35, 36, 37, 38, 39, 40, 41, 42, 43, 44, 45, 46, 47, 48, 49, 50, 51, 52] (by decide +kernel) (by decide +kernel)
set_option maxRecDepth 20000 in
theorem gX7_isKnown_X7_rank : GoodIn wsX7_isKnown (wsV RX7 94 RX7 yX7_rank wsX7_rank) := goodIn_app (goodIn_of _ (by decide +kernel)) ggX7_isKnown_X7_rank
set_option maxRecDepth 20000 in
theorem ggX7_doFit_X7_bits : GoodIn wsX7_doFit wsX7_bits := goodIn_r _ [12] (by decide +kernel) (by decide +kernel)
set_option maxRecDepth 20000 in
theorem gX7_doFit_X7_bits : GoodIn wsX7_doFit (va_wsS RX7 98 yX7_bits wsX7_bits) := goodIn_app (goodIn_of _ (by decide +kernel)) ggX7_doFit_X7_bits
set_option maxRecDepth 20000 in
theorem ggX7_doFit_X7_enter : GoodIn wsX7_doFit wsX7_enter := goodIn_r _ [16, 2, 4, 25, 26, 27, 28, 29, 30, 31, 32, 33, 34, 35, 36, 37, 38, 39, 40, 41, 42] (by decide +kernel) (by decide +kernel)
set_option maxRecDepth 20000 in
theorem gX7_doFit_X7_enter : GoodIn wsX7_doFit (wsV RX7 102 RX7 yX7_enter wsX7_enter) := goodIn_app (goodIn_of _ (by decide +kernel)) ggX7_doFit_X7_enter
set_option maxRecDepth 20000 in
theorem ggX7_doFit_X7_leave : GoodIn wsX7_doFit wsX7_leave := goodIn_r _ [20, 4, 7, 25, 26, 27, 28, 29, 30, 31, 32, 33, 34, 35, 36, 37, 38, 39, 40, 41, 42] (by decide +kernel) (by decide +kernel)
set_option maxRecDepth 20000 in
theorem gX7_doFit_X7_leave : GoodIn wsX7_doFit (wsV RX7 105 RX7 yX7_leave wsX7_leave) := goodIn_app (goodIn_of _ (by decide +kernel)) ggX7_doFit_X7_leave
set_option maxRecDepth 20000 in
theorem ggX7_doFit_X7_pivot : GoodIn wsX7_doFit wsX7_pivot := goodIn_r _ [24, 4, 1, 8, 25, 26, 27, 28, 29, 30, 31, 32, 33, 34, 35, 36, 37, 38, 39, 40, 41, 42] (by decide +kernel) (by decide +kernel)
set_option maxRecDepth 20000 in
theorem gX7_doFit_X7_pivot : GoodIn wsX7_doFit (wsV RX7 87 RX7 yX7_pivot wsX7_pivot) := goodIn_app (goodIn_of _ (by decide +kernel)) ggX7_doFit_X7_pivot
set_option maxRecDepth 20000 in
theorem ggX7_fits_X7_onSet : GoodIn wsX7_fits wsX7_onSet := goodIn_r _ [5, 6, 7, 34, 35, 36, 37, 38, 39, 40, 41, 42, 43, 44, 45, 46, 47, 48, 49, 50, 51] (by decide +kernel) (by decide +kernel)
set_option maxRecDepth 20000 in
theorem gX7_fits_X7_onSet : GoodIn wsX7_fits (wsV RX7 90 RX7 yX7_onSet wsX7_onSet) := goodIn_app (goodIn_of _ (by decide +kernel)) ggX7_fits_X7_onSet
set_option maxRecDepth 20000 in
theorem ggX7_fits_X7_doFit : GoodIn wsX7_fits wsX7_doFit := goodIn_r _ [11, 12, 13, 6, 14, 15, 16, 17, 18, 19, 20, 4, 21, 22, 23, 24, 25, 26, 27, 28, 29, 30, 31, 32, 33, 34, 35, 36, 37, 38, 39, 40, 41, 42, 43, 44, 45, 46, 47, 48, 49, 50, 51] (by decide +kernel) (by decide +kernel)
set_option maxRecDepth 20000 in
theorem gX7_fits_X7_doFit : GoodIn wsX7_fits (wsV RX7 108 RX7 yX7_doFit wsX7_doFit) := goodIn_app (goodIn_of _ (by decide +kernel)) ggX7_fits_X7_doFit
set_option maxRecDepth 20000 in
theorem ggX7_tries_X7_bits : GoodIn wsX7_tries wsX7_bits := goodIn_r _ [15] (by decide +kernel) (by decide +kernel)
set_option maxRecDepth 20000 in
theorem gX7_tries_X7_bits : GoodIn wsX7_tries (va_wsS RX7 98 yX7_bits wsX7_bits) := goodIn_app (goodIn_of _ (by decide +kernel)) ggX7_tries_X7_bits
set_option maxRecDepth 20000 in
theorem ggX7_tries_X7_findRow : GoodIn wsX7_tries wsX7_findRow := goodIn_r _ [19, 1, 5, 28, 29, 30, 31, 32, 33, 34, 35, 36, 37, 38, 39, 40, 41, 42, 43, 44, 45] (by decide +kernel) (by decide +kernel)
set_option maxRecDepth 20000 in
theorem gX7_tries_X7_findRow : GoodIn wsX7_tries (wsV RX7 79 RX7 yX7_findRow wsX7_findRow) := goodIn_app (goodIn_of _ (by decide +kernel)) ggX7_tries_X7_findRow
set_option maxRecDepth 20000 in
theorem ggX7_tries_X7_swap : GoodIn wsX7_tries wsX7_swap := goodIn_r _ [23, 5, 28, 29, 30, 31, 32, 33, 34, 35, 36, 37, 38, 39, 40, 41, 42, 43, 44, 45] (by decide +kernel) (by decide +kernel)
set_option maxRecDepth 20000 in
theorem gX7_tries_X7_swap : GoodIn wsX7_tries (wsV RX7 83 RX7 yX7_swap wsX7_swap) := goodIn_app (goodIn_of _ (by decide +kernel)) ggX7_tries_X7_swap
