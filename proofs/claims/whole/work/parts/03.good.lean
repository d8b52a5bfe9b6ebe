set_option maxRecDepth 40000 in
theorem gw_X1_partAt : wsX1_partAt.all goodWord = true := rfl
set_option maxRecDepth 40000 in
theorem gg_X0_allowHead_X1_partAt : GoodIn wsX0_allowHead wsX1_partAt := goodIn_r _ [8, 9, 12, 13, 14, 15, 16, 17, 18, 19, 20] rfl gw_X1_partAt
set_option maxRecDepth 40000 in
theorem gX0_allowHead_X1_partAt : GoodIn wsX0_allowHead (wsV RX0 24 RX1 yX1_partAt wsX1_partAt) := goodIn_app (goodIn_r _ [4, 5, 6, 7] rfl rfl) gg_X0_allowHead_X1_partAt
set_option maxRecDepth 40000 in
theorem gg_X0_passHead_X1_partAt : GoodIn wsX0_passHead wsX1_partAt := goodIn_r _ [8, 9, 12, 13, 14, 15, 16, 17, 18, 19, 20] rfl gw_X1_partAt
set_option maxRecDepth 40000 in
theorem gX0_passHead_X1_partAt : GoodIn wsX0_passHead (wsV RX0 24 RX1 yX1_partAt wsX1_partAt) := goodIn_app (goodIn_r _ [4, 5, 6, 7] rfl rfl) gg_X0_passHead_X1_partAt
set_option maxRecDepth 40000 in
theorem gw_X7_isWithin : wsX7_isWithin.all goodWord = true := rfl
set_option maxRecDepth 40000 in
theorem gg_X1_has_X7_isWithin : GoodIn wsX1_has wsX7_isWithin := goodIn_r _ [4] rfl gw_X7_isWithin
theorem gX1_has_X7_isWithin_n41 : GoodIn wsX1_has (wsX7_isWithin) := gg_X1_has_X7_isWithin
set_option maxRecDepth 40000 in
theorem gw_X7_countParts : wsX7_countParts.all goodWord = true := rfl
set_option maxRecDepth 40000 in
theorem gg_X1_putSizeAndNumbers_X7_countParts : GoodIn wsX1_putSizeAndNumbers wsX7_countParts := goodIn_r _ [6] rfl gw_X7_countParts
theorem gX1_putSizeAndNumbers_X7_countParts_n45 : GoodIn wsX1_putSizeAndNumbers (wsX7_countParts) := gg_X1_putSizeAndNumbers_X7_countParts
set_option maxRecDepth 40000 in
theorem gw_X1_areAlike : wsX1_areAlike.all goodWord = true := rfl
set_option maxRecDepth 40000 in
theorem gg_X1_isRunning_X1_areAlike : GoodIn wsX1_isRunning wsX1_areAlike := goodIn_r _ [9, 10, 1, 2, 11, 12, 13, 14, 15, 16, 17, 18, 19] rfl gw_X1_areAlike
set_option maxRecDepth 40000 in
theorem gX1_isRunning_X1_areAlike : GoodIn wsX1_isRunning (wsV RX1 49 RX1 yX1_areAlike wsX1_areAlike) := goodIn_app (goodIn_r _ [5, 6, 7, 8] rfl rfl) gg_X1_isRunning_X1_areAlike
set_option maxRecDepth 40000 in
theorem gw_X2_gatherHeads : wsX2_gatherHeads.all goodWord = true := rfl
set_option maxRecDepth 40000 in
theorem gg_X2_hold_X2_gatherHeads : GoodIn wsX2_hold wsX2_gatherHeads := goodIn_r _ [9, 2, 10, 11, 12, 13, 14, 58, 59, 60, 61, 62, 63, 64, 65, 66, 67, 68, 69, 70, 71, 72, 73, 74, 75, 76, 77, 78, 79, 80, 81, 82, 83, 84, 85, 86, 87, 88, 89, 90, 91, 92, 93, 94, 95, 96] rfl gw_X2_gatherHeads
set_option maxRecDepth 40000 in
theorem gX2_hold_X2_gatherHeads : GoodIn wsX2_hold (wsV RX2 62 RX2 yX2_gatherHeads wsX2_gatherHeads) := goodIn_app (goodIn_r _ [5, 6, 7, 8] rfl rfl) gg_X2_hold_X2_gatherHeads
set_option maxRecDepth 40000 in
theorem gw_X2_leastFrom : wsX2_leastFrom.all goodWord = true := rfl
set_option maxRecDepth 40000 in
theorem gg_X2_hold_X2_leastFrom : GoodIn wsX2_hold wsX2_leastFrom := goodIn_r _ [18, 19, 20, 1, 2, 3, 21, 22, 23, 24, 25, 26, 27, 8, 28, 14, 29, 10, 30, 31, 32, 33, 12, 13, 34, 35, 36, 37, 38, 39, 40, 41, 42, 43, 58, 59, 60, 61, 62, 63, 64, 65, 66, 67, 68, 69, 70, 71, 72, 97, 98, 99, 73, 74, 75, 76, 77, 78, 79, 80, 81, 82, 83, 84, 85, 86, 87, 88, 89, 90, 91, 92, 93, 94, 95, 96, 100, 101] rfl gw_X2_leastFrom
set_option maxRecDepth 40000 in
theorem gX2_hold_X2_leastFrom : GoodIn wsX2_hold (wsV RX2 65 RX2 yX2_leastFrom wsX2_leastFrom) := goodIn_app (goodIn_r _ [15, 16, 17, 8] rfl rfl) gg_X2_hold_X2_leastFrom
set_option maxRecDepth 40000 in
theorem gw_X2_tellPartners : wsX2_tellPartners.all goodWord = true := rfl
set_option maxRecDepth 40000 in
theorem gg_X2_hold_X2_tellPartners : GoodIn wsX2_hold wsX2_tellPartners := goodIn_r _ [47, 48, 49, 1, 14, 50, 51, 52, 53, 54, 55, 56, 8, 57, 3, 2, 19, 20, 25, 26, 27, 28, 29, 10, 30, 31, 32, 33, 12, 13, 34, 35, 23, 36, 37, 38, 39, 40, 41, 42, 43, 58, 59, 60, 61, 62, 63, 64, 65, 66, 67, 68, 69, 70, 71, 72, 97, 98, 99, 73, 74, 75, 76, 77, 78, 79, 80, 81, 82, 83, 84, 85, 86, 87, 88, 89, 90, 91, 92, 93, 94, 95, 96, 100, 101] rfl gw_X2_tellPartners
set_option maxRecDepth 40000 in
theorem gX2_hold_X2_tellPartners : GoodIn wsX2_hold (wsV RX2 69 RX2 yX2_tellPartners wsX2_tellPartners) := goodIn_app (goodIn_r _ [44, 45, 46, 8] rfl rfl) gg_X2_hold_X2_tellPartners
set_option maxRecDepth 40000 in
theorem gw_X2_pairCost : wsX2_pairCost.all goodWord = true := rfl
set_option maxRecDepth 40000 in
theorem gg_X2_leastFrom_X2_pairCost : GoodIn wsX2_leastFrom wsX2_pairCost := goodIn_r _ [14, 15, 16, 17, 18, 19, 20, 21, 22, 23, 24, 25, 8, 26, 27, 28, 29, 30, 1, 2, 31, 32, 13, 33, 34, 35, 36, 37, 38, 39, 40, 41, 42, 43, 44, 45, 46, 47, 48, 52, 53, 54, 55, 56, 57, 58, 59, 60, 61, 62, 63, 64, 65, 66, 67, 68, 69, 70, 71, 72, 73, 74, 75, 76, 77, 49, 50, 51] rfl gw_X2_pairCost
set_option maxRecDepth 40000 in
theorem gX2_leastFrom_X2_pairCost : GoodIn wsX2_leastFrom (wsV RX2 90 RX2 yX2_pairCost wsX2_pairCost) := goodIn_app (goodIn_r _ [10, 11, 12, 13] rfl rfl) gg_X2_leastFrom_X2_pairCost
set_option maxRecDepth 40000 in
theorem gw_X2_unlikePlaces : wsX2_unlikePlaces.all goodWord = true := rfl
set_option maxRecDepth 40000 in
theorem gg_X2_pairCost_X2_unlikePlaces : GoodIn wsX2_pairCost wsX2_unlikePlaces := goodIn_r _ [23] rfl gw_X2_unlikePlaces
set_option maxRecDepth 40000 in
theorem gX2_pairCost_X2_unlikePlaces : GoodIn wsX2_pairCost (va_wsS RX2 94 yX2_unlikePlaces wsX2_unlikePlaces) := goodIn_app (goodIn_r _ [20, 21, 22] rfl rfl) gg_X2_pairCost_X2_unlikePlaces
set_option maxRecDepth 40000 in
theorem gw_J7_fill_53178 : wsJ7_fill_53178.all goodWord = true := rfl
set_option maxRecDepth 40000 in
theorem gg_X2_tellPartners_J7_fill_53178 : GoodIn wsX2_tellPartners wsJ7_fill_53178 := goodIn_r _ [8] rfl gw_J7_fill_53178
set_option maxRecDepth 40000 in
theorem gX2_tellPartners_J7_fill_53178 : GoodIn wsX2_tellPartners (va_wsS RX2 110 yJ7_fill_53178 wsJ7_fill_53178) := goodIn_app (goodIn_r _ [5, 6, 7] rfl rfl) gg_X2_tellPartners_J7_fill_53178
set_option maxRecDepth 40000 in
theorem gw_X2_firstCheapHead : wsX2_firstCheapHead.all goodWord = true := rfl
set_option maxRecDepth 40000 in
theorem gg_X2_tellPartners_X2_firstCheapHead : GoodIn wsX2_tellPartners wsX2_firstCheapHead := goodIn_r _ [13, 14, 15, 16, 17, 18, 19, 20, 12, 21, 4, 22, 23, 24, 25, 26, 27, 28, 29, 30, 31, 32, 33, 34, 35, 36, 37, 38, 39, 40, 41, 42, 43, 44, 45, 46, 47, 48, 49, 50, 51, 52, 53, 54, 55, 56, 57, 58, 59, 60, 61, 62, 63, 64, 65, 66, 67, 68, 69, 70, 71, 72, 73, 74, 75, 76, 77, 78, 79, 80, 81, 82, 83, 84] rfl gw_X2_firstCheapHead
set_option maxRecDepth 40000 in
theorem gX2_tellPartners_X2_firstCheapHead : GoodIn wsX2_tellPartners (wsV RX2 116 RX2 yX2_firstCheapHead wsX2_firstCheapHead) := goodIn_app (goodIn_r _ [9, 10, 11, 12] rfl rfl) gg_X2_tellPartners_X2_firstCheapHead
set_option maxRecDepth 40000 in
theorem gg_X2_firstCheapHead_X2_pairCost : GoodIn wsX2_firstCheapHead wsX2_pairCost := goodIn_r _ [9, 10, 11, 12, 13, 14, 15, 16, 17, 18, 19, 20, 21, 22, 23, 24, 25, 26, 3, 4, 27, 28, 8, 29, 30, 31, 32, 33, 34, 35, 36, 37, 38, 39, 40, 41, 42, 43, 44, 48, 49, 50, 51, 52, 53, 54, 55, 56, 57, 58, 59, 60, 61, 62, 63, 64, 65, 66, 67, 68, 69, 70, 71, 72, 73, 45, 46, 47] rfl gw_X2_pairCost
set_option maxRecDepth 40000 in
theorem gX2_firstCheapHead_X2_pairCost : GoodIn wsX2_firstCheapHead (wsV RX2 90 RX2 yX2_pairCost wsX2_pairCost) := goodIn_app (goodIn_r _ [5, 6, 7, 8] rfl rfl) gg_X2_firstCheapHead_X2_pairCost
set_option maxRecDepth 40000 in
theorem gg_X3_begin_J7_fill_53178 : GoodIn wsX3_begin wsJ7_fill_53178 := goodIn_r _ [6] rfl gw_J7_fill_53178
set_option maxRecDepth 40000 in
theorem gX3_begin_J7_fill_53178 : GoodIn wsX3_begin (va_wsS RX3 19 yJ7_fill_53178 wsJ7_fill_53178) := goodIn_app (goodIn_r _ [3, 4, 5] rfl rfl) gg_X3_begin_J7_fill_53178
set_option maxRecDepth 40000 in
theorem gg_X3_has_X7_isWithin : GoodIn wsX3_has wsX7_isWithin := goodIn_r _ [4] rfl gw_X7_isWithin
theorem gX3_has_X7_isWithin_n25 : GoodIn wsX3_has (wsX7_isWithin) := gg_X3_has_X7_isWithin
set_option maxRecDepth 40000 in
theorem gw_X5_findFirstSpan : wsX5_findFirstSpan.all goodWord = true := rfl
set_option maxRecDepth 40000 in
theorem gg_X5_explain_X5_findFirstSpan : GoodIn wsX5_explain wsX5_findFirstSpan := goodIn_r _ [10, 11, 12, 1, 13, 2, 3, 14, 15, 16, 17, 18, 19, 20, 21, 22, 9, 23, 24, 25, 26, 27, 28, 48, 49, 50, 51, 52, 53, 54, 55, 56, 57, 60, 61, 62, 58, 59] rfl gw_X5_findFirstSpan
set_option maxRecDepth 40000 in
theorem gX5_explain_X5_findFirstSpan : GoodIn wsX5_explain (wsV RX5 50 RX5 yX5_findFirstSpan wsX5_findFirstSpan) := goodIn_app (goodIn_r _ [6, 7, 8, 9] rfl rfl) gg_X5_explain_X5_findFirstSpan
set_option maxRecDepth 40000 in
theorem gw_X5_forgetTimes : wsX5_forgetTimes.all goodWord = true := rfl
set_option maxRecDepth 40000 in
theorem gg_X5_explain_X5_forgetTimes : GoodIn wsX5_explain wsX5_forgetTimes := goodIn_r _ [32, 24, 25, 26, 27, 9, 28, 2, 14, 48, 49, 50, 51, 52, 53, 54, 55, 56, 57, 58, 59] rfl gw_X5_forgetTimes
set_option maxRecDepth 40000 in
theorem gX5_explain_X5_forgetTimes : GoodIn wsX5_explain (wsV RX5 54 RX5 yX5_forgetTimes wsX5_forgetTimes) := goodIn_app (goodIn_r _ [29, 30, 31, 9] rfl rfl) gg_X5_explain_X5_forgetTimes
set_option maxRecDepth 40000 in
theorem gw_X5_tellSpans : wsX5_tellSpans.all goodWord = true := rfl
set_option maxRecDepth 40000 in
theorem gg_X5_explain_X5_tellSpans : GoodIn wsX5_explain wsX5_tellSpans := goodIn_r _ [36, 37, 2, 3, 19, 38, 39, 40, 41, 42, 9, 43, 14, 20, 21, 22, 23, 24, 25, 26, 27, 28, 29, 30, 31, 32, 44, 45, 46, 47, 48, 49, 50, 51, 52, 53, 54, 55, 56, 57, 58, 59] rfl gw_X5_tellSpans
set_option maxRecDepth 40000 in
theorem gX5_explain_X5_tellSpans : GoodIn wsX5_explain (wsV RX5 58 RX5 yX5_tellSpans wsX5_tellSpans) := goodIn_app (goodIn_r _ [33, 34, 35, 9] rfl rfl) gg_X5_explain_X5_tellSpans
set_option maxRecDepth 40000 in
theorem gw_X5_addTime : wsX5_addTime.all goodWord = true := rfl
set_option maxRecDepth 40000 in
theorem gg_X5_findFirstSpan_X5_addTime : GoodIn wsX5_findFirstSpan wsX5_addTime := goodIn_r _ [17, 18, 19, 20, 21, 16, 22, 5, 7, 23, 24, 25, 26, 27, 28, 29, 30, 31, 32, 36, 37] rfl gw_X5_addTime
set_option maxRecDepth 40000 in
theorem gX5_findFirstSpan_X5_addTime : GoodIn wsX5_findFirstSpan (wsV RX5 70 RX5 yX5_addTime wsX5_addTime) := goodIn_app (goodIn_r _ [13, 14, 15, 16] rfl rfl) gg_X5_findFirstSpan_X5_addTime
set_option maxRecDepth 40000 in
theorem gw_X5_shiftPlace : wsX5_shiftPlace.all goodWord = true := rfl
set_option maxRecDepth 40000 in
theorem gg_X5_addTime_X5_shiftPlace : GoodIn wsX5_addTime wsX5_shiftPlace := goodIn_r _ [6, 7, 8, 9, 10, 11, 12, 13, 14, 15, 16, 17, 18, 19, 20] rfl gw_X5_shiftPlace
set_option maxRecDepth 40000 in
theorem gX5_addTime_X5_shiftPlace : GoodIn wsX5_addTime (wsV RX5 80 RX5 yX5_shiftPlace wsX5_shiftPlace) := goodIn_app (goodIn_r _ [2, 3, 4, 5] rfl rfl) gg_X5_addTime_X5_shiftPlace
set_option maxRecDepth 40000 in
theorem gg_X5_forgetTimes_X5_shiftPlace : GoodIn wsX5_forgetTimes wsX5_shiftPlace := goodIn_r _ [6, 7, 8, 9, 10, 11, 12, 13, 14, 15, 16, 17, 18, 19, 20] rfl gw_X5_shiftPlace
set_option maxRecDepth 40000 in
theorem gX5_forgetTimes_X5_shiftPlace : GoodIn wsX5_forgetTimes (wsV RX5 80 RX5 yX5_shiftPlace wsX5_shiftPlace) := goodIn_app (goodIn_r _ [2, 3, 4, 5] rfl rfl) gg_X5_forgetTimes_X5_shiftPlace
set_option maxRecDepth 40000 in
theorem gw_X5_bestShift : wsX5_bestShift.all goodWord = true := rfl
set_option maxRecDepth 40000 in
theorem gg_X5_tellSpans_X5_bestShift : GoodIn wsX5_tellSpans wsX5_bestShift := goodIn_r _ [11, 2, 12, 13, 14, 15, 10, 16, 17, 18, 19, 20, 21, 22, 23, 24, 25, 30, 31, 32, 33, 34, 35, 36, 37, 38, 39, 40, 41] rfl gw_X5_bestShift
set_option maxRecDepth 40000 in
theorem gX5_tellSpans_X5_bestShift : GoodIn wsX5_tellSpans (wsV RX5 83 RX5 yX5_bestShift wsX5_bestShift) := goodIn_app (goodIn_r _ [7, 8, 9, 10] rfl rfl) gg_X5_tellSpans_X5_bestShift
set_option maxRecDepth 40000 in
theorem gw_X5_isWrong : wsX5_isWrong.all goodWord = true := rfl
set_option maxRecDepth 40000 in
theorem gg_X5_tellSpans_X5_isWrong : GoodIn wsX5_tellSpans wsX5_isWrong := goodIn_r _ [29, 2, 12, 6, 30, 31, 32, 33, 34, 35, 36, 37, 38, 39, 40, 41] rfl gw_X5_isWrong
set_option maxRecDepth 40000 in
theorem gX5_tellSpans_X5_isWrong : GoodIn wsX5_tellSpans (wsV RX5 86 RX5 yX5_isWrong wsX5_isWrong) := goodIn_app (goodIn_r _ [26, 27, 28, 10] rfl rfl) gg_X5_tellSpans_X5_isWrong
set_option maxRecDepth 40000 in
theorem gg_X5_bestShift_X5_addTime : GoodIn wsX5_bestShift wsX5_addTime := goodIn_r _ [7, 8, 9, 10, 11, 6, 12, 1, 2, 17, 18, 19, 20, 21, 22, 23, 24, 25, 26, 27, 28] rfl gw_X5_addTime
set_option maxRecDepth 40000 in
theorem gX5_bestShift_X5_addTime : GoodIn wsX5_bestShift (wsV RX5 70 RX5 yX5_addTime wsX5_addTime) := goodIn_app (goodIn_r _ [3, 4, 5, 6] rfl rfl) gg_X5_bestShift_X5_addTime
set_option maxRecDepth 40000 in
theorem gg_X5_bestShift_X5_forgetTimes : GoodIn wsX5_bestShift wsX5_forgetTimes := goodIn_r _ [16, 8, 9, 10, 11, 6, 12, 1, 2, 17, 18, 19, 20, 21, 22, 23, 24, 25, 26, 27, 28] rfl gw_X5_forgetTimes
set_option maxRecDepth 40000 in
theorem gX5_bestShift_X5_forgetTimes : GoodIn wsX5_bestShift (wsV RX5 54 RX5 yX5_forgetTimes wsX5_forgetTimes) := goodIn_app (goodIn_r _ [13, 14, 15, 6] rfl rfl) gg_X5_bestShift_X5_forgetTimes
set_option maxRecDepth 40000 in
theorem gw_X0_init : wsX0_init.all goodWord = true := rfl
set_option maxRecDepth 40000 in
theorem gg_X6_init_X0_init : GoodIn wsX6_init wsX0_init := goodIn_r _ [28, 29, 2, 3, 6, 30, 31, 51, 52] rfl gw_X0_init
theorem gX6_init_X0_init : GoodIn wsX6_init (wsX0_init) := gg_X6_init_X0_init
set_option maxRecDepth 40000 in
theorem gw_J7_fill_d0a16 : wsJ7_fill_d0a16.all goodWord = true := rfl
set_option maxRecDepth 40000 in
theorem gg_X6_init_J7_fill_d0a16 : GoodIn wsX6_init wsJ7_fill_d0a16 := goodIn_r _ [35] rfl gw_J7_fill_d0a16
set_option maxRecDepth 40000 in
theorem gX6_init_J7_fill_d0a16 : GoodIn wsX6_init (va_wsS RX6 70 yJ7_fill_d0a16 wsJ7_fill_d0a16) := goodIn_app (goodIn_r _ [32, 33, 34] rfl rfl) gg_X6_init_J7_fill_d0a16
set_option maxRecDepth 40000 in
theorem gw_X1_isRunning : wsX1_isRunning.all goodWord = true := rfl
set_option maxRecDepth 40000 in
theorem gg_X6_search_X1_isRunning : GoodIn wsX6_search wsX1_isRunning := goodIn_r _ [13, 14, 15, 16, 17, 18, 19, 20, 12, 21, 22, 132, 133, 134, 135, 136, 137, 138, 139, 140] rfl gw_X1_isRunning
set_option maxRecDepth 40000 in
theorem gX6_search_X1_isRunning : GoodIn wsX6_search (wsV RX6 86 RX1 yX1_isRunning wsX1_isRunning) := goodIn_app (goodIn_r _ [9, 10, 11, 12] rfl rfl) gg_X6_search_X1_isRunning
set_option maxRecDepth 40000 in
theorem gw_X6_findCapsBehind : wsX6_findCapsBehind.all goodWord = true := rfl
set_option maxRecDepth 40000 in
theorem gg_X6_search_X6_findCapsBehind : GoodIn wsX6_search wsX6_findCapsBehind := goodIn_r _ [27, 1, 2, 28, 29, 30, 31, 32, 33, 34, 35, 12, 36, 37, 117, 118, 119, 120, 121, 122, 123, 124, 125, 126, 127, 128, 129, 130, 131, 132, 133, 134, 135, 136, 137, 138, 139, 140] rfl gw_X6_findCapsBehind
set_option maxRecDepth 40000 in
theorem gX6_search_X6_findCapsBehind : GoodIn wsX6_search (wsV RX6 90 RX6 yX6_findCapsBehind wsX6_findCapsBehind) := goodIn_app (goodIn_r _ [23, 24, 25, 26] rfl rfl) gg_X6_search_X6_findCapsBehind
set_option maxRecDepth 40000 in
theorem gw_X6_passLine : wsX6_passLine.all goodWord = true := rfl
set_option maxRecDepth 40000 in
theorem gg_X6_search_X6_passLine : GoodIn wsX6_search wsX6_passLine := goodIn_r _ [41, 3, 42, 6, 7, 8, 43, 44, 45, 46, 47, 48, 49, 50, 51, 52, 53, 54, 55, 56, 57, 34, 35, 12, 36, 37, 58, 59, 60, 26, 61, 32, 62, 63, 64, 65, 30, 66, 67, 68, 69, 70, 1, 4, 71, 72, 73, 74, 75, 22, 76, 77, 78, 79, 80, 81, 82, 83, 84, 85, 86, 87, 33, 88, 89, 90, 91, 92, 93, 94, 95, 96, 97, 98, 99, 117, 118, 119, 120, 121, 122, 123, 124, 125, 126, 127, 128, 129, 130, 131, 144, 145, 132, 133, 134, 135, 136, 137, 138, 139, 140, 141, 142, 143] rfl gw_X6_passLine
set_option maxRecDepth 40000 in
theorem gX6_search_X6_passLine : GoodIn wsX6_search (wsV RX6 94 RX6 yX6_passLine wsX6_passLine) := goodIn_app (goodIn_r _ [38, 39, 40, 26] rfl rfl) gg_X6_search_X6_passLine
set_option maxRecDepth 40000 in
theorem gw_X6_takeLeastKey : wsX6_takeLeastKey.all goodWord = true := rfl
set_option maxRecDepth 40000 in
theorem gg_X6_search_X6_takeLeastKey : GoodIn wsX6_search wsX6_takeLeastKey := goodIn_r _ [103, 43, 6, 8, 7, 64, 65, 30, 66, 117, 118, 119, 120, 121, 122, 123, 124, 125, 126, 127, 128, 129, 130, 131] rfl gw_X6_takeLeastKey
set_option maxRecDepth 40000 in
theorem gX6_search_X6_takeLeastKey : GoodIn wsX6_search (wsV RX6 97 RX6 yX6_takeLeastKey wsX6_takeLeastKey) := goodIn_app (goodIn_r _ [100, 101, 102, 26] rfl rfl) gg_X6_search_X6_takeLeastKey
set_option maxRecDepth 40000 in
theorem gw_X6_tellLevels : wsX6_tellLevels.all goodWord = true := rfl
set_option maxRecDepth 40000 in
theorem gg_X6_search_X6_tellLevels : GoodIn wsX6_search wsX6_tellLevels := goodIn_r _ [107, 108, 109, 1, 2, 110, 111, 117, 118, 119, 120, 121, 122, 123, 124, 125, 126, 127, 128, 129, 130, 131, 132, 133, 134, 135, 136, 137, 138, 139, 140] rfl gw_X6_tellLevels
set_option maxRecDepth 40000 in
theorem gX6_search_X6_tellLevels : GoodIn wsX6_search (wsV RX6 101 RX6 yX6_tellLevels wsX6_tellLevels) := goodIn_app (goodIn_r _ [104, 105, 106, 26] rfl rfl) gg_X6_search_X6_tellLevels
set_option maxRecDepth 40000 in
theorem gw_X6_tellCounters : wsX6_tellCounters.all goodWord = true := rfl
set_option maxRecDepth 40000 in
theorem gg_X6_search_X6_tellCounters : GoodIn wsX6_search wsX6_tellCounters := goodIn_r _ [115, 44, 1, 2, 110, 116, 87, 45, 46, 47, 48, 49, 50, 88, 89, 90, 91, 55, 56, 57, 34, 35, 12, 36, 37, 117, 118, 119, 120, 121, 122, 123, 124, 125, 126, 127, 128, 129, 130, 131, 132, 133, 134, 135, 136, 137, 138, 139, 140, 144, 145] rfl gw_X6_tellCounters
set_option maxRecDepth 40000 in
theorem gX6_search_X6_tellCounters : GoodIn wsX6_search (wsV RX6 105 RX6 yX6_tellCounters wsX6_tellCounters) := goodIn_app (goodIn_r _ [112, 113, 114, 26] rfl rfl) gg_X6_search_X6_tellCounters
set_option maxRecDepth 40000 in
theorem gg_X6_findCapsBehind_X1_partAt : GoodIn wsX6_findCapsBehind wsX1_partAt := goodIn_r _ [12, 13, 29, 30, 31, 32, 33, 34, 35, 36, 37] rfl gw_X1_partAt
set_option maxRecDepth 40000 in
theorem gX6_findCapsBehind_X1_partAt : GoodIn wsX6_findCapsBehind (wsV RX6 108 RX1 yX1_partAt wsX1_partAt) := goodIn_app (goodIn_r _ [8, 9, 10, 11] rfl rfl) gg_X6_findCapsBehind_X1_partAt
set_option maxRecDepth 40000 in
theorem gw_X0_unpack : wsX0_unpack.all goodWord = true := rfl
set_option maxRecDepth 40000 in
theorem gg_X6_passLine_X0_unpack : GoodIn wsX6_passLine wsX0_unpack := goodIn_r _ [12, 13, 90, 91] rfl gw_X0_unpack
set_option maxRecDepth 40000 in
theorem gX6_passLine_X0_unpack : GoodIn wsX6_passLine (wsV RX6 117 RX0 yX0_unpack wsX0_unpack) := goodIn_app (goodIn_r _ [8, 9, 10, 11] rfl rfl) gg_X6_passLine_X0_unpack
set_option maxRecDepth 40000 in
theorem gw_X0_allowHead : wsX0_allowHead.all goodWord = true := rfl
set_option maxRecDepth 40000 in
theorem gg_X6_passLine_X0_allowHead : GoodIn wsX6_passLine wsX0_allowHead := goodIn_r _ [17, 13, 18, 19, 20, 21, 22, 23, 24, 25, 90, 91, 92, 93, 94, 95, 96, 97, 98, 99, 100] rfl gw_X0_allowHead
set_option maxRecDepth 40000 in
theorem gX6_passLine_X0_allowHead : GoodIn wsX6_passLine (wsV RX6 120 RX0 yX0_allowHead wsX0_allowHead) := goodIn_app (goodIn_r _ [14, 15, 16, 11] rfl rfl) gg_X6_passLine_X0_allowHead
set_option maxRecDepth 40000 in
theorem gw_X6_offer : wsX6_offer.all goodWord = true := rfl
set_option maxRecDepth 40000 in
theorem gg_X6_passLine_X6_offer : GoodIn wsX6_passLine wsX6_offer := goodIn_r _ [30, 7, 31, 32, 6, 33, 2, 34, 35, 36, 37, 38, 39, 40, 29, 41, 1, 42, 43, 44, 45, 46, 47, 23, 48, 49, 50, 51, 52, 53, 54, 55, 56, 57, 58, 59, 60, 61, 62, 21, 22, 24, 25, 63, 64, 65, 11, 66, 13, 18, 19, 20, 67, 68, 69, 70, 75, 76, 77, 78, 79, 80, 81, 82, 83, 84, 85, 86, 87, 88, 89, 101, 102, 103, 92, 93, 94, 95, 96, 97, 98, 99, 100, 90, 91] rfl gw_X6_offer
set_option maxRecDepth 40000 in
theorem gX6_passLine_X6_offer : GoodIn wsX6_passLine (wsV RX6 123 RX6 yX6_offer wsX6_offer) := goodIn_app (goodIn_r _ [26, 27, 28, 29] rfl rfl) gg_X6_passLine_X6_offer
set_option maxRecDepth 40000 in
theorem gw_X6_swapRows : wsX6_swapRows.all goodWord = true := rfl
set_option maxRecDepth 40000 in
theorem gg_X6_passLine_X6_swapRows : GoodIn wsX6_passLine wsX6_swapRows := goodIn_r _ [74, 5, 32, 4, 33, 2, 3, 75, 76, 77, 78, 79, 80, 81, 82, 83, 84, 85, 86, 87, 88, 89] rfl gw_X6_swapRows
set_option maxRecDepth 40000 in
theorem gX6_passLine_X6_swapRows : GoodIn wsX6_passLine (wsV RX6 127 RX6 yX6_swapRows wsX6_swapRows) := goodIn_app (goodIn_r _ [71, 72, 73, 29] rfl rfl) gg_X6_passLine_X6_swapRows
set_option maxRecDepth 40000 in
theorem gw_X6_textCost : wsX6_textCost.all goodWord = true := rfl
set_option maxRecDepth 40000 in
theorem gg_X6_offer_X6_textCost : GoodIn wsX6_offer wsX6_textCost := goodIn_r _ [15, 16, 17, 18, 19, 20, 21, 22, 23, 24, 25, 26, 27, 56, 57, 58, 59, 60, 61, 62, 63, 64, 65, 66, 67, 68, 69, 70, 71, 72, 73, 74, 75, 76, 77, 78, 79, 80, 81, 82] rfl gw_X6_textCost
set_option maxRecDepth 40000 in
theorem gX6_offer_X6_textCost : GoodIn wsX6_offer (wsV RX6 130 RX6 yX6_textCost wsX6_textCost) := goodIn_app (goodIn_r _ [11, 12, 13, 14] rfl rfl) gg_X6_offer_X6_textCost
set_option maxRecDepth 40000 in
theorem gw_X6_headCost : wsX6_headCost.all goodWord = true := rfl
set_option maxRecDepth 40000 in
theorem gg_X6_offer_X6_headCost : GoodIn wsX6_offer wsX6_headCost := goodIn_r _ [31, 17, 18, 32, 33, 34, 9, 35, 19, 36, 1, 37, 20, 21, 22, 23, 24, 25, 26, 27, 38, 39, 40, 41, 42, 56, 57, 58, 59, 60, 61, 62, 63, 64, 65, 66, 67, 68, 69, 70, 71, 72, 73, 74, 75, 76, 77, 78, 79, 80, 81, 82, 83, 84] rfl gw_X6_headCost
set_option maxRecDepth 40000 in
theorem gX6_offer_X6_headCost : GoodIn wsX6_offer (wsV RX6 134 RX6 yX6_headCost wsX6_headCost) := goodIn_app (goodIn_r _ [28, 29, 30, 14] rfl rfl) gg_X6_offer_X6_headCost
set_option maxRecDepth 40000 in
theorem gw_X0_passHead : wsX0_passHead.all goodWord = true := rfl
set_option maxRecDepth 40000 in
theorem gg_X6_offer_X0_passHead : GoodIn wsX6_offer wsX0_passHead := goodIn_r _ [47, 48, 49, 50, 51, 39, 40, 23, 41, 42, 83, 84, 74, 75, 76, 77, 78, 79, 80, 81, 82] rfl gw_X0_passHead
set_option maxRecDepth 40000 in
theorem gX6_offer_X0_passHead : GoodIn wsX6_offer (wsV RX6 137 RX0 yX0_passHead wsX0_passHead) := goodIn_app (goodIn_r _ [43, 44, 45, 46] rfl rfl) gg_X6_offer_X0_passHead
set_option maxRecDepth 40000 in
theorem gw_X0_pack : wsX0_pack.all goodWord = true := rfl
set_option maxRecDepth 40000 in
theorem gg_X6_offer_X0_pack : GoodIn wsX6_offer wsX0_pack := goodIn_r _ [55, 48, 83, 84] rfl gw_X0_pack
set_option maxRecDepth 40000 in
theorem gX6_offer_X0_pack : GoodIn wsX6_offer (wsV RX6 141 RX0 yX0_pack wsX0_pack) := goodIn_app (goodIn_r _ [52, 53, 54, 46] rfl rfl) gg_X6_offer_X0_pack
set_option maxRecDepth 40000 in
theorem gw_X1_look : wsX1_look.all goodWord = true := rfl
set_option maxRecDepth 40000 in
theorem gg_X6_textCost_X1_look : GoodIn wsX6_textCost wsX1_look := goodIn_r _ [9, 10, 11, 12, 31, 32, 33, 34, 35, 36, 37, 38, 39] rfl gw_X1_look
set_option maxRecDepth 40000 in
theorem gX6_textCost_X1_look : GoodIn wsX6_textCost (wsV RX6 149 RX1 yX1_look wsX1_look) := goodIn_app (goodIn_r _ [5, 6, 7, 8] rfl rfl) gg_X6_textCost_X1_look
set_option maxRecDepth 40000 in
theorem gg_X6_headCost_X1_look : GoodIn wsX6_headCost wsX1_look := goodIn_r _ [16, 17, 18, 19, 43, 44, 45, 46, 47, 48, 49, 50, 51] rfl gw_X1_look
set_option maxRecDepth 40000 in
theorem gX6_headCost_X1_look : GoodIn wsX6_headCost (wsV RX6 149 RX1 yX1_look wsX1_look) := goodIn_app (goodIn_r _ [12, 13, 14, 15] rfl rfl) gg_X6_headCost_X1_look
set_option maxRecDepth 40000 in
theorem gg_X6_headCost_X1_partAt : GoodIn wsX6_headCost wsX1_partAt := goodIn_r _ [23, 24, 43, 44, 45, 46, 47, 48, 49, 50, 51] rfl gw_X1_partAt
set_option maxRecDepth 40000 in
theorem gX6_headCost_X1_partAt : GoodIn wsX6_headCost (wsV RX6 108 RX1 yX1_partAt wsX1_partAt) := goodIn_app (goodIn_r _ [20, 21, 22, 15] rfl rfl) gg_X6_headCost_X1_partAt
set_option maxRecDepth 40000 in
theorem gg_X6_tellCounters_X0_unpack : GoodIn wsX6_tellCounters wsX0_unpack := goodIn_r _ [11, 12, 49, 50] rfl gw_X0_unpack
set_option maxRecDepth 40000 in
theorem gX6_tellCounters_X0_unpack : GoodIn wsX6_tellCounters (wsV RX6 117 RX0 yX0_unpack wsX0_unpack) := goodIn_app (goodIn_r _ [7, 8, 9, 10] rfl rfl) gg_X6_tellCounters_X0_unpack
set_option maxRecDepth 40000 in
theorem gg_X6_tellCounters_X0_passHead : GoodIn wsX6_tellCounters wsX0_passHead := goodIn_r _ [16, 12, 17, 18, 19, 20, 21, 22, 23, 24, 49, 50, 40, 41, 42, 43, 44, 45, 46, 47, 48] rfl gw_X0_passHead
set_option maxRecDepth 40000 in
theorem gX6_tellCounters_X0_passHead : GoodIn wsX6_tellCounters (wsV RX6 137 RX0 yX0_passHead wsX0_passHead) := goodIn_app (goodIn_r _ [13, 14, 15, 10] rfl rfl) gg_X6_tellCounters_X0_passHead
set_option maxRecDepth 40000 in
theorem gw_X4_init : wsX4_init.all goodWord = true := rfl
set_option maxRecDepth 40000 in
theorem gg_X7_init_X4_init : GoodIn wsX7_init wsX4_init := goodIn_r _ [32, 33, 2, 3, 34, 35, 36, 37, 123, 124, 125] rfl gw_X4_init
theorem gX7_init_X4_init_n9 : GoodIn wsX7_init (wsX4_init) := gg_X7_init_X4_init
set_option maxRecDepth 40000 in
theorem gw_X3_init : wsX3_init.all goodWord = true := rfl
set_option maxRecDepth 40000 in
theorem gg_X7_init_X3_init : GoodIn wsX7_init wsX3_init := goodIn_r _ [39, 40, 2, 3, 34, 41, 42, 126, 127] rfl gw_X3_init
theorem gX7_init_X3_init_n12 : GoodIn wsX7_init (wsX3_init) := gg_X7_init_X3_init
set_option maxRecDepth 40000 in
theorem gw_X1_init : wsX1_init.all goodWord = true := rfl
set_option maxRecDepth 40000 in
theorem gg_X7_init_X1_init : GoodIn wsX7_init wsX1_init := goodIn_r _ [44, 45, 2, 3, 34, 46, 47, 48, 49, 50, 51, 52, 53, 54, 55, 128, 129, 130, 131, 132, 133, 134, 135, 136] rfl gw_X1_init
theorem gX7_init_X1_init_n15 : GoodIn wsX7_init (wsX1_init) := gg_X7_init_X1_init
set_option maxRecDepth 40000 in
theorem gw_X6_init : wsX6_init.all goodWord = true := rfl
set_option maxRecDepth 40000 in
theorem gg_X7_init_X6_init : GoodIn wsX7_init wsX6_init := goodIn_r _ [58, 59, 2, 3, 49, 60, 34, 61, 62, 63, 64, 65, 66, 67, 68, 69, 70, 71, 72, 73, 74, 75, 76, 77, 78, 79, 80, 81, 82, 83, 84, 85, 86, 87, 88, 89, 137, 138, 139, 140, 141, 142, 143, 144, 145, 146, 147, 148, 149, 150, 151, 186, 187] rfl gw_X6_init
theorem gX7_init_X6_init : GoodIn wsX7_init (wsX6_init) := gg_X7_init_X6_init
set_option maxRecDepth 40000 in
theorem gw_X2_init : wsX2_init.all goodWord = true := rfl
set_option maxRecDepth 40000 in
theorem gg_X7_init_X2_init : GoodIn wsX7_init wsX2_init := goodIn_r _ [92, 93, 2, 3, 34, 94, 95, 96, 97, 98, 99, 100, 101, 102, 103, 104, 105, 106, 107, 108, 161, 162, 163, 164, 165, 166, 167, 168, 169, 170, 171, 172, 173, 174, 175] rfl gw_X2_init
theorem gX7_init_X2_init : GoodIn wsX7_init (wsX2_init) := gg_X7_init_X2_init
set_option maxRecDepth 40000 in
theorem gw_X5_init : wsX5_init.all goodWord = true := rfl
set_option maxRecDepth 40000 in
theorem gg_X7_init_X5_init : GoodIn wsX7_init wsX5_init := goodIn_r _ [111, 112, 2, 3, 34, 113, 114, 115, 116, 117, 118, 119, 120, 121, 122, 176, 177, 178, 179, 180, 181, 182, 183, 184, 185] rfl gw_X5_init
theorem gX7_init_X5_init : GoodIn wsX7_init (wsX5_init) := gg_X7_init_X5_init
set_option maxRecDepth 40000 in
theorem gg_X7_book_X7_isWithin : GoodIn wsX7_book wsX7_isWithin := goodIn_r _ [9] rfl gw_X7_isWithin
set_option maxRecDepth 40000 in
theorem gX7_book_X7_isWithin : GoodIn wsX7_book (va_wsS RX7 67 yX7_isWithin wsX7_isWithin) := goodIn_app (goodIn_r _ [6, 7, 8] rfl rfl) gg_X7_book_X7_isWithin
set_option maxRecDepth 40000 in
theorem gw_X3_begin : wsX3_begin.all goodWord = true := rfl
set_option maxRecDepth 40000 in
theorem gg_X7_book_X3_begin : GoodIn wsX7_book wsX3_begin := goodIn_r _ [14, 15, 16, 17, 18, 19, 20, 61, 62] rfl gw_X3_begin
set_option maxRecDepth 40000 in
theorem gX7_book_X3_begin : GoodIn wsX7_book (wsV RX7 71 RX3 yX3_begin wsX3_begin) := goodIn_app (goodIn_r _ [10, 11, 12, 13] rfl rfl) gg_X7_book_X3_begin
set_option maxRecDepth 40000 in
theorem gw_X7_allIsOld : wsX7_allIsOld.all goodWord = true := rfl
set_option maxRecDepth 40000 in
theorem gg_X7_book_X7_allIsOld : GoodIn wsX7_book wsX7_allIsOld := goodIn_r _ [24, 25, 26, 27, 28, 29, 30, 31, 32, 33, 34, 35, 36] rfl gw_X7_allIsOld
set_option maxRecDepth 40000 in
theorem gX7_book_X7_allIsOld : GoodIn wsX7_book (wsV RX7 80 RX7 yX7_allIsOld wsX7_allIsOld) := goodIn_app (goodIn_r _ [21, 22, 23, 8] rfl rfl) gg_X7_book_X7_allIsOld
set_option maxRecDepth 40000 in
theorem gw_X3_has : wsX3_has.all goodWord = true := rfl
set_option maxRecDepth 40000 in
theorem gg_X7_read_X3_has : GoodIn wsX7_read wsX3_has := goodIn_r _ [9, 10, 11, 12, 13, 24, 25] rfl gw_X3_has
set_option maxRecDepth 40000 in
theorem gX7_read_X3_has : GoodIn wsX7_read (wsV RX7 83 RX3 yX3_has wsX3_has) := goodIn_app (goodIn_r _ [5, 6, 7, 8] rfl rfl) gg_X7_read_X3_has
set_option maxRecDepth 40000 in
theorem gg_X7_read_X7_isWithin : GoodIn wsX7_read wsX7_isWithin := goodIn_r _ [13] rfl gw_X7_isWithin
set_option maxRecDepth 40000 in
theorem gX7_read_X7_isWithin : GoodIn wsX7_read (va_wsS RX7 67 yX7_isWithin wsX7_isWithin) := goodIn_app (goodIn_r _ [14, 11, 12] rfl rfl) gg_X7_read_X7_isWithin
set_option maxRecDepth 40000 in
theorem gg_X7_line_X3_has : GoodIn wsX7_line wsX3_has := goodIn_r _ [14, 15, 16, 17, 18, 62, 63] rfl gw_X3_has
set_option maxRecDepth 40000 in
theorem gX7_line_X3_has : GoodIn wsX7_line (wsV RX7 83 RX3 yX3_has wsX3_has) := goodIn_app (goodIn_r _ [10, 11, 12, 13] rfl rfl) gg_X7_line_X3_has
set_option maxRecDepth 40000 in
theorem gw_X1_canFollow : wsX1_canFollow.all goodWord = true := rfl
set_option maxRecDepth 40000 in
theorem gg_X7_line_X1_canFollow : GoodIn wsX7_line wsX1_canFollow := goodIn_r _ [23, 24, 25, 53, 54, 55, 56, 57, 58, 59, 60, 61] rfl gw_X1_canFollow
set_option maxRecDepth 40000 in
theorem gX7_line_X1_canFollow : GoodIn wsX7_line (wsV RX7 91 RX1 yX1_canFollow wsX1_canFollow) := goodIn_app (goodIn_r _ [19, 20, 21, 22] rfl rfl) gg_X7_line_X1_canFollow
set_option maxRecDepth 40000 in
theorem gg_X7_line_X7_isWithin : GoodIn wsX7_line wsX7_isWithin := goodIn_r _ [18] rfl gw_X7_isWithin
set_option maxRecDepth 40000 in
theorem gX7_line_X7_isWithin : GoodIn wsX7_line (va_wsS RX7 67 yX7_isWithin wsX7_isWithin) := goodIn_app (goodIn_r _ [26, 16, 17] rfl rfl) gg_X7_line_X7_isWithin
set_option maxRecDepth 40000 in
theorem gw_X7_areWords : wsX7_areWords.all goodWord = true := rfl
set_option maxRecDepth 40000 in
theorem gg_X7_line_X7_areWords : GoodIn wsX7_line wsX7_areWords := goodIn_r _ [29] rfl gw_X7_areWords
set_option maxRecDepth 40000 in
theorem gX7_line_X7_areWords : GoodIn wsX7_line (va_wsS RX7 94 yX7_areWords wsX7_areWords) := goodIn_app (goodIn_r _ [27, 28, 17] rfl rfl) gg_X7_line_X7_areWords
set_option maxRecDepth 40000 in
theorem gw_X7_areNumbers : wsX7_areNumbers.all goodWord = true := rfl
set_option maxRecDepth 40000 in
theorem gg_X7_line_X7_areNumbers : GoodIn wsX7_line wsX7_areNumbers := goodIn_r _ [32, 33, 26, 16, 17, 18, 34, 35, 36] rfl gw_X7_areNumbers
set_option maxRecDepth 40000 in
theorem gX7_line_X7_areNumbers : GoodIn wsX7_line (va_wsS RX7 97 yX7_areNumbers wsX7_areNumbers) := goodIn_app (goodIn_r _ [30, 31, 17] rfl rfl) gg_X7_line_X7_areNumbers
set_option maxRecDepth 40000 in
theorem gw_X1_putSizeAndNumbers : wsX1_putSizeAndNumbers.all goodWord = true := rfl
set_option maxRecDepth 40000 in
theorem gg_X7_line_X1_putSizeAndNumbers : GoodIn wsX7_line wsX1_putSizeAndNumbers := goodIn_r _ [40, 41, 42, 43, 35, 17, 36, 53, 54, 55, 56, 57, 58, 59, 60, 61] rfl gw_X1_putSizeAndNumbers
set_option maxRecDepth 40000 in
theorem gX7_line_X1_putSizeAndNumbers : GoodIn wsX7_line (wsV RX7 116 RX1 yX1_putSizeAndNumbers wsX1_putSizeAndNumbers) := goodIn_app (goodIn_r _ [37, 38, 39, 22] rfl rfl) gg_X7_line_X1_putSizeAndNumbers
set_option maxRecDepth 40000 in
theorem gw_X1_has : wsX1_has.all goodWord = true := rfl
set_option maxRecDepth 40000 in
theorem gg_X7_right_X1_has : GoodIn wsX7_right wsX1_has := goodIn_r _ [7, 8, 9, 10, 11, 36, 37, 38, 39, 40, 41, 42, 43, 44] rfl gw_X1_has
set_option maxRecDepth 40000 in
theorem gX7_right_X1_has : GoodIn wsX7_right (wsV RX7 120 RX1 yX1_has wsX1_has) := goodIn_app (goodIn_r _ [3, 4, 5, 6] rfl rfl) gg_X7_right_X1_has
set_option maxRecDepth 40000 in
theorem gg_X7_right_X7_isWithin : GoodIn wsX7_right wsX7_isWithin := goodIn_r _ [11] rfl gw_X7_isWithin
set_option maxRecDepth 40000 in
theorem gX7_right_X7_isWithin : GoodIn wsX7_right (va_wsS RX7 67 yX7_isWithin wsX7_isWithin) := goodIn_app (goodIn_r _ [12, 9, 10] rfl rfl) gg_X7_right_X7_isWithin
set_option maxRecDepth 40000 in
theorem gg_X7_right_X7_areNumbers : GoodIn wsX7_right wsX7_areNumbers := goodIn_r _ [15, 16, 12, 9, 10, 11, 17, 18, 19] rfl gw_X7_areNumbers
set_option maxRecDepth 40000 in
theorem gX7_right_X7_areNumbers : GoodIn wsX7_right (va_wsS RX7 97 yX7_areNumbers wsX7_areNumbers) := goodIn_app (goodIn_r _ [13, 14, 10] rfl rfl) gg_X7_right_X7_areNumbers
set_option maxRecDepth 40000 in
theorem gg_X7_right_X1_putSizeAndNumbers : GoodIn wsX7_right wsX1_putSizeAndNumbers := goodIn_r _ [23, 24, 25, 26, 18, 10, 19, 36, 37, 38, 39, 40, 41, 42, 43, 44] rfl gw_X1_putSizeAndNumbers
set_option maxRecDepth 40000 in
theorem gX7_right_X1_putSizeAndNumbers : GoodIn wsX7_right (wsV RX7 116 RX1 yX1_putSizeAndNumbers wsX1_putSizeAndNumbers) := goodIn_app (goodIn_r _ [20, 21, 22, 6] rfl rfl) gg_X7_right_X1_putSizeAndNumbers
set_option maxRecDepth 40000 in
theorem gg_X7_price_X7_isWithin : GoodIn wsX7_price wsX7_isWithin := goodIn_r _ [6] rfl gw_X7_isWithin
set_option maxRecDepth 40000 in
theorem gX7_price_X7_isWithin : GoodIn wsX7_price (va_wsS RX7 67 yX7_isWithin wsX7_isWithin) := goodIn_app (goodIn_r _ [3, 4, 5] rfl rfl) gg_X7_price_X7_isWithin
set_option maxRecDepth 40000 in
theorem gg_X7_price_X7_allIsOld : GoodIn wsX7_price wsX7_allIsOld := goodIn_r _ [10, 11, 12, 13, 14, 15, 16, 17, 18, 19, 20, 21, 22] rfl gw_X7_allIsOld
set_option maxRecDepth 40000 in
theorem gX7_price_X7_allIsOld : GoodIn wsX7_price (wsV RX7 80 RX7 yX7_allIsOld wsX7_allIsOld) := goodIn_app (goodIn_r _ [7, 8, 9, 5] rfl rfl) gg_X7_price_X7_allIsOld
set_option maxRecDepth 40000 in
theorem gw_X7_putMany : wsX7_putMany.all goodWord = true := rfl
set_option maxRecDepth 40000 in
theorem gg_X7_want_X7_putMany : GoodIn wsX7_want wsX7_putMany := goodIn_r _ [8, 1, 9, 3, 10, 11, 7, 12, 13, 14, 15, 16, 17, 18, 19, 20, 21, 22, 23, 24] rfl gw_X7_putMany
set_option maxRecDepth 40000 in
theorem gX7_want_X7_putMany : GoodIn wsX7_want (wsV RX7 124 RX7 yX7_putMany wsX7_putMany) := goodIn_app (goodIn_r _ [4, 5, 6, 7] rfl rfl) gg_X7_want_X7_putMany
set_option maxRecDepth 40000 in
theorem gg_X7_want_X7_isWithin : GoodIn wsX7_want wsX7_isWithin := goodIn_r _ [12] rfl gw_X7_isWithin
set_option maxRecDepth 40000 in
theorem gX7_want_X7_isWithin : GoodIn wsX7_want (va_wsS RX7 67 yX7_isWithin wsX7_isWithin) := goodIn_app (goodIn_r _ [10, 11, 7] rfl rfl) gg_X7_want_X7_isWithin
set_option maxRecDepth 40000 in
theorem gg_X7_putMany_X7_isWithin : GoodIn wsX7_putMany wsX7_isWithin := goodIn_r _ [7] rfl gw_X7_isWithin
set_option maxRecDepth 40000 in
theorem gX7_putMany_X7_isWithin : GoodIn wsX7_putMany (va_wsS RX7 67 yX7_isWithin wsX7_isWithin) := goodIn_app (goodIn_r _ [4, 5, 6] rfl rfl) gg_X7_putMany_X7_isWithin
set_option maxRecDepth 40000 in
theorem gw_X7_freshTree : wsX7_freshTree.all goodWord = true := rfl
set_option maxRecDepth 40000 in
theorem gg_X7_count_X7_freshTree : GoodIn wsX7_count wsX7_freshTree := goodIn_r _ [17, 18, 19, 20, 21, 22, 23, 24, 25, 26, 27, 28, 29, 30, 31, 32, 33, 34, 35, 36, 37, 38, 39, 40, 41, 42, 43, 44, 45, 46, 47, 48, 49, 50, 51, 52, 53, 54, 55, 56, 57, 58, 59, 60, 61, 62, 63, 64, 65, 66, 67, 68, 69, 70, 71, 72, 73, 74, 75, 76, 77, 78, 79, 80, 81, 82, 83, 84, 85, 86, 87, 88, 89, 90, 91, 92, 93, 94, 95, 96, 97, 98, 99, 100, 101, 102, 103, 104, 105, 106, 107, 108, 109, 110, 111, 112, 113, 114, 115, 116, 117, 118, 119, 120, 121, 122, 123, 124, 125, 126, 127, 128, 129, 130, 131, 132, 133, 134, 135, 136, 137, 138, 139, 140, 257, 258, 259, 260, 261, 262, 263, 264, 265, 292, 293, 294, 295, 296, 297, 298, 299, 300, 301, 302, 303, 304, 305, 306, 268, 269, 270, 271, 272, 273, 274, 275, 276, 317, 318, 319, 320, 321] rfl gw_X7_freshTree
set_option maxRecDepth 40000 in
theorem gX7_count_X7_freshTree : GoodIn wsX7_count (wsV RX7 135 RX7 yX7_freshTree wsX7_freshTree) := goodIn_app (goodIn_r _ [13, 14, 15, 16] rfl rfl) gg_X7_count_X7_freshTree
set_option maxRecDepth 40000 in
theorem gw_X7_freshListing : wsX7_freshListing.all goodWord = true := rfl
set_option maxRecDepth 40000 in
theorem gg_X7_count_X7_freshListing : GoodIn wsX7_count wsX7_freshListing := goodIn_r _ [144, 20, 5, 13, 14, 15, 16, 17, 18, 19, 21, 22, 23, 24, 25, 26, 27, 28, 29, 30, 31, 32, 33, 34, 35, 36, 37, 38, 39, 40, 41, 42, 43, 44, 45, 46, 47, 48, 49, 50, 51, 52, 53, 54, 55, 56, 57, 58, 59, 60, 61, 62, 63, 64, 65, 66, 67, 68, 69, 70, 71, 72, 73, 74, 75, 76, 77, 78, 79, 80, 81, 82, 83, 84, 85, 86, 87, 88, 89, 90, 91, 92, 93, 94, 95, 96, 97, 98, 99, 100, 101, 102, 103, 104, 105, 106, 107, 108, 109, 110, 111, 112, 113, 114, 115, 116, 117, 118, 119, 120, 121, 122, 123, 124, 125, 126, 127, 128, 129, 130, 131, 132, 133, 134, 135, 136, 137, 138, 139, 140, 145, 146, 147, 148, 149, 150, 151, 152, 153, 154, 155, 156, 157, 158, 159, 160, 161, 162, 163, 164, 165, 166, 167, 168, 169, 170, 171, 172, 173, 174, 175, 176, 177, 178, 179, 180, 181, 182, 183, 184, 185, 186, 187, 188, 189, 190, 191, 192, 193, 194, 195, 196, 197, 198, 199, 200, 201, 202, 257, 258, 259, 260, 261, 262, 263, 264, 265, 292, 293, 294, 295, 296, 297, 298, 299, 300, 301, 302, 303, 304, 305, 306, 268, 269, 270, 271, 272, 273, 274, 275, 276, 317, 318, 319, 320, 321, 277, 278, 279, 280, 281, 282, 283, 284, 285, 286, 287, 288, 289, 290, 291, 266, 267] rfl gw_X7_freshListing
set_option maxRecDepth 40000 in
theorem gX7_count_X7_freshListing : GoodIn wsX7_count (wsV RX7 145 RX7 yX7_freshListing wsX7_freshListing) := goodIn_app (goodIn_r _ [141, 142, 143, 16] rfl rfl) gg_X7_count_X7_freshListing
set_option maxRecDepth 40000 in
theorem gw_X7_freshShifts : wsX7_freshShifts.all goodWord = true := rfl
set_option maxRecDepth 40000 in
theorem gg_X7_count_X7_freshShifts : GoodIn wsX7_count wsX7_freshShifts := goodIn_r _ [206, 207, 208, 209, 210, 211, 212, 213, 214, 215, 216, 217, 218, 219, 220, 221, 222, 223, 224, 225, 226, 227, 53, 54, 55, 228, 229, 230, 231, 232, 233, 234, 235, 236, 237, 238, 239, 240, 241, 242, 243, 244, 245, 246, 247, 248, 249, 250, 251, 252, 253, 254, 255, 256, 257, 258, 259, 260, 261, 262, 263, 264, 265, 307, 308, 309, 310, 311, 312, 313, 314, 315, 316, 266, 267, 317, 318, 319] rfl gw_X7_freshShifts
set_option maxRecDepth 40000 in
theorem gX7_count_X7_freshShifts : GoodIn wsX7_count (wsV RX7 150 RX7 yX7_freshShifts wsX7_freshShifts) := goodIn_app (goodIn_r _ [203, 204, 205, 16] rfl rfl) gg_X7_count_X7_freshShifts
set_option maxRecDepth 40000 in
theorem gg_X7_counter_X1_has : GoodIn wsX7_counter wsX1_has := goodIn_r _ [7, 8, 9, 10, 11, 162, 163, 164, 165, 166, 167, 168, 169, 170] rfl gw_X1_has
set_option maxRecDepth 40000 in
theorem gX7_counter_X1_has : GoodIn wsX7_counter (wsV RX7 120 RX1 yX1_has wsX1_has) := goodIn_app (goodIn_r _ [3, 4, 5, 6] rfl rfl) gg_X7_counter_X1_has
set_option maxRecDepth 40000 in
theorem gg_X7_counter_X7_isWithin : GoodIn wsX7_counter wsX7_isWithin := goodIn_r _ [11] rfl gw_X7_isWithin
set_option maxRecDepth 40000 in
theorem gX7_counter_X7_isWithin : GoodIn wsX7_counter (va_wsS RX7 67 yX7_isWithin wsX7_isWithin) := goodIn_app (goodIn_r _ [12, 9, 10] rfl rfl) gg_X7_counter_X7_isWithin
set_option maxRecDepth 40000 in
theorem gg_X7_counter_X7_freshTree : GoodIn wsX7_counter wsX7_freshTree := goodIn_r _ [16, 17, 18, 19, 20, 21, 22, 23, 24, 25, 26, 27, 28, 29, 30, 31, 32, 33, 34, 35, 6, 36, 37, 38, 8, 39, 40, 41, 42, 43, 44, 45, 46, 47, 48, 49, 50, 51, 52, 53, 54, 55, 56, 57, 58, 59, 60, 61, 62, 63, 64, 65, 66, 67, 68, 69, 70, 71, 72, 73, 74, 75, 76, 77, 78, 79, 80, 81, 82, 83, 84, 85, 86, 87, 88, 89, 90, 91, 92, 93, 94, 95, 96, 97, 98, 99, 100, 101, 102, 103, 104, 105, 106, 107, 108, 109, 110, 111, 112, 113, 114, 115, 116, 117, 118, 119, 120, 121, 122, 123, 124, 125, 126, 127, 128, 129, 130, 131, 132, 133, 134, 135, 136, 137, 138, 139, 140, 141, 142, 143, 144, 145, 146, 147, 148, 149, 150, 151, 152, 153, 154, 155, 156, 157, 158, 159, 160, 161, 162, 163, 164, 165, 166, 167, 168, 169, 170, 171, 172, 173, 174, 175] rfl gw_X7_freshTree
set_option maxRecDepth 40000 in
theorem gX7_counter_X7_freshTree : GoodIn wsX7_counter (wsV RX7 135 RX7 yX7_freshTree wsX7_freshTree) := goodIn_app (goodIn_r _ [13, 14, 15, 10] rfl rfl) gg_X7_counter_X7_freshTree
set_option maxRecDepth 40000 in
theorem gg_X7_entry_X7_isWithin : GoodIn wsX7_entry wsX7_isWithin := goodIn_r _ [11] rfl gw_X7_isWithin
set_option maxRecDepth 40000 in
theorem gX7_entry_X7_isWithin : GoodIn wsX7_entry (va_wsS RX7 67 yX7_isWithin wsX7_isWithin) := goodIn_app (goodIn_r _ [8, 9, 10] rfl rfl) gg_X7_entry_X7_isWithin
set_option maxRecDepth 40000 in
theorem gg_X7_entry_X7_areWords : GoodIn wsX7_entry wsX7_areWords := goodIn_r _ [14] rfl gw_X7_areWords
set_option maxRecDepth 40000 in
theorem gX7_entry_X7_areWords : GoodIn wsX7_entry (va_wsS RX7 94 yX7_areWords wsX7_areWords) := goodIn_app (goodIn_r _ [12, 13, 10] rfl rfl) gg_X7_entry_X7_areWords
set_option maxRecDepth 40000 in
theorem gg_X7_partner_X7_isWithin : GoodIn wsX7_partner wsX7_isWithin := goodIn_r _ [7] rfl gw_X7_isWithin
set_option maxRecDepth 40000 in
theorem gX7_partner_X7_isWithin : GoodIn wsX7_partner (va_wsS RX7 67 yX7_isWithin wsX7_isWithin) := goodIn_app (goodIn_r _ [4, 5, 6] rfl rfl) gg_X7_partner_X7_isWithin
set_option maxRecDepth 40000 in
theorem gg_X7_partner_X7_freshListing : GoodIn wsX7_partner wsX7_freshListing := goodIn_r _ [11, 12, 1, 13, 14, 15, 6, 16, 17, 18, 19, 20, 21, 22, 23, 24, 25, 26, 27, 28, 29, 30, 31, 32, 33, 34, 35, 36, 37, 38, 39, 40, 41, 42, 43, 44, 45, 46, 47, 48, 49, 50, 51, 52, 53, 54, 55, 56, 57, 58, 59, 60, 61, 62, 63, 64, 65, 66, 67, 68, 69, 70, 71, 72, 73, 74, 75, 76, 77, 78, 79, 80, 81, 82, 83, 84, 85, 86, 87, 88, 89, 90, 91, 92, 93, 94, 95, 96, 97, 98, 99, 100, 101, 102, 103, 104, 105, 106, 107, 108, 109, 110, 111, 112, 113, 114, 115, 116, 117, 118, 119, 120, 121, 122, 123, 124, 125, 126, 127, 128, 129, 130, 131, 132, 133, 134, 135, 136, 137, 138, 139, 140, 141, 142, 143, 144, 145, 146, 147, 148, 149, 150, 151, 152, 153, 154, 155, 156, 157, 158, 159, 160, 161, 162, 163, 164, 165, 166, 167, 168, 169, 170, 171, 172, 173, 174, 175, 176, 177, 178, 179, 180, 181, 182, 183, 184, 185, 186, 187, 188, 189, 190, 191, 192, 193, 194, 195, 196, 197, 198, 199, 200, 201, 202, 203, 204, 205, 221, 222, 223, 224, 225, 226, 227, 228, 229, 230, 231, 232, 233, 234, 235, 236, 237, 238, 239, 240, 241, 242, 243, 244, 245, 246, 247, 248, 249, 206, 207, 208, 209, 210, 211, 212, 213, 214, 215, 216, 217, 218, 219, 220, 250, 251] rfl gw_X7_freshListing
set_option maxRecDepth 40000 in
theorem gX7_partner_X7_freshListing : GoodIn wsX7_partner (wsV RX7 145 RX7 yX7_freshListing wsX7_freshListing) := goodIn_app (goodIn_r _ [8, 9, 10, 6] rfl rfl) gg_X7_partner_X7_freshListing
set_option maxRecDepth 40000 in
theorem gg_X7_span_X3_has : GoodIn wsX7_span wsX3_has := goodIn_r _ [7, 8, 9, 10, 11, 88, 89] rfl gw_X3_has
set_option maxRecDepth 40000 in
theorem gX7_span_X3_has : GoodIn wsX7_span (wsV RX7 83 RX3 yX3_has wsX3_has) := goodIn_app (goodIn_r _ [3, 4, 5, 6] rfl rfl) gg_X7_span_X3_has
set_option maxRecDepth 40000 in
theorem gg_X7_span_X7_freshShifts : GoodIn wsX7_span wsX7_freshShifts := goodIn_r _ [15, 16, 17, 18, 19, 20, 21, 22, 23, 24, 25, 26, 27, 28, 29, 30, 31, 32, 33, 34, 35, 36, 37, 38, 39, 40, 41, 42, 43, 44, 45, 46, 47, 48, 49, 50, 51, 52, 53, 54, 55, 56, 57, 58, 59, 60, 61, 62, 63, 64, 65, 66, 67, 68, 69, 70, 71, 72, 73, 74, 75, 76, 77, 78, 79, 80, 81, 82, 83, 84, 85, 86, 87, 88, 89, 90, 91, 92] rfl gw_X7_freshShifts
set_option maxRecDepth 40000 in
theorem gX7_span_X7_freshShifts : GoodIn wsX7_span (wsV RX7 150 RX7 yX7_freshShifts wsX7_freshShifts) := goodIn_app (goodIn_r _ [12, 13, 14, 10] rfl rfl) gg_X7_span_X7_freshShifts
set_option maxRecDepth 40000 in
theorem gg_X7_wrong_X3_has : GoodIn wsX7_wrong wsX3_has := goodIn_r _ [6, 7, 8, 9, 10, 78, 79] rfl gw_X3_has
set_option maxRecDepth 40000 in
theorem gX7_wrong_X3_has : GoodIn wsX7_wrong (wsV RX7 83 RX3 yX3_has wsX3_has) := goodIn_app (goodIn_r _ [2, 3, 4, 5] rfl rfl) gg_X7_wrong_X3_has
set_option maxRecDepth 40000 in
theorem gg_X7_wrong_X7_freshShifts : GoodIn wsX7_wrong wsX7_freshShifts := goodIn_r _ [14, 15, 16, 17, 18, 19, 20, 21, 22, 23, 24, 25, 26, 27, 28, 29, 30, 31, 32, 33, 34, 35, 36, 37, 38, 39, 40, 41, 42, 43, 44, 45, 46, 47, 48, 49, 50, 51, 52, 53, 54, 55, 56, 57, 58, 59, 60, 61, 62, 63, 64, 65, 66, 67, 69, 70, 71, 72, 73, 74, 75, 76, 77, 80, 81, 82, 83, 84, 85, 86, 87, 88, 89, 78, 79, 90, 91, 92] rfl gw_X7_freshShifts
set_option maxRecDepth 40000 in
theorem gX7_wrong_X7_freshShifts : GoodIn wsX7_wrong (wsV RX7 150 RX7 yX7_freshShifts wsX7_freshShifts) := goodIn_app (goodIn_r _ [11, 12, 13, 9] rfl rfl) gg_X7_wrong_X7_freshShifts
set_option maxRecDepth 40000 in
theorem gg_X7_wrong_X5_isWrong : GoodIn wsX7_wrong wsX5_isWrong := goodIn_r _ [67, 23, 34, 59, 80, 81, 82, 83, 84, 85, 86, 87, 88, 89, 78, 79] rfl gw_X5_isWrong
set_option maxRecDepth 40000 in
theorem gX7_wrong_X5_isWrong : GoodIn wsX7_wrong (wsV RX7 214 RX5 yX5_isWrong wsX5_isWrong) := goodIn_app (goodIn_r _ [68, 65, 66, 20] rfl rfl) gg_X7_wrong_X5_isWrong
set_option maxRecDepth 40000 in
theorem gw_X6_search : wsX6_search.all goodWord = true := rfl
set_option maxRecDepth 40000 in
theorem gg_X7_freshTree_X6_search : GoodIn wsX7_freshTree wsX6_search := goodIn_r _ [8, 9, 10, 11, 12, 13, 14, 15, 16, 17, 18, 19, 20, 21, 22, 23, 24, 25, 26, 27, 28, 29, 30, 31, 32, 33, 7, 34, 35, 36, 37, 38, 39, 40, 41, 42, 43, 44, 45, 46, 47, 48, 49, 50, 51, 52, 53, 54, 55, 56, 57, 58, 59, 60, 61, 62, 63, 64, 65, 66, 67, 68, 69, 70, 71, 72, 73, 74, 75, 76, 77, 78, 79, 80, 81, 82, 83, 84, 85, 86, 87, 88, 89, 90, 91, 92, 93, 94, 95, 96, 97, 98, 99, 100, 101, 102, 103, 104, 105, 106, 107, 108, 109, 110, 111, 112, 113, 114, 115, 116, 117, 118, 119, 120, 121, 122, 123, 133, 134, 135, 136, 137, 138, 139, 140, 141, 142, 143, 144, 145, 146, 147, 148, 149, 150, 151, 152, 153, 154, 155, 156, 157, 158, 159, 160, 161] rfl gw_X6_search
set_option maxRecDepth 40000 in
theorem gX7_freshTree_X6_search : GoodIn wsX7_freshTree (wsV RX7 217 RX6 yX6_search wsX6_search) := goodIn_app (goodIn_r _ [4, 5, 6, 7] rfl rfl) gg_X7_freshTree_X6_search
set_option maxRecDepth 40000 in
theorem gg_X7_freshListing_X7_freshTree : GoodIn wsX7_freshListing wsX7_freshTree := goodIn_r _ [7, 8, 9, 1, 10, 11, 12, 13, 14, 15, 16, 17, 18, 19, 20, 21, 22, 23, 24, 25, 26, 27, 28, 29, 30, 31, 32, 33, 34, 35, 36, 37, 38, 39, 40, 41, 42, 43, 44, 45, 46, 47, 48, 49, 50, 51, 52, 53, 54, 55, 56, 57, 58, 59, 60, 61, 62, 63, 64, 65, 66, 67, 68, 69, 70, 71, 72, 73, 74, 75, 76, 77, 78, 79, 80, 81, 82, 83, 84, 85, 86, 87, 88, 89, 90, 91, 92, 93, 94, 95, 96, 97, 98, 99, 100, 101, 102, 103, 104, 105, 106, 107, 108, 109, 110, 111, 112, 113, 114, 115, 116, 117, 118, 119, 120, 121, 122, 123, 124, 125, 126, 127, 128, 129, 188, 189, 190, 191, 192, 193, 194, 195, 196, 197, 198, 199, 200, 201, 202, 203, 204, 205, 206, 207, 208, 209, 210, 211, 212, 213, 214, 215, 216, 217, 218, 219, 220, 221, 222, 223, 224, 225] rfl gw_X7_freshTree
set_option maxRecDepth 40000 in
theorem gX7_freshListing_X7_freshTree : GoodIn wsX7_freshListing (wsV RX7 135 RX7 yX7_freshTree wsX7_freshTree) := goodIn_app (goodIn_r _ [3, 4, 5, 6] rfl rfl) gg_X7_freshListing_X7_freshTree
set_option maxRecDepth 40000 in
theorem gw_X2_hold : wsX2_hold.all goodWord = true := rfl
set_option maxRecDepth 40000 in
theorem gg_X7_freshListing_X2_hold : GoodIn wsX7_freshListing wsX2_hold := goodIn_r _ [134, 135, 136, 137, 138, 139, 140, 141, 133, 142, 143, 144, 145, 146, 147, 148, 149, 150, 151, 152, 153, 154, 155, 43, 156, 157, 158, 159, 160, 161, 162, 163, 164, 165, 166, 97, 98, 167, 168, 169, 170, 171, 172, 173, 174, 175, 176, 177, 178, 179, 180, 181, 182, 183, 184, 185, 186, 187, 226, 227, 228, 229, 230, 231, 232, 233, 234, 235, 236, 237, 238, 239, 240, 212, 213, 214, 215, 216, 217, 218, 219, 220, 197, 198, 199, 200, 201, 202, 203, 204, 205, 206, 207, 208, 209, 210, 211, 221, 222, 223, 241, 242] rfl gw_X2_hold
set_option maxRecDepth 40000 in
theorem gX7_freshListing_X2_hold : GoodIn wsX7_freshListing (wsV RX7 220 RX2 yX2_hold wsX2_hold) := goodIn_app (goodIn_r _ [130, 131, 132, 133] rfl rfl) gg_X7_freshListing_X2_hold
set_option maxRecDepth 40000 in
theorem gw_X5_explain : wsX5_explain.all goodWord = true := rfl
set_option maxRecDepth 40000 in
theorem gg_X7_freshShifts_X5_explain : GoodIn wsX7_freshShifts wsX5_explain := goodIn_r _ [7, 8, 9, 10, 11, 12, 13, 14, 15, 6, 16, 17, 18, 19, 20, 21, 22, 23, 24, 25, 26, 27, 28, 29, 30, 31, 32, 33, 34, 35, 36, 37, 38, 39, 40, 41, 42, 43, 44, 45, 46, 47, 48, 49, 50, 51, 52, 53, 63, 64, 65, 66, 67, 68, 69, 70, 71, 72, 73, 74, 75, 76, 77] rfl gw_X5_explain
set_option maxRecDepth 40000 in
theorem gX7_freshShifts_X5_explain : GoodIn wsX7_freshShifts (wsV RX7 223 RX5 yX5_explain wsX5_explain) := goodIn_app (goodIn_r _ [3, 4, 5, 6] rfl rfl) gg_X7_freshShifts_X5_explain
set_option maxRecDepth 40000 in
theorem gg_X7_areNumbers_X7_isWithin : GoodIn wsX7_areNumbers wsX7_isWithin := goodIn_r _ [5] rfl gw_X7_isWithin
set_option maxRecDepth 40000 in
theorem gX7_areNumbers_X7_isWithin : GoodIn wsX7_areNumbers (va_wsS RX7 67 yX7_isWithin wsX7_isWithin) := goodIn_app (goodIn_r _ [2, 3, 4] rfl rfl) gg_X7_areNumbers_X7_isWithin
set_option maxRecDepth 40000 in
theorem gg_X7_areNumbers_X7_countParts : GoodIn wsX7_areNumbers wsX7_countParts := goodIn_r _ [8] rfl gw_X7_countParts
set_option maxRecDepth 40000 in
theorem gX7_areNumbers_X7_countParts : GoodIn wsX7_areNumbers (va_wsS RX7 227 yX7_countParts wsX7_countParts) := goodIn_app (goodIn_r _ [6, 7, 4] rfl rfl) gg_X7_areNumbers_X7_countParts
set_option maxRecDepth 40000 in
theorem gw_X8_in : wsX8_in.all goodWord = true := rfl
set_option maxRecDepth 40000 in
theorem gg_X8_isLine_X8_in : GoodIn wsX8_isLine wsX8_in := goodIn_r _ [5] rfl gw_X8_in
set_option maxRecDepth 40000 in
theorem gX8_isLine_X8_in : GoodIn wsX8_isLine (va_wsS RX8 100 yX8_in wsX8_in) := goodIn_app (goodIn_r _ [2, 3, 4] rfl rfl) gg_X8_isLine_X8_in
set_option maxRecDepth 40000 in
theorem gg_X8_book_X8_in : GoodIn wsX8_book wsX8_in := goodIn_r _ [10] rfl gw_X8_in
set_option maxRecDepth 40000 in
theorem gX8_book_X8_in : GoodIn wsX8_book (va_wsS RX8 100 yX8_in wsX8_in) := goodIn_app (goodIn_r _ [7, 8, 9] rfl rfl) gg_X8_book_X8_in
set_option maxRecDepth 40000 in
theorem gg_X8_read_X8_in : GoodIn wsX8_read wsX8_in := goodIn_r _ [8] rfl gw_X8_in
set_option maxRecDepth 40000 in
theorem gX8_read_X8_in : GoodIn wsX8_read (va_wsS RX8 100 yX8_in wsX8_in) := goodIn_app (goodIn_r _ [5, 6, 7] rfl rfl) gg_X8_read_X8_in
set_option maxRecDepth 40000 in
theorem gg_X8_partsOf_X8_in : GoodIn wsX8_partsOf wsX8_in := goodIn_r _ [5] rfl gw_X8_in
set_option maxRecDepth 40000 in
theorem gX8_partsOf_X8_in : GoodIn wsX8_partsOf (va_wsS RX8 100 yX8_in wsX8_in) := goodIn_app (goodIn_r _ [2, 3, 4] rfl rfl) gg_X8_partsOf_X8_in
set_option maxRecDepth 40000 in
theorem gg_X8_line_X8_in : GoodIn wsX8_line wsX8_in := goodIn_r _ [15] rfl gw_X8_in
set_option maxRecDepth 40000 in
theorem gX8_line_X8_in : GoodIn wsX8_line (va_wsS RX8 100 yX8_in wsX8_in) := goodIn_app (goodIn_r _ [12, 13, 14] rfl rfl) gg_X8_line_X8_in
set_option maxRecDepth 40000 in
theorem gw_X8_areWords : wsX8_areWords.all goodWord = true := rfl
set_option maxRecDepth 40000 in
theorem gg_X8_line_X8_areWords : GoodIn wsX8_line wsX8_areWords := goodIn_r _ [18] rfl gw_X8_areWords
set_option maxRecDepth 40000 in
theorem gX8_line_X8_areWords : GoodIn wsX8_line (va_wsS RX8 112 yX8_areWords wsX8_areWords) := goodIn_app (goodIn_r _ [16, 17, 14] rfl rfl) gg_X8_line_X8_areWords
set_option maxRecDepth 40000 in
theorem gw_X8_partsOf : wsX8_partsOf.all goodWord = true := rfl
set_option maxRecDepth 40000 in
theorem gg_X8_line_X8_partsOf : GoodIn wsX8_line wsX8_partsOf := goodIn_r _ [22, 23, 12, 13, 14, 15] rfl gw_X8_partsOf
set_option maxRecDepth 40000 in
theorem gX8_line_X8_partsOf : GoodIn wsX8_line (wsV RX8 116 RX8 yX8_partsOf wsX8_partsOf) := goodIn_app (goodIn_r _ [19, 20, 21, 14] rfl rfl) gg_X8_line_X8_partsOf
set_option maxRecDepth 40000 in
theorem gw_X8_layWords : wsX8_layWords.all goodWord = true := rfl
set_option maxRecDepth 40000 in
theorem gg_X8_line_X8_layWords : GoodIn wsX8_line wsX8_layWords := goodIn_r _ [26] rfl gw_X8_layWords
set_option maxRecDepth 40000 in
theorem gX8_line_X8_layWords : GoodIn wsX8_line (va_wsS RX8 120 yX8_layWords wsX8_layWords) := goodIn_app (goodIn_r _ [24, 25, 14] rfl rfl) gg_X8_line_X8_layWords
set_option maxRecDepth 40000 in
theorem gw_X8_isLine : wsX8_isLine.all goodWord = true := rfl
set_option maxRecDepth 40000 in
theorem gg_X8_right_X8_isLine : GoodIn wsX8_right wsX8_isLine := goodIn_r _ [10, 11, 12, 13, 9, 14, 20, 21, 22, 23, 24, 25, 26, 27, 28, 29, 30, 31, 32, 33, 34, 35, 36, 37, 38, 39, 40, 41, 42, 43, 44, 45, 46, 47, 48, 49, 50, 51, 52, 53, 54] rfl gw_X8_isLine
set_option maxRecDepth 40000 in
theorem gX8_right_X8_isLine : GoodIn wsX8_right (wsV RX8 124 RX8 yX8_isLine wsX8_isLine) := goodIn_app (goodIn_r _ [6, 7, 8, 9] rfl rfl) gg_X8_right_X8_isLine
set_option maxRecDepth 40000 in
theorem gg_X8_right_X8_in : GoodIn wsX8_right wsX8_in := goodIn_r _ [14] rfl gw_X8_in
set_option maxRecDepth 40000 in
theorem gX8_right_X8_in : GoodIn wsX8_right (va_wsS RX8 100 yX8_in wsX8_in) := goodIn_app (goodIn_r _ [12, 13, 9] rfl rfl) gg_X8_right_X8_in
set_option maxRecDepth 40000 in
theorem gg_X8_right_X8_partsOf : GoodIn wsX8_right wsX8_partsOf := goodIn_r _ [18, 19, 12, 13, 9, 14] rfl gw_X8_partsOf
set_option maxRecDepth 40000 in
theorem gX8_right_X8_partsOf : GoodIn wsX8_right (wsV RX8 116 RX8 yX8_partsOf wsX8_partsOf) := goodIn_app (goodIn_r _ [15, 16, 17, 9] rfl rfl) gg_X8_right_X8_partsOf
set_option maxRecDepth 40000 in
theorem gg_X8_price_X8_in : GoodIn wsX8_price wsX8_in := goodIn_r _ [7] rfl gw_X8_in
set_option maxRecDepth 40000 in
theorem gX8_price_X8_in : GoodIn wsX8_price (va_wsS RX8 100 yX8_in wsX8_in) := goodIn_app (goodIn_r _ [4, 5, 6] rfl rfl) gg_X8_price_X8_in
set_option maxRecDepth 40000 in
theorem gg_X8_want_X8_in : GoodIn wsX8_want wsX8_in := goodIn_r _ [7] rfl gw_X8_in
set_option maxRecDepth 40000 in
theorem gX8_want_X8_in : GoodIn wsX8_want (va_wsS RX8 100 yX8_in wsX8_in) := goodIn_app (goodIn_r _ [4, 5, 6] rfl rfl) gg_X8_want_X8_in
set_option maxRecDepth 40000 in
theorem gg_X8_entry_X8_in : GoodIn wsX8_entry wsX8_in := goodIn_r _ [10] rfl gw_X8_in
set_option maxRecDepth 40000 in
theorem gX8_entry_X8_in : GoodIn wsX8_entry (va_wsS RX8 100 yX8_in wsX8_in) := goodIn_app (goodIn_r _ [7, 8, 9] rfl rfl) gg_X8_entry_X8_in
set_option maxRecDepth 40000 in
theorem gg_X8_entry_X8_areWords : GoodIn wsX8_entry wsX8_areWords := goodIn_r _ [13] rfl gw_X8_areWords
set_option maxRecDepth 40000 in
theorem gX8_entry_X8_areWords : GoodIn wsX8_entry (va_wsS RX8 112 yX8_areWords wsX8_areWords) := goodIn_app (goodIn_r _ [11, 12, 9] rfl rfl) gg_X8_entry_X8_areWords
set_option maxRecDepth 40000 in
theorem gg_X8_entry_X8_layWords : GoodIn wsX8_entry wsX8_layWords := goodIn_r _ [16] rfl gw_X8_layWords
set_option maxRecDepth 40000 in
theorem gX8_entry_X8_layWords : GoodIn wsX8_entry (va_wsS RX8 120 yX8_layWords wsX8_layWords) := goodIn_app (goodIn_r _ [14, 15, 9] rfl rfl) gg_X8_entry_X8_layWords
set_option maxRecDepth 40000 in
theorem gw_X8_areLike : wsX8_areLike.all goodWord = true := rfl
set_option maxRecDepth 40000 in
theorem gg_X8_isRunning_X8_areLike : GoodIn wsX8_isRunning wsX8_areLike := goodIn_r _ [9, 10, 1, 11, 12, 13, 14, 15, 16, 17, 18, 19, 20, 21, 22, 23, 24, 25, 26, 27, 28, 29, 30, 31, 32, 33, 34, 35, 36, 37, 38, 39, 40, 41, 42, 43, 44, 45] rfl gw_X8_areLike
set_option maxRecDepth 40000 in
theorem gX8_isRunning_X8_areLike : GoodIn wsX8_isRunning (wsV RX8 128 RX8 yX8_areLike wsX8_areLike) := goodIn_app (goodIn_r _ [5, 6, 7, 8] rfl rfl) gg_X8_isRunning_X8_areLike
set_option maxRecDepth 40000 in
theorem gw_X8_counterOf : wsX8_counterOf.all goodWord = true := rfl
set_option maxRecDepth 40000 in
theorem gg_X8_behind_X8_counterOf : GoodIn wsX8_behind wsX8_counterOf := goodIn_r _ [6] rfl gw_X8_counterOf
set_option maxRecDepth 40000 in
theorem gX8_behind_X8_counterOf : GoodIn wsX8_behind (va_wsS RX8 131 yX8_counterOf wsX8_counterOf) := goodIn_app (goodIn_r _ [3, 4, 5] rfl rfl) gg_X8_behind_X8_counterOf
set_option maxRecDepth 40000 in
theorem gw_X8_look : wsX8_look.all goodWord = true := rfl
set_option maxRecDepth 40000 in
theorem gg_X8_costOf_X8_look : GoodIn wsX8_costOf wsX8_look := goodIn_r _ [14, 15, 16, 17, 21, 22, 23, 24, 25, 26, 27, 28, 29, 30, 31, 32, 33, 34, 35, 36, 37, 38, 39, 40, 41, 42, 43, 44, 45, 46, 47, 48, 49, 50, 51, 52, 53, 54, 55] rfl gw_X8_look
set_option maxRecDepth 40000 in
theorem gX8_costOf_X8_look : GoodIn wsX8_costOf (wsV RX8 135 RX8 yX8_look wsX8_look) := goodIn_app (goodIn_r _ [10, 11, 12, 13] rfl rfl) gg_X8_costOf_X8_look
set_option maxRecDepth 40000 in
theorem gg_X8_costOf_X8_counterOf : GoodIn wsX8_costOf wsX8_counterOf := goodIn_r _ [20] rfl gw_X8_counterOf
set_option maxRecDepth 40000 in
theorem gX8_costOf_X8_counterOf : GoodIn wsX8_costOf (va_wsS RX8 131 yX8_counterOf wsX8_counterOf) := goodIn_app (goodIn_r _ [18, 19, 13] rfl rfl) gg_X8_costOf_X8_counterOf
set_option maxRecDepth 40000 in
theorem gw_X8_behind : wsX8_behind.all goodWord = true := rfl
set_option maxRecDepth 40000 in
theorem gg_X8_costWithLevel_X8_behind : GoodIn wsX8_costWithLevel wsX8_behind := goodIn_r _ [7, 8, 9, 10, 11, 6, 12, 45, 46, 47, 48, 49, 50, 51, 52, 53, 54, 55, 56, 57, 58, 59, 60, 61, 62, 63, 64, 65, 66, 67, 68, 69, 70, 71, 72, 73, 74, 75, 76, 77, 78, 79] rfl gw_X8_behind
set_option maxRecDepth 40000 in
theorem gX8_costWithLevel_X8_behind : GoodIn wsX8_costWithLevel (wsV RX8 144 RX8 yX8_behind wsX8_behind) := goodIn_app (goodIn_r _ [3, 4, 5, 6] rfl rfl) gg_X8_costWithLevel_X8_behind
set_option maxRecDepth 40000 in
theorem gw_X8_costOf : wsX8_costOf.all goodWord = true := rfl
set_option maxRecDepth 40000 in
theorem gg_X8_costWithLevel_X8_costOf : GoodIn wsX8_costWithLevel wsX8_costOf := goodIn_r _ [16, 1, 17, 18, 19, 20, 21, 22, 8, 9, 23, 24, 25, 6, 26, 27, 28, 29, 10, 11, 12, 45, 46, 47, 48, 49, 50, 51, 52, 53, 54, 55, 56, 57, 58, 59, 60, 61, 62, 63, 64, 65, 66, 67, 68, 69, 70, 71, 72, 73, 74, 75, 76, 77, 78, 79] rfl gw_X8_costOf
set_option maxRecDepth 40000 in
theorem gX8_costWithLevel_X8_costOf : GoodIn wsX8_costWithLevel (wsV RX8 149 RX8 yX8_costOf wsX8_costOf) := goodIn_app (goodIn_r _ [13, 14, 15, 6] rfl rfl) gg_X8_costWithLevel_X8_costOf
set_option maxRecDepth 40000 in
theorem gw_X8_leastFrom : wsX8_leastFrom.all goodWord = true := rfl
set_option maxRecDepth 40000 in
theorem gg_X8_costWithLevel_X8_leastFrom : GoodIn wsX8_costWithLevel wsX8_leastFrom := goodIn_r _ [33, 34, 35, 36, 37, 38, 2, 39, 40, 21, 41, 42, 43, 44, 6, 0, 1, 3, 4, 5, 7, 8, 9, 10, 11, 12, 13, 14, 15, 16, 17, 18, 19, 20, 22, 23, 24, 25, 26, 27, 28, 29, 30, 31, 32, 45, 46, 47, 48, 49, 50, 51, 52, 53, 54, 55, 56, 57, 58, 59, 60, 61, 62, 63, 64, 65, 66, 67, 68, 69, 70, 71, 72, 73, 74, 75, 76, 77, 78, 79] rfl gw_X8_leastFrom
set_option maxRecDepth 40000 in
theorem gX8_costWithLevel_X8_leastFrom : GoodIn wsX8_costWithLevel (wsV RX8 152 RX8 yX8_leastFrom wsX8_leastFrom) := goodIn_app (goodIn_r _ [30, 31, 32, 6] rfl rfl) gg_X8_costWithLevel_X8_leastFrom
set_option maxRecDepth 40000 in
theorem gw_X8_costWithLevel : wsX8_costWithLevel.all goodWord = true := rfl
set_option maxRecDepth 40000 in
theorem gg_X8_leastFrom_X8_costWithLevel : GoodIn wsX8_leastFrom wsX8_costWithLevel := goodIn_r _ [15, 16, 6, 17, 18, 19, 14, 20, 21, 22, 23, 24, 25, 26, 27, 28, 29, 30, 31, 32, 33, 9, 34, 35, 36, 37, 38, 39, 40, 41, 42, 43, 44, 0, 1, 2, 3, 4, 5, 7, 8, 10, 11, 12, 13, 45, 46, 47, 48, 49, 50, 51, 52, 53, 54, 55, 56, 57, 58, 59, 60, 61, 62, 63, 64, 65, 66, 67, 68, 69, 70, 71, 72, 73, 74, 75, 76, 77, 78, 79] rfl gw_X8_costWithLevel
set_option maxRecDepth 40000 in
theorem gX8_leastFrom_X8_costWithLevel : GoodIn wsX8_leastFrom (wsV RX8 159 RX8 yX8_costWithLevel wsX8_costWithLevel) := goodIn_app (goodIn_r _ [11, 12, 13, 14] rfl rfl) gg_X8_leastFrom_X8_costWithLevel
set_option maxRecDepth 40000 in
theorem gw_X8_isRunning : wsX8_isRunning.all goodWord = true := rfl
set_option maxRecDepth 40000 in
theorem gg_X8_findTree_X8_isRunning : GoodIn wsX8_findTree wsX8_isRunning := goodIn_r _ [13, 14, 1, 15, 16, 17, 18, 19, 12, 20, 21, 61, 62, 63, 64, 65, 66, 67, 68, 69, 70, 71, 72, 73, 74, 75, 76, 77, 78, 79, 80, 81, 82, 83, 84, 85, 86, 87, 88, 89, 90, 91, 92, 93, 94, 95] rfl gw_X8_isRunning
set_option maxRecDepth 40000 in
theorem gX8_findTree_X8_isRunning : GoodIn wsX8_findTree (wsV RX8 165 RX8 yX8_isRunning wsX8_isRunning) := goodIn_app (goodIn_r _ [9, 10, 11, 12] rfl rfl) gg_X8_findTree_X8_isRunning
set_option maxRecDepth 40000 in
theorem gg_X8_findTree_X8_leastFrom : GoodIn wsX8_findTree wsX8_leastFrom := goodIn_r _ [25, 1, 26, 27, 3, 28, 29, 30, 31, 32, 33, 34, 35, 36, 12, 37, 2, 38, 39, 40, 41, 42, 43, 44, 45, 46, 47, 48, 49, 50, 51, 16, 52, 53, 54, 55, 56, 57, 58, 21, 59, 60, 22, 23, 24, 61, 62, 63, 64, 65, 66, 67, 68, 69, 70, 71, 72, 73, 74, 75, 76, 77, 78, 79, 80, 81, 82, 83, 84, 85, 86, 87, 88, 89, 90, 91, 92, 93, 94, 95] rfl gw_X8_leastFrom
set_option maxRecDepth 40000 in
theorem gX8_findTree_X8_leastFrom : GoodIn wsX8_findTree (wsV RX8 152 RX8 yX8_leastFrom wsX8_leastFrom) := goodIn_app (goodIn_r _ [22, 23, 24, 12] rfl rfl) gg_X8_findTree_X8_leastFrom
set_option maxRecDepth 40000 in
theorem gg_X8_findTree_X8_costWithLevel : GoodIn wsX8_findTree wsX8_costWithLevel := goodIn_r _ [37, 2, 29, 38, 39, 40, 12, 41, 42, 43, 44, 45, 46, 47, 48, 49, 50, 51, 16, 52, 53, 32, 54, 55, 56, 57, 58, 21, 59, 60, 22, 23, 24, 25, 1, 26, 27, 3, 28, 30, 31, 33, 34, 35, 36, 61, 62, 63, 64, 65, 66, 67, 68, 69, 70, 71, 72, 73, 74, 75, 76, 77, 78, 79, 80, 81, 82, 83, 84, 85, 86, 87, 88, 89, 90, 91, 92, 93, 94, 95] rfl gw_X8_costWithLevel
set_option maxRecDepth 40000 in
theorem gX8_findTree_X8_costWithLevel : GoodIn wsX8_findTree (wsV RX8 159 RX8 yX8_costWithLevel wsX8_costWithLevel) := goodIn_app (goodIn_r _ [34, 35, 36, 12] rfl rfl) gg_X8_findTree_X8_costWithLevel
set_option maxRecDepth 40000 in
theorem gg_X8_findTree_X8_behind : GoodIn wsX8_findTree wsX8_behind := goodIn_r _ [41, 42, 43, 44, 45, 12, 46, 61, 62, 63, 64, 65, 66, 67, 68, 69, 70, 71, 72, 73, 74, 75, 76, 77, 78, 79, 80, 81, 82, 83, 84, 85, 86, 87, 88, 89, 90, 91, 92, 93, 94, 95] rfl gw_X8_behind
set_option maxRecDepth 40000 in
theorem gX8_findTree_X8_behind : GoodIn wsX8_findTree (wsV RX8 144 RX8 yX8_behind wsX8_behind) := goodIn_app (goodIn_r _ [38, 39, 40, 12] rfl rfl) gg_X8_findTree_X8_behind
set_option maxRecDepth 40000 in
theorem gg_X8_findTree_X8_counterOf : GoodIn wsX8_findTree wsX8_counterOf := goodIn_r _ [46] rfl gw_X8_counterOf
set_option maxRecDepth 40000 in
theorem gX8_findTree_X8_counterOf : GoodIn wsX8_findTree (va_wsS RX8 131 yX8_counterOf wsX8_counterOf) := goodIn_app (goodIn_r _ [44, 45, 12] rfl rfl) gg_X8_findTree_X8_counterOf
set_option maxRecDepth 40000 in
theorem gw_X8_partnerCost : wsX8_partnerCost.all goodWord = true := rfl
set_option maxRecDepth 40000 in
theorem gg_X8_costWith_X8_partnerCost : GoodIn wsX8_costWith wsX8_partnerCost := goodIn_r _ [9, 10, 11, 2, 12, 13, 14, 15, 16, 17, 18, 19, 20, 21, 22, 23, 24, 25, 26, 27, 28, 29, 30, 31, 32, 33, 34, 35, 36, 37, 38, 39, 40, 41, 42, 43, 44, 45, 46, 47, 48, 49, 50, 51, 52, 53, 54, 55] rfl gw_X8_partnerCost
set_option maxRecDepth 40000 in
theorem gX8_costWith_X8_partnerCost : GoodIn wsX8_costWith (wsV RX8 174 RX8 yX8_partnerCost wsX8_partnerCost) := goodIn_app (goodIn_r _ [5, 6, 7, 8] rfl rfl) gg_X8_costWith_X8_partnerCost
set_option maxRecDepth 40000 in
theorem gw_X8_costWith : wsX8_costWith.all goodWord = true := rfl
set_option maxRecDepth 40000 in
theorem gg_X8_hold_X8_costWith : GoodIn wsX8_hold wsX8_costWith := goodIn_r _ [16, 1, 4, 2, 11, 17, 18, 19, 15, 20, 21, 22, 23, 24, 25, 26, 8, 27, 28, 29, 30, 31, 32, 33, 34, 35, 36, 37, 38, 39, 40, 41, 42, 43, 44, 45, 46, 47, 48, 49, 50, 51, 52, 53, 54, 55, 56, 57, 58, 59, 60, 61, 62, 63, 64, 65] rfl gw_X8_costWith
set_option maxRecDepth 40000 in
theorem gX8_hold_X8_costWith : GoodIn wsX8_hold (wsV RX8 177 RX8 yX8_costWith wsX8_costWith) := goodIn_app (goodIn_r _ [12, 13, 14, 15] rfl rfl) gg_X8_hold_X8_costWith
set_option maxRecDepth 40000 in
theorem gw_X8_wrongIn : wsX8_wrongIn.all goodWord = true := rfl
set_option maxRecDepth 40000 in
theorem gg_X8_findShifts_X8_wrongIn : GoodIn wsX8_findShifts wsX8_wrongIn := goodIn_r _ [14, 9, 15, 16, 17, 18, 19, 20, 21, 22, 23, 24, 25, 26, 27, 28, 29, 30, 31, 32, 33, 34, 35, 36, 37, 38, 39, 40, 41, 42, 43, 44, 45, 46, 47, 48, 49, 50] rfl gw_X8_wrongIn
set_option maxRecDepth 40000 in
theorem gX8_findShifts_X8_wrongIn : GoodIn wsX8_findShifts (wsV RX8 183 RX8 yX8_wrongIn wsX8_wrongIn) := goodIn_app (goodIn_r _ [10, 11, 12, 13] rfl rfl) gg_X8_findShifts_X8_wrongIn
set_option maxRecDepth 40000 in
theorem gw_X8_findTree : wsX8_findTree.all goodWord = true := rfl
set_option maxRecDepth 40000 in
theorem gg_X8_find_X8_findTree : GoodIn wsX8_find wsX8_findTree := goodIn_r _ [6, 7, 8, 9, 10, 11, 12, 13, 14, 15, 16, 17, 5, 18, 19, 20, 21, 22, 23, 24, 25, 26, 27, 28, 29, 30, 31, 32, 33, 34, 35, 36, 37, 38, 39, 40, 41, 42, 43, 44, 45, 46, 47, 48, 49, 50, 51, 52, 53, 54, 55, 56, 57, 58, 59, 60, 61, 62, 63, 64, 65, 100, 101, 102, 103, 104, 105, 106, 107, 108, 109, 110, 111, 112, 113, 114, 115, 116, 117, 118, 119, 120, 121, 122, 123, 124, 125, 126, 127, 128, 129, 130, 131, 132, 133, 134] rfl gw_X8_findTree
set_option maxRecDepth 40000 in
theorem gX8_find_X8_findTree : GoodIn wsX8_find (wsV RX8 186 RX8 yX8_findTree wsX8_findTree) := goodIn_app (goodIn_r _ [2, 3, 4, 5] rfl rfl) gg_X8_find_X8_findTree
set_option maxRecDepth 40000 in
theorem gw_X8_hold : wsX8_hold.all goodWord = true := rfl
set_option maxRecDepth 40000 in
theorem gg_X8_find_X8_hold : GoodIn wsX8_find wsX8_hold := goodIn_r _ [69, 11, 70, 71, 56, 34, 35, 36, 37, 38, 72, 14, 73, 74, 75, 5, 76, 77, 78, 79, 80, 81, 19, 82, 12, 57, 58, 59, 83, 84, 20, 100, 101, 102, 103, 104, 105, 106, 107, 108, 109, 110, 111, 112, 113, 114, 115, 116, 117, 118, 119, 120, 121, 122, 123, 124, 125, 126, 127, 128, 129, 130, 131, 132, 133, 134] rfl gw_X8_hold
set_option maxRecDepth 40000 in
theorem gX8_find_X8_hold : GoodIn wsX8_find (wsV RX8 189 RX8 yX8_hold wsX8_hold) := goodIn_app (goodIn_r _ [66, 67, 68, 5] rfl rfl) gg_X8_find_X8_hold
set_option maxRecDepth 40000 in
theorem gw_X8_findShifts : wsX8_findShifts.all goodWord = true := rfl
set_option maxRecDepth 40000 in
theorem gg_X8_find_X8_findShifts : GoodIn wsX8_find wsX8_findShifts := goodIn_r _ [88, 89, 90, 91, 34, 56, 92, 93, 94, 95, 96, 97, 98, 5, 99, 84, 100, 101, 102, 103, 104, 105, 106, 107, 108, 109, 110, 111, 112, 113, 114, 115, 116, 117, 118, 119, 120, 121, 122, 123, 124, 125, 126, 127, 128, 129, 130, 131, 132, 133, 134] rfl gw_X8_findShifts
set_option maxRecDepth 40000 in
theorem gX8_find_X8_findShifts : GoodIn wsX8_find (wsV RX8 192 RX8 yX8_findShifts wsX8_findShifts) := goodIn_app (goodIn_r _ [85, 86, 87, 5] rfl rfl) gg_X8_find_X8_findShifts
set_option maxRecDepth 40000 in
theorem gw_X8_find : wsX8_find.all goodWord = true := rfl
set_option maxRecDepth 40000 in
theorem gg_X8_count_X8_find : GoodIn wsX8_count wsX8_find := goodIn_r _ [14, 15, 16, 17, 18, 13, 19, 3, 20, 21, 6, 5, 22, 23, 24, 25, 26, 27, 28, 29, 30, 31, 32, 33, 34, 35, 36, 37, 38, 39, 40, 41, 42, 43, 44, 45, 46, 47, 48, 49, 50, 51, 52, 53, 54, 55, 56, 57, 58, 59, 60, 61, 62, 63, 64, 65, 66, 67, 68, 69, 70, 71, 72, 73, 74, 75, 76, 77, 78, 79, 7, 4, 80, 81, 82, 83, 84, 85, 86, 87, 88, 89, 90, 91, 92, 93, 94, 95, 96, 8, 2, 9, 97, 98, 99, 100, 101, 102, 103, 104, 109, 110, 111, 112, 113, 114, 115, 116, 117, 118, 119, 120, 121, 122, 123, 124, 125, 126, 127, 128, 129, 130, 131, 132, 133, 134, 135, 136, 137, 138, 139, 140, 141, 142, 143] rfl gw_X8_find
set_option maxRecDepth 40000 in
theorem gX8_count_X8_find : GoodIn wsX8_count (wsV RX8 195 RX8 yX8_find wsX8_find) := goodIn_app (goodIn_r _ [10, 11, 12, 13] rfl rfl) gg_X8_count_X8_find
set_option maxRecDepth 40000 in
theorem gw_X8_isWrong : wsX8_isWrong.all goodWord = true := rfl
set_option maxRecDepth 40000 in
theorem gg_X8_count_X8_isWrong : GoodIn wsX8_count wsX8_isWrong := goodIn_r _ [108, 92, 99, 109, 110, 111, 112, 113, 114, 115, 116, 117, 118, 119, 120, 121, 122, 123, 124, 125, 126, 127, 128, 129, 130, 131, 132, 133, 134, 135, 136, 137, 138, 139, 140, 141, 142, 143] rfl gw_X8_isWrong
set_option maxRecDepth 40000 in
theorem gX8_count_X8_isWrong : GoodIn wsX8_count (wsV RX8 198 RX8 yX8_isWrong wsX8_isWrong) := goodIn_app (goodIn_r _ [105, 106, 107, 13] rfl rfl) gg_X8_count_X8_isWrong
set_option maxRecDepth 40000 in
theorem gg_X8_of_X8_isLine : GoodIn wsX8_of wsX8_isLine := goodIn_r _ [10, 11, 12, 13, 9, 14, 124, 125, 126, 127, 128, 129, 130, 131, 132, 133, 134, 135, 136, 137, 138, 139, 140, 141, 142, 143, 144, 145, 146, 147, 148, 149, 150, 151, 152, 153, 154, 155, 156, 157, 158] rfl gw_X8_isLine
set_option maxRecDepth 40000 in
theorem gX8_of_X8_isLine : GoodIn wsX8_of (wsV RX8 124 RX8 yX8_isLine wsX8_isLine) := goodIn_app (goodIn_r _ [6, 7, 8, 9] rfl rfl) gg_X8_of_X8_isLine
set_option maxRecDepth 40000 in
theorem gg_X8_of_X8_in : GoodIn wsX8_of wsX8_in := goodIn_r _ [14] rfl gw_X8_in
set_option maxRecDepth 40000 in
theorem gX8_of_X8_in : GoodIn wsX8_of (va_wsS RX8 100 yX8_in wsX8_in) := goodIn_app (goodIn_r _ [12, 13, 9] rfl rfl) gg_X8_of_X8_in
set_option maxRecDepth 40000 in
theorem gg_X8_of_X8_find : GoodIn wsX8_of wsX8_find := goodIn_r _ [18, 19, 20, 21, 22, 9, 23, 11, 3, 24, 25, 26, 4, 27, 28, 29, 30, 31, 32, 33, 2, 34, 35, 36, 37, 38, 39, 40, 41, 42, 43, 44, 45, 46, 47, 48, 49, 50, 51, 52, 53, 54, 55, 56, 57, 58, 59, 5, 60, 61, 62, 63, 64, 65, 66, 67, 68, 69, 70, 71, 72, 73, 74, 75, 76, 77, 78, 79, 80, 81, 82, 83, 84, 85, 86, 87, 88, 89, 90, 91, 92, 93, 94, 95, 96, 97, 98, 99, 100, 101, 102, 103, 104, 105, 106, 107, 108, 109, 110, 111, 124, 125, 126, 127, 128, 129, 130, 131, 132, 133, 134, 135, 136, 137, 138, 139, 140, 141, 142, 143, 144, 145, 146, 147, 148, 149, 150, 151, 152, 153, 154, 155, 156, 157, 158] rfl gw_X8_find
set_option maxRecDepth 40000 in
theorem gX8_of_X8_find : GoodIn wsX8_of (wsV RX8 195 RX8 yX8_find wsX8_find) := goodIn_app (goodIn_r _ [15, 16, 17, 9] rfl rfl) gg_X8_of_X8_find
set_option maxRecDepth 40000 in
theorem gg_X8_of_X8_look : GoodIn wsX8_of wsX8_look := goodIn_r _ [75, 39, 76, 77, 124, 125, 126, 127, 128, 129, 130, 131, 132, 133, 134, 135, 136, 137, 138, 139, 140, 141, 142, 143, 144, 145, 146, 147, 148, 149, 150, 151, 152, 153, 154, 155, 156, 157, 158] rfl gw_X8_look
set_option maxRecDepth 40000 in
theorem gX8_of_X8_look : GoodIn wsX8_of (wsV RX8 135 RX8 yX8_look wsX8_look) := goodIn_app (goodIn_r _ [72, 73, 74, 9] rfl rfl) gg_X8_of_X8_look
set_option maxRecDepth 40000 in
theorem gw_X8_endOf : wsX8_endOf.all goodWord = true := rfl
set_option maxRecDepth 40000 in
theorem gg_X8_of_X8_endOf : GoodIn wsX8_of wsX8_endOf := goodIn_r _ [115, 4, 11, 2, 102, 124, 125, 126, 127, 128, 129, 130, 131, 132, 133, 134, 135, 136, 137, 138, 139, 140, 141, 142, 143, 144, 145, 146, 147, 148, 149, 150, 151, 152, 153, 154, 155, 156, 157, 158] rfl gw_X8_endOf
set_option maxRecDepth 40000 in
theorem gX8_of_X8_endOf : GoodIn wsX8_of (wsV RX8 201 RX8 yX8_endOf wsX8_endOf) := goodIn_app (goodIn_r _ [112, 113, 114, 9] rfl rfl) gg_X8_of_X8_endOf
set_option maxRecDepth 40000 in
theorem gw_X8_partnerOfLine : wsX8_partnerOfLine.all goodWord = true := rfl
set_option maxRecDepth 40000 in
theorem gg_X8_of_X8_partnerOfLine : GoodIn wsX8_of wsX8_partnerOfLine := goodIn_r _ [119, 83, 84, 124, 125, 126, 127, 128, 129, 130, 131, 132, 133, 134, 135, 136, 137, 138, 139, 140, 141, 142, 143, 144, 145, 146, 147, 148, 149, 150, 151, 152, 153, 154, 155, 156, 157, 158] rfl gw_X8_partnerOfLine
set_option maxRecDepth 40000 in
theorem gX8_of_X8_partnerOfLine : GoodIn wsX8_of (wsV RX8 204 RX8 yX8_partnerOfLine wsX8_partnerOfLine) := goodIn_app (goodIn_r _ [116, 117, 118, 9] rfl rfl) gg_X8_of_X8_partnerOfLine
set_option maxRecDepth 40000 in
theorem gw_X8_aboveOf : wsX8_aboveOf.all goodWord = true := rfl
set_option maxRecDepth 40000 in
theorem gg_X8_of_X8_aboveOf : GoodIn wsX8_of wsX8_aboveOf := goodIn_r _ [123, 4, 124, 125, 126, 127, 128, 129, 130, 131, 132, 133, 134, 135, 136, 137, 138, 139, 140, 141, 142, 143, 144, 145, 146, 147, 148, 149, 150, 151, 152, 153, 154, 155, 156, 157, 158] rfl gw_X8_aboveOf
set_option maxRecDepth 40000 in
theorem gX8_of_X8_aboveOf : GoodIn wsX8_of (wsV RX8 207 RX8 yX8_aboveOf wsX8_aboveOf) := goodIn_app (goodIn_r _ [120, 121, 122, 9] rfl rfl) gg_X8_of_X8_aboveOf
set_option maxRecDepth 40000 in
theorem gg_X8_counter_X8_isLine : GoodIn wsX8_counter wsX8_isLine := goodIn_r _ [7, 8, 9, 10, 6, 11, 112, 113, 114, 115, 116, 117, 118, 119, 120, 121, 122, 123, 124, 125, 126, 127, 128, 129, 130, 131, 132, 133, 134, 135, 136, 137, 138, 139, 140, 141, 142, 143, 144, 145, 146] rfl gw_X8_isLine
set_option maxRecDepth 40000 in
theorem gX8_counter_X8_isLine : GoodIn wsX8_counter (wsV RX8 124 RX8 yX8_isLine wsX8_isLine) := goodIn_app (goodIn_r _ [3, 4, 5, 6] rfl rfl) gg_X8_counter_X8_isLine
set_option maxRecDepth 40000 in
theorem gg_X8_counter_X8_in : GoodIn wsX8_counter wsX8_in := goodIn_r _ [11] rfl gw_X8_in
set_option maxRecDepth 40000 in
theorem gX8_counter_X8_in : GoodIn wsX8_counter (va_wsS RX8 100 yX8_in wsX8_in) := goodIn_app (goodIn_r _ [9, 10, 6] rfl rfl) gg_X8_counter_X8_in
set_option maxRecDepth 40000 in
theorem gg_X8_counter_X8_find : GoodIn wsX8_counter wsX8_find := goodIn_r _ [15, 16, 17, 18, 19, 6, 20, 8, 21, 22, 23, 24, 25, 2, 26, 27, 28, 29, 30, 31, 32, 33, 34, 35, 36, 37, 38, 39, 40, 41, 42, 43, 44, 45, 46, 47, 48, 49, 50, 51, 52, 53, 54, 55, 56, 57, 58, 59, 60, 61, 62, 63, 64, 65, 66, 67, 68, 69, 70, 71, 72, 73, 74, 75, 76, 77, 78, 79, 80, 81, 82, 83, 84, 85, 86, 87, 88, 89, 90, 91, 92, 93, 94, 95, 96, 97, 98, 99, 100, 101, 102, 103, 104, 105, 106, 107, 108, 109, 110, 111, 112, 113, 114, 115, 116, 117, 118, 119, 120, 121, 122, 123, 124, 125, 126, 127, 128, 129, 130, 131, 132, 133, 134, 135, 136, 137, 138, 139, 140, 141, 142, 143, 144, 145, 146] rfl gw_X8_find
set_option maxRecDepth 40000 in
theorem gX8_counter_X8_find : GoodIn wsX8_counter (wsV RX8 195 RX8 yX8_find wsX8_find) := goodIn_app (goodIn_r _ [12, 13, 14, 6] rfl rfl) gg_X8_counter_X8_find
set_option maxRecDepth 40000 in
theorem gg_X8_partner_X8_in : GoodIn wsX8_partner wsX8_in := goodIn_r _ [7] rfl gw_X8_in
set_option maxRecDepth 40000 in
theorem gX8_partner_X8_in : GoodIn wsX8_partner (va_wsS RX8 100 yX8_in wsX8_in) := goodIn_app (goodIn_r _ [4, 5, 6] rfl rfl) gg_X8_partner_X8_in
set_option maxRecDepth 40000 in
theorem gg_X8_partner_X8_find : GoodIn wsX8_partner wsX8_find := goodIn_r _ [11, 12, 13, 14, 15, 6, 16, 17, 18, 19, 20, 21, 22, 23, 24, 25, 26, 27, 28, 29, 30, 31, 32, 33, 34, 35, 36, 37, 38, 39, 40, 41, 42, 43, 44, 45, 46, 47, 48, 49, 50, 51, 52, 53, 54, 55, 56, 57, 58, 59, 60, 61, 62, 63, 64, 65, 66, 67, 68, 69, 70, 71, 72, 73, 74, 75, 76, 77, 78, 79, 80, 2, 3, 81, 82, 83, 84, 85, 86, 87, 88, 89, 90, 91, 92, 93, 94, 95, 96, 97, 98, 99, 100, 101, 102, 103, 104, 105, 106, 107, 108, 109, 110, 111, 112, 113, 114, 115, 116, 117, 118, 119, 120, 121, 122, 123, 124, 125, 126, 127, 128, 129, 130, 131, 132, 133, 134, 135, 136, 137, 138, 139, 140, 141, 142] rfl gw_X8_find
set_option maxRecDepth 40000 in
theorem gX8_partner_X8_find : GoodIn wsX8_partner (wsV RX8 195 RX8 yX8_find wsX8_find) := goodIn_app (goodIn_r _ [8, 9, 10, 6] rfl rfl) gg_X8_partner_X8_find
set_option maxRecDepth 40000 in
theorem gg_X8_shift_X8_in : GoodIn wsX8_shift wsX8_in := goodIn_r _ [7] rfl gw_X8_in
set_option maxRecDepth 40000 in
theorem gX8_shift_X8_in : GoodIn wsX8_shift (va_wsS RX8 100 yX8_in wsX8_in) := goodIn_app (goodIn_r _ [4, 5, 6] rfl rfl) gg_X8_shift_X8_in
set_option maxRecDepth 40000 in
theorem gg_X8_shift_X8_find : GoodIn wsX8_shift wsX8_find := goodIn_r _ [11, 12, 13, 14, 15, 6, 16, 17, 18, 19, 20, 21, 22, 23, 24, 25, 26, 27, 28, 29, 30, 31, 32, 33, 34, 35, 36, 37, 38, 39, 40, 41, 42, 43, 44, 45, 46, 47, 48, 49, 50, 51, 52, 53, 54, 55, 56, 57, 58, 59, 60, 61, 62, 63, 64, 65, 66, 67, 68, 69, 70, 71, 72, 73, 74, 75, 76, 77, 78, 79, 80, 81, 82, 83, 84, 85, 86, 87, 88, 89, 90, 91, 92, 93, 94, 95, 96, 97, 98, 99, 2, 100, 101, 102, 3, 103, 104, 105, 106, 107, 108, 109, 110, 111, 112, 113, 114, 115, 116, 117, 118, 119, 120, 121, 122, 123, 124, 125, 126, 127, 128, 129, 130, 131, 132, 133, 134, 135, 136, 137, 138, 139, 140, 141, 142] rfl gw_X8_find
set_option maxRecDepth 40000 in
theorem gX8_shift_X8_find : GoodIn wsX8_shift (wsV RX8 195 RX8 yX8_find wsX8_find) := goodIn_app (goodIn_r _ [8, 9, 10, 6] rfl rfl) gg_X8_shift_X8_find
set_option maxRecDepth 40000 in
theorem gg_X8_span_X8_in : GoodIn wsX8_span wsX8_in := goodIn_r _ [7] rfl gw_X8_in
set_option maxRecDepth 40000 in
theorem gX8_span_X8_in : GoodIn wsX8_span (va_wsS RX8 100 yX8_in wsX8_in) := goodIn_app (goodIn_r _ [4, 5, 6] rfl rfl) gg_X8_span_X8_in
set_option maxRecDepth 40000 in
theorem gg_X8_span_X8_find : GoodIn wsX8_span wsX8_find := goodIn_r _ [11, 12, 13, 14, 15, 6, 16, 17, 18, 19, 20, 21, 22, 23, 24, 25, 26, 27, 28, 29, 30, 31, 32, 33, 34, 35, 36, 37, 38, 39, 40, 41, 42, 43, 44, 45, 46, 47, 48, 49, 50, 51, 52, 53, 54, 55, 56, 57, 58, 59, 60, 61, 62, 63, 64, 65, 66, 67, 68, 69, 70, 71, 72, 73, 74, 75, 76, 77, 78, 79, 80, 81, 82, 83, 84, 85, 86, 87, 88, 89, 90, 91, 92, 93, 94, 95, 96, 97, 98, 99, 2, 100, 101, 3, 102, 103, 104, 105, 106, 107, 108, 109, 110, 111, 112, 113, 114, 115, 116, 117, 118, 119, 120, 121, 122, 123, 124, 125, 126, 127, 128, 129, 130, 131, 132, 133, 134, 135, 136, 137, 138, 139, 140, 141, 142] rfl gw_X8_find
set_option maxRecDepth 40000 in
theorem gX8_span_X8_find : GoodIn wsX8_span (wsV RX8 195 RX8 yX8_find wsX8_find) := goodIn_app (goodIn_r _ [8, 9, 10, 6] rfl rfl) gg_X8_span_X8_find
set_option maxRecDepth 40000 in
theorem gg_X8_wrong_X8_in : GoodIn wsX8_wrong wsX8_in := goodIn_r _ [6] rfl gw_X8_in
set_option maxRecDepth 40000 in
theorem gX8_wrong_X8_in : GoodIn wsX8_wrong (va_wsS RX8 100 yX8_in wsX8_in) := goodIn_app (goodIn_r _ [3, 4, 5] rfl rfl) gg_X8_wrong_X8_in
set_option maxRecDepth 40000 in
theorem gg_X8_wrong_X8_find : GoodIn wsX8_wrong wsX8_find := goodIn_r _ [10, 11, 12, 13, 14, 5, 15, 16, 17, 18, 19, 20, 21, 22, 23, 24, 25, 26, 27, 28, 29, 30, 31, 32, 33, 34, 35, 36, 37, 38, 39, 40, 41, 42, 43, 44, 45, 46, 47, 48, 49, 50, 51, 52, 53, 54, 55, 56, 57, 58, 59, 60, 61, 62, 63, 64, 65, 66, 67, 68, 69, 70, 71, 72, 73, 74, 75, 76, 77, 78, 79, 80, 81, 82, 83, 84, 85, 86, 87, 88, 89, 90, 91, 92, 93, 94, 95, 96, 97, 98, 2, 99, 100, 101, 102, 103, 104, 105, 106, 107, 112, 113, 114, 115, 116, 117, 118, 119, 120, 121, 122, 123, 124, 125, 126, 127, 128, 129, 130, 131, 132, 133, 134, 135, 136, 137, 138, 139, 140, 141, 142, 143, 144, 145, 146] rfl gw_X8_find
set_option maxRecDepth 40000 in
theorem gX8_wrong_X8_find : GoodIn wsX8_wrong (wsV RX8 195 RX8 yX8_find wsX8_find) := goodIn_app (goodIn_r _ [7, 8, 9, 5] rfl rfl) gg_X8_wrong_X8_find
set_option maxRecDepth 40000 in
theorem gg_X8_wrong_X8_isWrong : GoodIn wsX8_wrong wsX8_isWrong := goodIn_r _ [111, 93, 102, 112, 113, 114, 115, 116, 117, 118, 119, 120, 121, 122, 123, 124, 125, 126, 127, 128, 129, 130, 131, 132, 133, 134, 135, 136, 137, 138, 139, 140, 141, 142, 143, 144, 145, 146] rfl gw_X8_isWrong
set_option maxRecDepth 40000 in
theorem gX8_wrong_X8_isWrong : GoodIn wsX8_wrong (wsV RX8 198 RX8 yX8_isWrong wsX8_isWrong) := goodIn_app (goodIn_r _ [108, 109, 110, 5] rfl rfl) gg_X8_wrong_X8_isWrong
