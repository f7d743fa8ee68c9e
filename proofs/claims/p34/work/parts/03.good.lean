theorem gw_wsX1_compare : wsX1_compare.all goodWord = true := by decide +kernel
set_option maxRecDepth 20000 in
theorem ggX0_cutOut_X1_compare : GoodIn wsX0_cutOut wsX1_compare := goodIn_r _ [11, 12, 13, 14, 15, 16, 17, 18, 19, 20, 21, 22, 23, 24, 25, 26, 27, 28, 29, 30, 31, 32, 33, 34, 10, 35, 36, 37, 38, 75, 76, 77, 78, 79, 80, 81, 82, 83, 84, 85] rfl gw_wsX1_compare
set_option maxRecDepth 20000 in
theorem gX0_cutOut_X1_compare : GoodIn wsX0_cutOut (wsV RX0 29 RX1 yX1_compare wsX1_compare) := goodIn_app (goodIn_r _ [7, 8, 9, 10] rfl (by decide +kernel)) ggX0_cutOut_X1_compare
theorem gw_wsX1_addSquare : wsX1_addSquare.all goodWord = true := by decide +kernel
set_option maxRecDepth 20000 in
theorem ggX0_cutOut_X1_addSquare : GoodIn wsX0_cutOut wsX1_addSquare := goodIn_r _ [42, 32, 33, 34, 10, 35, 12, 36, 37, 38, 75, 76, 77, 78, 79, 80, 81] rfl gw_wsX1_addSquare
set_option maxRecDepth 20000 in
theorem gX0_cutOut_X1_addSquare : GoodIn wsX0_cutOut (wsV RX0 33 RX1 yX1_addSquare wsX1_addSquare) := goodIn_app (goodIn_r _ [39, 40, 41, 10] rfl (by decide +kernel)) ggX0_cutOut_X1_addSquare
theorem gw_wsX1_meet : wsX1_meet.all goodWord = true := by decide +kernel
set_option maxRecDepth 20000 in
theorem ggX0_cutOut_X1_meet : GoodIn wsX0_cutOut wsX1_meet := goodIn_r _ [46, 36, 37, 38, 47, 48, 49, 50, 51, 52, 10, 53, 12, 75, 76, 77, 78, 79, 80, 81] rfl gw_wsX1_meet
set_option maxRecDepth 20000 in
theorem gX0_cutOut_X1_meet : GoodIn wsX0_cutOut (wsV RX0 37 RX1 yX1_meet wsX1_meet) := goodIn_app (goodIn_r _ [43, 44, 45, 10] rfl (by decide +kernel)) ggX0_cutOut_X1_meet
theorem gw_wsX1_holdMeeting : wsX1_holdMeeting.all goodWord = true := by decide +kernel
set_option maxRecDepth 20000 in
theorem ggX0_cutOut_X1_holdMeeting : GoodIn wsX0_cutOut wsX1_holdMeeting := goodIn_r _ [57, 12, 36, 37, 38, 58, 59, 60, 10, 61, 47, 48, 49, 75, 76, 77, 78, 79, 80, 81] rfl gw_wsX1_holdMeeting
set_option maxRecDepth 20000 in
theorem gX0_cutOut_X1_holdMeeting : GoodIn wsX0_cutOut (wsV RX0 41 RX1 yX1_holdMeeting wsX1_holdMeeting) := goodIn_app (goodIn_r _ [54, 55, 56, 10] rfl (by decide +kernel)) ggX0_cutOut_X1_holdMeeting
theorem gw_wsX0_putOnce : wsX0_putOnce.all goodWord = true := by decide +kernel
set_option maxRecDepth 20000 in
theorem ggX0_cutOut_X0_putOnce : GoodIn wsX0_cutOut wsX0_putOnce := goodIn_r _ [66, 2, 67, 68, 69, 70, 71, 72, 73, 74] rfl gw_wsX0_putOnce
set_option maxRecDepth 20000 in
theorem gX0_cutOut_X0_putOnce : GoodIn wsX0_cutOut (wsV RX0 54 RX0 yX0_putOnce wsX0_putOnce) := goodIn_app (goodIn_r _ [62, 63, 64, 65] rfl (by decide +kernel)) ggX0_cutOut_X0_putOnce
theorem gw_wsX0_cutOut : wsX0_cutOut.all goodWord = true := by decide +kernel
set_option maxRecDepth 20000 in
theorem ggX0_hides_X0_cutOut : GoodIn wsX0_hides wsX0_cutOut := goodIn_r _ [5, 6, 7, 8, 9, 10, 11, 12, 13, 14, 15, 16, 17, 18, 19, 20, 21, 22, 23, 24, 25, 26, 27, 28, 29, 30, 31, 32, 33, 34, 35, 36, 37, 38, 39, 40, 41, 42, 43, 44, 45, 46, 47, 48, 49, 50, 51, 52, 53, 54, 55, 56, 57, 58, 59, 60, 61, 62, 63, 64, 65, 66, 67, 68, 69, 4, 70, 71, 72, 73, 78, 79, 80, 81, 82, 83, 84, 85, 86, 87, 88, 89, 90, 91, 92, 93] rfl gw_wsX0_cutOut
set_option maxRecDepth 20000 in
theorem gX0_hides_X0_cutOut : GoodIn wsX0_hides (wsV RX0 58 RX0 yX0_cutOut wsX0_cutOut) := goodIn_app (goodIn_r _ [1, 2, 3, 4] rfl (by decide +kernel)) ggX0_hides_X0_cutOut
theorem gw_wsX0_polygonCorners : wsX0_polygonCorners.all goodWord = true := by decide +kernel
set_option maxRecDepth 20000 in
theorem ggX0_hides_X0_polygonCorners : GoodIn wsX0_hides wsX0_polygonCorners := goodIn_r _ [77, 7, 78, 79, 80, 81, 82] rfl gw_wsX0_polygonCorners
set_option maxRecDepth 20000 in
theorem gX0_hides_X0_polygonCorners : GoodIn wsX0_hides (wsV RX0 61 RX0 yX0_polygonCorners wsX0_polygonCorners) := goodIn_app (goodIn_r _ [74, 75, 76, 4] rfl (by decide +kernel)) ggX0_hides_X0_polygonCorners
theorem gw_wsX1_borderHolds : wsX1_borderHolds.all goodWord = true := by decide +kernel
set_option maxRecDepth 20000 in
theorem ggX0_cornersSharedWith_X1_borderHolds : GoodIn wsX0_cornersSharedWith wsX1_borderHolds := goodIn_r _ [10, 11, 12, 13, 14, 15, 16, 9, 17, 18, 24, 25, 26, 27, 28, 29, 30] rfl gw_wsX1_borderHolds
set_option maxRecDepth 20000 in
theorem gX0_cornersSharedWith_X1_borderHolds : GoodIn wsX0_cornersSharedWith (wsV RX0 65 RX1 yX1_borderHolds wsX1_borderHolds) := goodIn_app (goodIn_r _ [6, 7, 8, 9] rfl (by decide +kernel)) ggX0_cornersSharedWith_X1_borderHolds
theorem gw_wsX0_isBefore : wsX0_isBefore.all goodWord = true := by decide +kernel
set_option maxRecDepth 20000 in
theorem ggX0_putInOrder_X0_isBefore : GoodIn wsX0_putInOrder wsX0_isBefore := goodIn_r _ [6, 7, 8, 9, 21, 22, 23, 24, 25] rfl gw_wsX0_isBefore
set_option maxRecDepth 20000 in
theorem gX0_putInOrder_X0_isBefore : GoodIn wsX0_putInOrder (wsV RX0 69 RX0 yX0_isBefore wsX0_isBefore) := goodIn_app (goodIn_r _ [2, 3, 4, 5] rfl (by decide +kernel)) ggX0_putInOrder_X0_isBefore
theorem gw_wsX0_swap : wsX0_swap.all goodWord = true := by decide +kernel
set_option maxRecDepth 20000 in
theorem ggX0_putInOrder_X0_swap : GoodIn wsX0_putInOrder wsX0_swap := goodIn_r _ [13, 7, 9, 8, 14, 15, 5, 16, 21, 22, 23, 24, 25] rfl gw_wsX0_swap
set_option maxRecDepth 20000 in
theorem gX0_putInOrder_X0_swap : GoodIn wsX0_putInOrder (wsV RX0 72 RX0 yX0_swap wsX0_swap) := goodIn_app (goodIn_r _ [10, 11, 12, 5] rfl (by decide +kernel)) ggX0_putInOrder_X0_swap
theorem gw_wsX0_turn : wsX0_turn.all goodWord = true := by decide +kernel
set_option maxRecDepth 20000 in
theorem ggX0_putInOrder_X0_turn : GoodIn wsX0_putInOrder wsX0_turn := goodIn_r _ [20, 7, 9, 8, 21, 22, 23, 24, 25] rfl gw_wsX0_turn
set_option maxRecDepth 20000 in
theorem gX0_putInOrder_X0_turn : GoodIn wsX0_putInOrder (wsV RX0 76 RX0 yX0_turn wsX0_turn) := goodIn_app (goodIn_r _ [17, 18, 19, 5] rfl (by decide +kernel)) ggX0_putInOrder_X0_turn
theorem gw_wsX0_swapIn : wsX0_swapIn.all goodWord = true := by decide +kernel
set_option maxRecDepth 20000 in
theorem ggX0_swap_X0_swapIn : GoodIn wsX0_swap wsX0_swapIn := goodIn_r _ [7] rfl gw_wsX0_swapIn
set_option maxRecDepth 20000 in
theorem gX0_swap_X0_swapIn : GoodIn wsX0_swap (va_wsS RX0 80 yX0_swapIn wsX0_swapIn) := goodIn_app (goodIn_r _ [4, 5, 6] rfl (by decide +kernel)) ggX0_swap_X0_swapIn
theorem gw_wsX0_coordinate : wsX0_coordinate.all goodWord = true := by decide +kernel
set_option maxRecDepth 20000 in
theorem ggX0_commonDivisor_X0_coordinate : GoodIn wsX0_commonDivisor wsX0_coordinate := goodIn_r _ [10, 11, 12, 13, 14, 15, 16, 17] rfl gw_wsX0_coordinate
set_option maxRecDepth 20000 in
theorem gX0_commonDivisor_X0_coordinate : GoodIn wsX0_commonDivisor (wsV RX0 84 RX0 yX0_coordinate wsX0_coordinate) := goodIn_app (goodIn_r _ [6, 7, 8, 9] rfl (by decide +kernel)) ggX0_commonDivisor_X0_coordinate
theorem gw_wsX4_has : wsX4_has.all goodWord = true := by decide +kernel
set_option maxRecDepth 20000 in
theorem ggX1_compare_X4_has : GoodIn wsX1_compare wsX4_has := goodIn_r _ [9, 10, 36, 37, 38, 39] rfl gw_wsX4_has
set_option maxRecDepth 20000 in
theorem gX1_compare_X4_has : GoodIn wsX1_compare (wsV RX1 34 RX4 yX4_has wsX4_has) := goodIn_app (goodIn_r _ [5, 6, 7, 8] rfl (by decide +kernel)) ggX1_compare_X4_has
theorem gw_wsX4_levelOf : wsX4_levelOf.all goodWord = true := by decide +kernel
set_option maxRecDepth 20000 in
theorem ggX1_compare_X4_levelOf : GoodIn wsX1_compare wsX4_levelOf := goodIn_r _ [14, 15, 16, 17, 18, 19, 8, 20, 36, 37, 38, 39] rfl gw_wsX4_levelOf
set_option maxRecDepth 20000 in
theorem gX1_compare_X4_levelOf : GoodIn wsX1_compare (wsV RX1 47 RX4 yX4_levelOf wsX4_levelOf) := goodIn_app (goodIn_r _ [11, 12, 13, 8] rfl (by decide +kernel)) ggX1_compare_X4_levelOf
theorem gw_wsX1_put : wsX1_put.all goodWord = true := by decide +kernel
set_option maxRecDepth 20000 in
theorem ggX1_compare_X1_put : GoodIn wsX1_compare wsX1_put := goodIn_r _ [25, 1, 26, 27, 28, 29, 30, 31, 32, 33, 34, 35] rfl gw_wsX1_put
set_option maxRecDepth 20000 in
theorem gX1_compare_X1_put : GoodIn wsX1_compare (wsV RX1 51 RX1 yX1_put wsX1_put) := goodIn_app (goodIn_r _ [21, 22, 23, 24] rfl (by decide +kernel)) ggX1_compare_X1_put
set_option maxRecDepth 20000 in
theorem ggX1_addSquare_X1_put : GoodIn wsX1_addSquare wsX1_put := goodIn_r _ [5, 6, 7, 8, 9, 10, 11, 12, 13, 14, 15, 16] rfl gw_wsX1_put
set_option maxRecDepth 20000 in
theorem gX1_addSquare_X1_put : GoodIn wsX1_addSquare (wsV RX1 51 RX1 yX1_put wsX1_put) := goodIn_app (goodIn_r _ [1, 2, 3, 4] rfl (by decide +kernel)) ggX1_addSquare_X1_put
theorem gw_wsX1_has : wsX1_has.all goodWord = true := by decide +kernel
set_option maxRecDepth 20000 in
theorem ggX1_meet_X1_has : GoodIn wsX1_meet wsX1_has := goodIn_r _ [11, 12, 13, 14, 15, 16, 17, 18, 19] rfl gw_wsX1_has
set_option maxRecDepth 20000 in
theorem gX1_meet_X1_has : GoodIn wsX1_meet (wsV RX1 55 RX1 yX1_has wsX1_has) := goodIn_app (goodIn_r _ [7, 8, 9, 10] rfl (by decide +kernel)) ggX1_meet_X1_has
theorem gw_wsX1_meetingIsBeyond : wsX1_meetingIsBeyond.all goodWord = true := by decide +kernel
set_option maxRecDepth 20000 in
theorem ggX1_holdMeeting_X1_meetingIsBeyond : GoodIn wsX1_holdMeeting wsX1_meetingIsBeyond := goodIn_r _ [9, 10, 11, 12, 13, 14, 15, 16, 17, 18, 19] rfl gw_wsX1_meetingIsBeyond
set_option maxRecDepth 20000 in
theorem gX1_holdMeeting_X1_meetingIsBeyond : GoodIn wsX1_holdMeeting (wsV RX1 56 RX1 yX1_meetingIsBeyond wsX1_meetingIsBeyond) := goodIn_app (goodIn_r _ [5, 6, 7, 8] rfl (by decide +kernel)) ggX1_holdMeeting_X1_meetingIsBeyond
set_option maxRecDepth 20000 in
theorem ggX1_borderHolds_X1_has : GoodIn wsX1_borderHolds wsX1_has := goodIn_r _ [8, 9, 10, 11, 12, 13, 14, 15, 16] rfl gw_wsX1_has
set_option maxRecDepth 20000 in
theorem gX1_borderHolds_X1_has : GoodIn wsX1_borderHolds (wsV RX1 55 RX1 yX1_has wsX1_has) := goodIn_app (goodIn_r _ [4, 5, 6, 7] rfl (by decide +kernel)) ggX1_borderHolds_X1_has
theorem gw_wsX4_init : wsX4_init.all goodWord = true := by decide +kernel
set_option maxRecDepth 20000 in
theorem ggX2_init_X4_init : GoodIn wsX2_init wsX4_init := goodIn_r _ [12, 13, 2, 3, 14, 15, 16, 17, 18, 22, 23, 24, 25] rfl gw_wsX4_init
set_option maxRecDepth 20000 in
theorem gX2_init_X4_init : GoodIn wsX2_init (wsX4_init) := ggX2_init_X4_init
theorem gw_wsX4_copy : wsX4_copy.all goodWord = true := by decide +kernel
set_option maxRecDepth 20000 in
theorem ggX2_begin_X4_copy : GoodIn wsX2_begin wsX4_copy := goodIn_r _ [6, 7, 8, 9, 10, 14, 15, 16, 17] rfl gw_wsX4_copy
set_option maxRecDepth 20000 in
theorem gX2_begin_X4_copy : GoodIn wsX2_begin (va_wsS RX2 26 yX4_copy wsX4_copy) := goodIn_app (goodIn_r _ [3, 4, 5] rfl (by decide +kernel)) ggX2_begin_X4_copy
theorem gw_wsX2_removes : wsX2_removes.all goodWord = true := by decide +kernel
set_option maxRecDepth 20000 in
theorem ggX2_succeeds_X2_removes : GoodIn wsX2_succeeds wsX2_removes := goodIn_r _ [8, 1, 3, 9, 10, 11, 12, 13, 14, 15, 16, 17, 18, 19, 20, 21, 22, 132, 133, 134, 135, 136, 137, 138] rfl gw_wsX2_removes
set_option maxRecDepth 20000 in
theorem gX2_succeeds_X2_removes : GoodIn wsX2_succeeds (wsV RX2 30 RX2 yX2_removes wsX2_removes) := goodIn_app (goodIn_r _ [4, 5, 6, 7] rfl (by decide +kernel)) ggX2_succeeds_X2_removes
theorem gw_wsX2_weighs : wsX2_weighs.all goodWord = true := by decide +kernel
set_option maxRecDepth 20000 in
theorem ggX2_succeeds_X2_weighs : GoodIn wsX2_succeeds wsX2_weighs := goodIn_r _ [26, 1, 27, 9, 10, 11, 12, 13, 14, 28, 29, 30, 132, 133, 134, 135, 136, 137, 138] rfl gw_wsX2_weighs
set_option maxRecDepth 20000 in
theorem gX2_succeeds_X2_weighs : GoodIn wsX2_succeeds (wsV RX2 34 RX2 yX2_weighs wsX2_weighs) := goodIn_app (goodIn_r _ [23, 24, 25, 7] rfl (by decide +kernel)) ggX2_succeeds_X2_weighs
set_option maxRecDepth 20000 in
theorem ggX2_succeeds_X4_has : GoodIn wsX2_succeeds wsX4_has := goodIn_r _ [13, 14, 135, 136, 137, 138] rfl gw_wsX4_has
set_option maxRecDepth 20000 in
theorem gX2_succeeds_X4_has : GoodIn wsX2_succeeds (wsV RX2 38 RX4 yX4_has wsX4_has) := goodIn_app (goodIn_r _ [9, 10, 11, 12] rfl (by decide +kernel)) ggX2_succeeds_X4_has
theorem gw_wsX0_hides : wsX0_hides.all goodWord = true := by decide +kernel
set_option maxRecDepth 20000 in
theorem ggX2_succeeds_X0_hides : GoodIn wsX2_succeeds wsX0_hides := goodIn_r _ [35, 36, 37, 38, 34, 39, 40, 41, 42, 43, 44, 45, 46, 47, 48, 49, 50, 51, 52, 53, 54, 55, 10, 11, 12, 13, 14, 56, 57, 58, 59, 19, 20, 21, 60, 61, 62, 63, 64, 65, 66, 67, 68, 69, 70, 71, 72, 73, 74, 75, 76, 77, 78, 79, 80, 81, 82, 83, 84, 85, 86, 87, 88, 89, 90, 91, 92, 93, 94, 95, 96, 97, 98, 99, 100, 101, 102, 103, 139, 140, 141, 142, 143, 144, 145, 146, 147, 148, 149, 150, 135, 136, 137, 138] rfl gw_wsX0_hides
set_option maxRecDepth 20000 in
theorem gX2_succeeds_X0_hides : GoodIn wsX2_succeeds (wsV RX2 41 RX0 yX0_hides wsX0_hides) := goodIn_app (goodIn_r _ [31, 32, 33, 34] rfl (by decide +kernel)) ggX2_succeeds_X0_hides
theorem gw_wsX2_finds : wsX2_finds.all goodWord = true := by decide +kernel
set_option maxRecDepth 20000 in
theorem ggX2_succeeds_X2_finds : GoodIn wsX2_succeeds wsX2_finds := goodIn_r _ [107, 1, 108, 3, 109, 29, 110, 111, 112, 113, 12, 114, 115, 116, 117, 118, 14, 119, 120, 121, 122, 21, 123, 124, 125, 126, 19, 20, 132, 133, 134, 135, 136, 137, 138] rfl gw_wsX2_finds
set_option maxRecDepth 20000 in
theorem gX2_succeeds_X2_finds : GoodIn wsX2_succeeds (wsV RX2 47 RX2 yX2_finds wsX2_finds) := goodIn_app (goodIn_r _ [104, 105, 106, 7] rfl (by decide +kernel)) ggX2_succeeds_X2_finds
theorem gw_wsX4_pointsOwnedBy : wsX4_pointsOwnedBy.all goodWord = true := by decide +kernel
set_option maxRecDepth 20000 in
theorem ggX2_succeeds_X4_pointsOwnedBy : GoodIn wsX2_succeeds wsX4_pointsOwnedBy := goodIn_r _ [130, 131, 112, 113, 12, 114, 115, 116, 117, 118, 14, 119, 120, 121, 122, 21, 123, 124, 125, 126, 19, 20, 135, 136, 137, 138] rfl gw_wsX4_pointsOwnedBy
set_option maxRecDepth 20000 in
theorem gX2_succeeds_X4_pointsOwnedBy : GoodIn wsX2_succeeds (wsV RX2 50 RX4 yX4_pointsOwnedBy wsX4_pointsOwnedBy) := goodIn_app (goodIn_r _ [127, 128, 129, 12] rfl (by decide +kernel)) ggX2_succeeds_X4_pointsOwnedBy
set_option maxRecDepth 20000 in
theorem ggX2_removes_X4_has : GoodIn wsX2_removes wsX4_has := goodIn_r _ [7, 8, 20, 21, 22, 23] rfl gw_wsX4_has
set_option maxRecDepth 20000 in
theorem gX2_removes_X4_has : GoodIn wsX2_removes (wsV RX2 38 RX4 yX4_has wsX4_has) := goodIn_app (goodIn_r _ [3, 4, 5, 6] rfl (by decide +kernel)) ggX2_removes_X4_has
theorem gw_wsX4_drop : wsX4_drop.all goodWord = true := by decide +kernel
set_option maxRecDepth 20000 in
theorem ggX2_removes_X4_drop : GoodIn wsX2_removes wsX4_drop := goodIn_r _ [12, 8, 13, 14, 15, 16, 4, 5, 6, 7, 20, 21, 22, 23] rfl gw_wsX4_drop
set_option maxRecDepth 20000 in
theorem gX2_removes_X4_drop : GoodIn wsX2_removes (wsV RX2 54 RX4 yX4_drop wsX4_drop) := goodIn_app (goodIn_r _ [9, 10, 11, 6] rfl (by decide +kernel)) ggX2_removes_X4_drop
set_option maxRecDepth 20000 in
theorem ggX2_weighs_X4_has : GoodIn wsX2_weighs wsX4_has := goodIn_r _ [7, 8, 15, 16, 17, 18] rfl gw_wsX4_has
set_option maxRecDepth 20000 in
theorem gX2_weighs_X4_has : GoodIn wsX2_weighs (wsV RX2 38 RX4 yX4_has wsX4_has) := goodIn_app (goodIn_r _ [3, 4, 5, 6] rfl (by decide +kernel)) ggX2_weighs_X4_has
theorem gw_wsX5_isWeight : wsX5_isWeight.all goodWord = true := by decide +kernel
set_option maxRecDepth 20000 in
theorem ggX2_weighs_X5_isWeight : GoodIn wsX2_weighs wsX5_isWeight := goodIn_r _ [11] rfl gw_wsX5_isWeight
set_option maxRecDepth 20000 in
theorem gX2_weighs_X5_isWeight_n58 : GoodIn wsX2_weighs (wsX5_isWeight) := ggX2_weighs_X5_isWeight
theorem gw_wsX5_inSquare : wsX5_inSquare.all goodWord = true := by decide +kernel
set_option maxRecDepth 20000 in
theorem ggX2_finds_X5_inSquare : GoodIn wsX2_finds wsX5_inSquare := goodIn_r _ [6] rfl gw_wsX5_inSquare
set_option maxRecDepth 20000 in
theorem gX2_finds_X5_inSquare_n65 : GoodIn wsX2_finds (wsX5_inSquare) := ggX2_finds_X5_inSquare
theorem gw_wsX4_ownerAt : wsX4_ownerAt.all goodWord = true := by decide +kernel
set_option maxRecDepth 20000 in
theorem ggX2_finds_X4_ownerAt : GoodIn wsX2_finds wsX4_ownerAt := goodIn_r _ [11, 12, 13, 14, 10, 15, 16, 17, 18, 19, 20, 21, 22, 23, 24, 25, 26, 27, 31, 32, 33, 34] rfl gw_wsX4_ownerAt
set_option maxRecDepth 20000 in
theorem gX2_finds_X4_ownerAt : GoodIn wsX2_finds (wsV RX2 71 RX4 yX4_ownerAt wsX4_ownerAt) := goodIn_app (goodIn_r _ [7, 8, 9, 10] rfl (by decide +kernel)) ggX2_finds_X4_ownerAt
theorem gw_wsX3_mayStandAt : wsX3_mayStandAt.all goodWord = true := by decide +kernel
set_option maxRecDepth 20000 in
theorem ggX3_firstError_X3_mayStandAt : GoodIn wsX3_firstError wsX3_mayStandAt := goodIn_r _ [6, 7, 8, 9, 10, 5, 11, 12, 13, 14, 15, 1, 16, 17] rfl gw_wsX3_mayStandAt
set_option maxRecDepth 20000 in
theorem gX3_firstError_X3_mayStandAt : GoodIn wsX3_firstError (wsV RX3 19 RX3 yX3_mayStandAt wsX3_mayStandAt) := goodIn_app (goodIn_r _ [2, 3, 4, 5] rfl (by decide +kernel)) ggX3_firstError_X3_mayStandAt
theorem gw_wsX3_greatestDigitAt : wsX3_greatestDigitAt.all goodWord = true := by decide +kernel
set_option maxRecDepth 20000 in
theorem ggX3_mayStandAt_X3_greatestDigitAt : GoodIn wsX3_mayStandAt wsX3_greatestDigitAt := goodIn_r _ [6, 7, 8, 9, 5, 10, 11, 1, 12, 13] rfl gw_wsX3_greatestDigitAt
set_option maxRecDepth 20000 in
theorem gX3_mayStandAt_X3_greatestDigitAt : GoodIn wsX3_mayStandAt (wsV RX3 23 RX3 yX3_greatestDigitAt wsX3_greatestDigitAt) := goodIn_app (goodIn_r _ [2, 3, 4, 5] rfl (by decide +kernel)) ggX3_mayStandAt_X3_greatestDigitAt
theorem gw_wsX3_characterAt : wsX3_characterAt.all goodWord = true := by decide +kernel
set_option maxRecDepth 20000 in
theorem ggX3_greatestDigitAt_X3_characterAt : GoodIn wsX3_greatestDigitAt wsX3_characterAt := goodIn_r _ [5, 6, 7, 8, 9] rfl gw_wsX3_characterAt
set_option maxRecDepth 20000 in
theorem gX3_greatestDigitAt_X3_characterAt : GoodIn wsX3_greatestDigitAt (wsV RX3 27 RX3 yX3_characterAt wsX3_characterAt) := goodIn_app (goodIn_r _ [1, 2, 3, 4] rfl (by decide +kernel)) ggX3_greatestDigitAt_X3_characterAt
theorem gw_wsX3_number : wsX3_number.all goodWord = true := by decide +kernel
set_option maxRecDepth 20000 in
theorem ggX3_readInto_X3_number : GoodIn wsX3_readInto wsX3_number := goodIn_r _ [7, 8, 9, 10, 6, 11, 2, 12, 26, 27] rfl gw_wsX3_number
set_option maxRecDepth 20000 in
theorem gX3_readInto_X3_number : GoodIn wsX3_readInto (wsV RX3 35 RX3 yX3_number wsX3_number) := goodIn_app (goodIn_r _ [3, 4, 5, 6] rfl (by decide +kernel)) ggX3_readInto_X3_number
theorem gw_wsX4_put : wsX4_put.all goodWord = true := by decide +kernel
set_option maxRecDepth 20000 in
theorem ggX3_readInto_X4_put : GoodIn wsX3_readInto wsX4_put := goodIn_r _ [17, 18, 19, 20, 21, 22, 23, 24, 25] rfl gw_wsX4_put
set_option maxRecDepth 20000 in
theorem gX3_readInto_X4_put : GoodIn wsX3_readInto (wsV RX3 39 RX4 yX4_put wsX4_put) := goodIn_app (goodIn_r _ [13, 14, 15, 16] rfl (by decide +kernel)) ggX3_readInto_X4_put
set_option maxRecDepth 20000 in
theorem ggX3_number_X3_characterAt : GoodIn wsX3_number wsX3_characterAt := goodIn_r _ [5, 6, 7, 8, 9] rfl gw_wsX3_characterAt
set_option maxRecDepth 20000 in
theorem gX3_number_X3_characterAt : GoodIn wsX3_number (wsV RX3 27 RX3 yX3_characterAt wsX3_characterAt) := goodIn_app (goodIn_r _ [1, 2, 3, 4] rfl (by decide +kernel)) ggX3_number_X3_characterAt
set_option maxRecDepth 20000 in
theorem ggX4_drop_X4_has : GoodIn wsX4_drop wsX4_has := goodIn_r _ [9, 1, 10, 11, 12, 13] rfl gw_wsX4_has
set_option maxRecDepth 20000 in
theorem gX4_drop_X4_has : GoodIn wsX4_drop (wsV RX4 25 RX4 yX4_has wsX4_has) := goodIn_app (goodIn_r _ [5, 6, 7, 8] rfl (by decide +kernel)) ggX4_drop_X4_has
theorem gw_wsX4_squareTo : wsX4_squareTo.all goodWord = true := by decide +kernel
set_option maxRecDepth 20000 in
theorem ggX4_power_X4_squareTo : GoodIn wsX4_power wsX4_squareTo := goodIn_r _ [6, 7, 8, 9, 10, 11, 12] rfl gw_wsX4_squareTo
set_option maxRecDepth 20000 in
theorem gX4_power_X4_squareTo : GoodIn wsX4_power (wsV RX4 29 RX4 yX4_squareTo wsX4_squareTo) := goodIn_app (goodIn_r _ [2, 3, 4, 5] rfl (by decide +kernel)) ggX4_power_X4_squareTo
theorem gw_wsX4_ownerWithout : wsX4_ownerWithout.all goodWord = true := by decide +kernel
set_option maxRecDepth 20000 in
theorem ggX4_ownerAt_X4_ownerWithout : GoodIn wsX4_ownerAt wsX4_ownerWithout := goodIn_r _ [5, 6, 7, 8, 9, 4, 10, 11, 12, 13, 14, 15, 16, 17, 18, 19, 20, 21] rfl gw_wsX4_ownerWithout
set_option maxRecDepth 20000 in
theorem gX4_ownerAt_X4_ownerWithout : GoodIn wsX4_ownerAt (wsV RX4 33 RX4 yX4_ownerWithout wsX4_ownerWithout) := goodIn_app (goodIn_r _ [1, 2, 3, 4] rfl (by decide +kernel)) ggX4_ownerAt_X4_ownerWithout
theorem gw_wsX4_power : wsX4_power.all goodWord = true := by decide +kernel
set_option maxRecDepth 20000 in
theorem ggX4_ownerWithout_X4_power : GoodIn wsX4_ownerWithout wsX4_power := goodIn_r _ [6, 7, 8, 9, 10, 5, 11, 12, 13, 14, 15, 16, 17] rfl gw_wsX4_power
set_option maxRecDepth 20000 in
theorem gX4_ownerWithout_X4_power : GoodIn wsX4_ownerWithout (wsV RX4 36 RX4 yX4_power wsX4_power) := goodIn_app (goodIn_r _ [2, 3, 4, 5] rfl (by decide +kernel)) ggX4_ownerWithout_X4_power
set_option maxRecDepth 20000 in
theorem ggX4_pointsOwnedBy_X4_ownerAt : GoodIn wsX4_pointsOwnedBy wsX4_ownerAt := goodIn_r _ [5, 6, 7, 8, 4, 9, 10, 11, 12, 13, 14, 15, 16, 17, 18, 19, 20, 21, 22, 23, 24, 25] rfl gw_wsX4_ownerAt
set_option maxRecDepth 20000 in
theorem gX4_pointsOwnedBy_X4_ownerAt : GoodIn wsX4_pointsOwnedBy (wsV RX4 39 RX4 yX4_ownerAt wsX4_ownerAt) := goodIn_app (goodIn_r _ [1, 2, 3, 4] rfl (by decide +kernel)) ggX4_pointsOwnedBy_X4_ownerAt
set_option maxRecDepth 20000 in
theorem ggX4_weightToOwn_X4_squareTo : GoodIn wsX4_weightToOwn wsX4_squareTo := goodIn_r _ [10, 11, 12, 18, 19, 20, 21] rfl gw_wsX4_squareTo
set_option maxRecDepth 20000 in
theorem gX4_weightToOwn_X4_squareTo : GoodIn wsX4_weightToOwn (wsV RX4 29 RX4 yX4_squareTo wsX4_squareTo) := goodIn_app (goodIn_r _ [6, 7, 8, 9] rfl (by decide +kernel)) ggX4_weightToOwn_X4_squareTo
set_option maxRecDepth 20000 in
theorem ggX4_weightToOwn_X4_power : GoodIn wsX4_weightToOwn wsX4_power := goodIn_r _ [16, 17, 6, 7, 8, 9, 10, 11, 12, 18, 19, 20, 21] rfl gw_wsX4_power
set_option maxRecDepth 20000 in
theorem gX4_weightToOwn_X4_power : GoodIn wsX4_weightToOwn (wsV RX4 36 RX4 yX4_power wsX4_power) := goodIn_app (goodIn_r _ [13, 14, 15, 9] rfl (by decide +kernel)) ggX4_weightToOwn_X4_power
theorem gw_wsX4_level : wsX4_level.all goodWord = true := by decide +kernel
set_option maxRecDepth 20000 in
theorem ggX4_levelOf_X4_level : GoodIn wsX4_levelOf wsX4_level := goodIn_r _ [7] rfl gw_wsX4_level
set_option maxRecDepth 20000 in
theorem gX4_levelOf_X4_level : GoodIn wsX4_levelOf (va_wsS RX4 48 yX4_level wsX4_level) := goodIn_app (goodIn_r _ [4, 5, 6] rfl (by decide +kernel)) ggX4_levelOf_X4_level
theorem gw_wsX3_init : wsX3_init.all goodWord = true := by decide +kernel
set_option maxRecDepth 20000 in
theorem ggX5_init_X3_init : GoodIn wsX5_init wsX3_init := goodIn_r _ [38, 39, 2, 3, 30, 40, 41, 83, 84] rfl gw_wsX3_init
set_option maxRecDepth 20000 in
theorem gX5_init_X3_init : GoodIn wsX5_init (wsX3_init) := ggX5_init_X3_init
set_option maxRecDepth 20000 in
theorem ggX5_init_X4_init : GoodIn wsX5_init wsX4_init := goodIn_r _ [44, 45, 2, 3, 30, 46, 47, 48, 49, 100, 101, 102, 103] rfl gw_wsX4_init
set_option maxRecDepth 20000 in
theorem gX5_init_X4_init : GoodIn wsX5_init (wsX4_init) := ggX5_init_X4_init
theorem gw_wsX1_init : wsX1_init.all goodWord = true := by decide +kernel
set_option maxRecDepth 20000 in
theorem ggX5_init_X1_init : GoodIn wsX5_init wsX1_init := goodIn_r _ [52, 53, 2, 3, 30, 54, 55, 56, 57, 58, 59, 60, 104, 105, 106, 107, 108, 109, 110] rfl gw_wsX1_init
set_option maxRecDepth 20000 in
theorem gX5_init_X1_init : GoodIn wsX5_init (wsX1_init) := ggX5_init_X1_init
theorem gw_wsX0_init : wsX0_init.all goodWord = true := by decide +kernel
set_option maxRecDepth 20000 in
theorem ggX5_init_X0_init : GoodIn wsX5_init wsX0_init := goodIn_r _ [63, 64, 2, 3, 65, 30, 66, 67, 68, 69, 111, 112, 113, 114, 115] rfl gw_wsX0_init
set_option maxRecDepth 20000 in
theorem gX5_init_X0_init : GoodIn wsX5_init (wsX0_init) := ggX5_init_X0_init
theorem gw_wsX2_init : wsX2_init.all goodWord = true := by decide +kernel
set_option maxRecDepth 20000 in
theorem ggX5_init_X2_init : GoodIn wsX5_init wsX2_init := goodIn_r _ [72, 73, 2, 3, 74, 75, 9, 10, 76, 77, 78, 43, 44, 45, 30, 46, 47, 48, 49, 116, 117, 118, 100, 101, 102, 103] rfl gw_wsX2_init
set_option maxRecDepth 20000 in
theorem gX5_init_X2_init : GoodIn wsX5_init (wsX2_init) := ggX5_init_X2_init
theorem gw_wsX5_newRow : wsX5_newRow.all goodWord = true := by decide +kernel
set_option maxRecDepth 20000 in
theorem ggX5_init_X5_newRow : GoodIn wsX5_init wsX5_newRow := goodIn_r _ [82, 8, 9, 10, 42, 43, 44, 45, 2, 3, 30, 46, 47, 48, 49, 100, 101, 102, 103] rfl gw_wsX5_newRow
set_option maxRecDepth 20000 in
theorem gX5_init_X5_newRow : GoodIn wsX5_init (va_wsS RX5 48 yX5_newRow wsX5_newRow) := goodIn_app (goodIn_r _ [79, 80, 81] rfl (by decide +kernel)) ggX5_init_X5_newRow
set_option maxRecDepth 20000 in
theorem ggX5_newRow_X4_init : GoodIn wsX5_newRow wsX4_init := goodIn_r _ [6, 7, 8, 9, 10, 11, 12, 13, 14, 15, 16, 17, 18] rfl gw_wsX4_init
set_option maxRecDepth 20000 in
theorem gX5_newRow_X4_init : GoodIn wsX5_newRow (wsX4_init) := ggX5_newRow_X4_init
theorem gw_wsX3_put : wsX3_put.all goodWord = true := by decide +kernel
set_option maxRecDepth 20000 in
theorem ggX5_append_X3_put : GoodIn wsX5_append wsX3_put := goodIn_r _ [7, 8, 9, 25, 26] rfl gw_wsX3_put
set_option maxRecDepth 20000 in
theorem gX5_append_X3_put : GoodIn wsX5_append (wsV RX5 86 RX3 yX3_put wsX3_put) := goodIn_app (goodIn_r _ [3, 4, 5, 6] rfl (by decide +kernel)) ggX5_append_X3_put
theorem gw_wsX3_firstError : wsX3_firstError.all goodWord = true := by decide +kernel
set_option maxRecDepth 20000 in
theorem ggX5_errorPosition_X3_firstError : GoodIn wsX5_errorPosition wsX3_firstError := goodIn_r _ [6, 7, 8, 9, 10, 5, 11, 12, 13, 14, 15, 16, 17, 18, 19, 20, 36, 37] rfl gw_wsX3_firstError
set_option maxRecDepth 20000 in
theorem gX5_errorPosition_X3_firstError : GoodIn wsX5_errorPosition (wsV RX5 93 RX3 yX3_firstError wsX3_firstError) := goodIn_app (goodIn_r _ [2, 3, 4, 5] rfl (by decide +kernel)) ggX5_errorPosition_X3_firstError
set_option maxRecDepth 20000 in
theorem ggX5_load_X3_firstError : GoodIn wsX5_load wsX3_firstError := goodIn_r _ [10, 11, 12, 13, 14, 9, 15, 16, 17, 18, 19, 20, 21, 22, 23, 24, 62, 63] rfl gw_wsX3_firstError
set_option maxRecDepth 20000 in
theorem gX5_load_X3_firstError : GoodIn wsX5_load (wsV RX5 93 RX3 yX3_firstError wsX3_firstError) := goodIn_app (goodIn_r _ [6, 7, 8, 9] rfl (by decide +kernel)) ggX5_load_X3_firstError
theorem gw_wsX3_readInto : wsX3_readInto.all goodWord = true := by decide +kernel
set_option maxRecDepth 20000 in
theorem ggX5_load_X3_readInto : GoodIn wsX5_load wsX3_readInto := goodIn_r _ [28, 29, 11, 30, 31, 32, 9, 33, 21, 22, 23, 24, 16, 34, 35, 36, 37, 38, 39, 40, 41, 42, 58, 59, 60, 61, 62, 63] rfl gw_wsX3_readInto
set_option maxRecDepth 20000 in
theorem gX5_load_X3_readInto : GoodIn wsX5_load (wsV RX5 97 RX3 yX3_readInto wsX3_readInto) := goodIn_app (goodIn_r _ [25, 26, 27, 9] rfl (by decide +kernel)) ggX5_load_X3_readInto
set_option maxRecDepth 20000 in
theorem ggX5_site_X4_has : GoodIn wsX5_site wsX4_has := goodIn_r _ [9, 10, 26, 27, 28, 29] rfl gw_wsX4_has
set_option maxRecDepth 20000 in
theorem gX5_site_X4_has : GoodIn wsX5_site (wsV RX5 104 RX4 yX4_has wsX4_has) := goodIn_app (goodIn_r _ [5, 6, 7, 8] rfl (by decide +kernel)) ggX5_site_X4_has
set_option maxRecDepth 20000 in
theorem ggX5_powerDistance_X4_has : GoodIn wsX5_powerDistance wsX4_has := goodIn_r _ [6, 7, 38, 39, 40, 41] rfl gw_wsX4_has
set_option maxRecDepth 20000 in
theorem gX5_powerDistance_X4_has : GoodIn wsX5_powerDistance (wsV RX5 104 RX4 yX4_has wsX4_has) := goodIn_app (goodIn_r _ [2, 3, 4, 5] rfl (by decide +kernel)) ggX5_powerDistance_X4_has
set_option maxRecDepth 20000 in
theorem ggX5_powerDistance_X5_inSquare : GoodIn wsX5_powerDistance wsX5_inSquare := goodIn_r _ [11] rfl gw_wsX5_inSquare
set_option maxRecDepth 20000 in
theorem gX5_powerDistance_X5_inSquare : GoodIn wsX5_powerDistance (va_wsS RX5 116 yX5_inSquare wsX5_inSquare) := goodIn_app (goodIn_r _ [8, 9, 10] rfl (by decide +kernel)) ggX5_powerDistance_X5_inSquare
set_option maxRecDepth 20000 in
theorem ggX5_powerDistance_X4_power : GoodIn wsX5_powerDistance wsX4_power := goodIn_r _ [15, 16, 17, 18, 19, 5, 20, 21, 22, 38, 39, 40, 41] rfl gw_wsX4_power
set_option maxRecDepth 20000 in
theorem gX5_powerDistance_X4_power : GoodIn wsX5_powerDistance (wsV RX5 120 RX4 yX4_power wsX4_power) := goodIn_app (goodIn_r _ [12, 13, 14, 5] rfl (by decide +kernel)) ggX5_powerDistance_X4_power
set_option maxRecDepth 20000 in
theorem ggX5_owner_X5_inSquare : GoodIn wsX5_owner wsX5_inSquare := goodIn_r _ [5] rfl gw_wsX5_inSquare
set_option maxRecDepth 20000 in
theorem gX5_owner_X5_inSquare : GoodIn wsX5_owner (va_wsS RX5 116 yX5_inSquare wsX5_inSquare) := goodIn_app (goodIn_r _ [2, 3, 4] rfl (by decide +kernel)) ggX5_owner_X5_inSquare
set_option maxRecDepth 20000 in
theorem ggX5_owner_X4_ownerAt : GoodIn wsX5_owner wsX4_ownerAt := goodIn_r _ [10, 11, 12, 13, 9, 14, 15, 16, 17, 18, 19, 20, 21, 22, 23, 24, 25, 26, 42, 43, 44, 45] rfl gw_wsX4_ownerAt
set_option maxRecDepth 20000 in
theorem gX5_owner_X4_ownerAt : GoodIn wsX5_owner (wsV RX5 124 RX4 yX4_ownerAt wsX4_ownerAt) := goodIn_app (goodIn_r _ [6, 7, 8, 9] rfl (by decide +kernel)) ggX5_owner_X4_ownerAt
set_option maxRecDepth 20000 in
theorem ggX5_size_X4_has : GoodIn wsX5_size wsX4_has := goodIn_r _ [6, 7, 46, 47, 48, 49] rfl gw_wsX4_has
set_option maxRecDepth 20000 in
theorem gX5_size_X4_has : GoodIn wsX5_size (wsV RX5 104 RX4 yX4_has wsX4_has) := goodIn_app (goodIn_r _ [2, 3, 4, 5] rfl (by decide +kernel)) ggX5_size_X4_has
set_option maxRecDepth 20000 in
theorem ggX5_size_X4_pointsOwnedBy : GoodIn wsX5_size wsX4_pointsOwnedBy := goodIn_r _ [11, 12, 13, 14, 5, 15, 16, 17, 18, 19, 7, 20, 21, 22, 23, 24, 25, 26, 27, 28, 29, 30, 46, 47, 48, 49] rfl gw_wsX4_pointsOwnedBy
set_option maxRecDepth 20000 in
theorem gX5_size_X4_pointsOwnedBy : GoodIn wsX5_size (wsV RX5 128 RX4 yX4_pointsOwnedBy wsX4_pointsOwnedBy) := goodIn_app (goodIn_r _ [8, 9, 10, 5] rfl (by decide +kernel)) ggX5_size_X4_pointsOwnedBy
set_option maxRecDepth 20000 in
theorem ggX5_add_X5_inSquare : GoodIn wsX5_add wsX5_inSquare := goodIn_r _ [6] rfl gw_wsX5_inSquare
set_option maxRecDepth 20000 in
theorem gX5_add_X5_inSquare : GoodIn wsX5_add (va_wsS RX5 116 yX5_inSquare wsX5_inSquare) := goodIn_app (goodIn_r _ [3, 4, 5] rfl (by decide +kernel)) ggX5_add_X5_inSquare
set_option maxRecDepth 20000 in
theorem ggX5_add_X5_isWeight : GoodIn wsX5_add wsX5_isWeight := goodIn_r _ [9] rfl gw_wsX5_isWeight
set_option maxRecDepth 20000 in
theorem gX5_add_X5_isWeight : GoodIn wsX5_add (va_wsS RX5 132 yX5_isWeight wsX5_isWeight) := goodIn_app (goodIn_r _ [7, 8, 5] rfl (by decide +kernel)) ggX5_add_X5_isWeight
theorem gw_wsX5_remember : wsX5_remember.all goodWord = true := by decide +kernel
set_option maxRecDepth 20000 in
theorem ggX5_add_X5_remember : GoodIn wsX5_add wsX5_remember := goodIn_r _ [13, 14, 1, 15, 16, 17, 18, 19, 20, 21, 22, 23, 24, 25, 26, 27, 28, 33, 34, 35, 36, 37, 38, 39, 40, 41, 42, 43, 44, 45, 46, 47, 48, 49, 50, 51] rfl gw_wsX5_remember
set_option maxRecDepth 20000 in
theorem gX5_add_X5_remember : GoodIn wsX5_add (wsV RX5 135 RX5 yX5_remember wsX5_remember) := goodIn_app (goodIn_r _ [10, 11, 12, 5] rfl (by decide +kernel)) ggX5_add_X5_remember
set_option maxRecDepth 20000 in
theorem ggX5_add_X4_put : GoodIn wsX5_add wsX4_put := goodIn_r _ [32, 28, 25, 26, 27, 48, 49, 50, 51] rfl gw_wsX4_put
set_option maxRecDepth 20000 in
theorem gX5_add_X4_put : GoodIn wsX5_add (wsV RX5 138 RX4 yX4_put wsX4_put) := goodIn_app (goodIn_r _ [29, 30, 31, 23] rfl (by decide +kernel)) ggX5_add_X4_put
set_option maxRecDepth 20000 in
theorem ggX5_remove_X4_has : GoodIn wsX5_remove wsX4_has := goodIn_r _ [7, 8, 47, 48, 49, 50] rfl gw_wsX4_has
set_option maxRecDepth 20000 in
theorem gX5_remove_X4_has : GoodIn wsX5_remove (wsV RX5 104 RX4 yX4_has wsX4_has) := goodIn_app (goodIn_r _ [3, 4, 5, 6] rfl (by decide +kernel)) ggX5_remove_X4_has
set_option maxRecDepth 20000 in
theorem ggX5_remove_X5_remember : GoodIn wsX5_remove wsX5_remember := goodIn_r _ [13, 14, 1, 15, 16, 17, 18, 19, 20, 21, 22, 6, 23, 24, 25, 26, 8, 32, 33, 34, 35, 36, 37, 38, 39, 40, 41, 42, 43, 44, 45, 46, 47, 48, 49, 50] rfl gw_wsX5_remember
set_option maxRecDepth 20000 in
theorem gX5_remove_X5_remember : GoodIn wsX5_remove (wsV RX5 135 RX5 yX5_remember wsX5_remember) := goodIn_app (goodIn_r _ [9, 10, 11, 12] rfl (by decide +kernel)) ggX5_remove_X5_remember
set_option maxRecDepth 20000 in
theorem ggX5_remove_X4_drop : GoodIn wsX5_remove wsX4_drop := goodIn_r _ [30, 8, 24, 25, 26, 31, 4, 5, 6, 7, 47, 48, 49, 50] rfl gw_wsX4_drop
set_option maxRecDepth 20000 in
theorem gX5_remove_X4_drop : GoodIn wsX5_remove (wsV RX5 141 RX4 yX4_drop wsX4_drop) := goodIn_app (goodIn_r _ [27, 28, 29, 6] rfl (by decide +kernel)) ggX5_remove_X4_drop
set_option maxRecDepth 20000 in
theorem ggX5_move_X4_has : GoodIn wsX5_move wsX4_has := goodIn_r _ [8, 9, 46, 47, 48, 49] rfl gw_wsX4_has
set_option maxRecDepth 20000 in
theorem gX5_move_X4_has : GoodIn wsX5_move (wsV RX5 104 RX4 yX4_has wsX4_has) := goodIn_app (goodIn_r _ [4, 5, 6, 7] rfl (by decide +kernel)) ggX5_move_X4_has
set_option maxRecDepth 20000 in
theorem ggX5_move_X5_inSquare : GoodIn wsX5_move wsX5_inSquare := goodIn_r _ [13] rfl gw_wsX5_inSquare
set_option maxRecDepth 20000 in
theorem gX5_move_X5_inSquare : GoodIn wsX5_move (va_wsS RX5 116 yX5_inSquare wsX5_inSquare) := goodIn_app (goodIn_r _ [10, 11, 12] rfl (by decide +kernel)) ggX5_move_X5_inSquare
set_option maxRecDepth 20000 in
theorem ggX5_move_X5_remember : GoodIn wsX5_move wsX5_remember := goodIn_r _ [17, 18, 1, 19, 20, 21, 22, 23, 24, 25, 26, 7, 27, 28, 29, 30, 9, 31, 32, 33, 34, 35, 36, 37, 38, 39, 40, 41, 42, 43, 44, 45, 46, 47, 48, 49] rfl gw_wsX5_remember
set_option maxRecDepth 20000 in
theorem gX5_move_X5_remember : GoodIn wsX5_move (wsV RX5 135 RX5 yX5_remember wsX5_remember) := goodIn_app (goodIn_r _ [14, 15, 16, 12] rfl (by decide +kernel)) ggX5_move_X5_remember
set_option maxRecDepth 20000 in
theorem ggX5_setWeight_X4_has : GoodIn wsX5_setWeight wsX4_has := goodIn_r _ [7, 8, 45, 46, 47, 48] rfl gw_wsX4_has
set_option maxRecDepth 20000 in
theorem gX5_setWeight_X4_has : GoodIn wsX5_setWeight (wsV RX5 104 RX4 yX4_has wsX4_has) := goodIn_app (goodIn_r _ [3, 4, 5, 6] rfl (by decide +kernel)) ggX5_setWeight_X4_has
set_option maxRecDepth 20000 in
theorem ggX5_setWeight_X5_isWeight : GoodIn wsX5_setWeight wsX5_isWeight := goodIn_r _ [12] rfl gw_wsX5_isWeight
set_option maxRecDepth 20000 in
theorem gX5_setWeight_X5_isWeight : GoodIn wsX5_setWeight (va_wsS RX5 132 yX5_isWeight wsX5_isWeight) := goodIn_app (goodIn_r _ [9, 10, 11] rfl (by decide +kernel)) ggX5_setWeight_X5_isWeight
set_option maxRecDepth 20000 in
theorem ggX5_setWeight_X5_remember : GoodIn wsX5_setWeight wsX5_remember := goodIn_r _ [16, 17, 1, 18, 19, 20, 21, 22, 23, 24, 25, 6, 26, 27, 28, 29, 8, 30, 31, 32, 33, 34, 35, 36, 37, 38, 39, 40, 41, 42, 43, 44, 45, 46, 47, 48] rfl gw_wsX5_remember
set_option maxRecDepth 20000 in
theorem gX5_setWeight_X5_remember : GoodIn wsX5_setWeight (wsV RX5 135 RX5 yX5_remember wsX5_remember) := goodIn_app (goodIn_r _ [13, 14, 15, 11] rfl (by decide +kernel)) ggX5_setWeight_X5_remember
set_option maxRecDepth 20000 in
theorem ggX5_undo_X4_copy : GoodIn wsX5_undo wsX4_copy := goodIn_r _ [8, 9, 10, 11, 12, 28, 29, 30, 31] rfl gw_wsX4_copy
set_option maxRecDepth 20000 in
theorem gX5_undo_X4_copy : GoodIn wsX5_undo (va_wsS RX5 145 yX4_copy wsX4_copy) := goodIn_app (goodIn_r _ [5, 6, 7] rfl (by decide +kernel)) ggX5_undo_X4_copy
set_option maxRecDepth 20000 in
theorem ggX5_remember_X4_copy : GoodIn wsX5_remember wsX4_copy := goodIn_r _ [12, 13, 14, 15, 16, 32, 33, 34, 35] rfl gw_wsX4_copy
set_option maxRecDepth 20000 in
theorem gX5_remember_X4_copy : GoodIn wsX5_remember (va_wsS RX5 145 yX4_copy wsX4_copy) := goodIn_app (goodIn_r _ [9, 10, 11] rfl (by decide +kernel)) ggX5_remember_X4_copy
set_option maxRecDepth 20000 in
theorem ggX5_cornerCount_X4_has : GoodIn wsX5_cornerCount wsX4_has := goodIn_r _ [7, 8, 96, 97, 98, 99] rfl gw_wsX4_has
set_option maxRecDepth 20000 in
theorem gX5_cornerCount_X4_has : GoodIn wsX5_cornerCount (wsV RX5 104 RX4 yX4_has wsX4_has) := goodIn_app (goodIn_r _ [3, 4, 5, 6] rfl (by decide +kernel)) ggX5_cornerCount_X4_has
set_option maxRecDepth 20000 in
theorem ggX5_cornerCount_X0_cutOut : GoodIn wsX5_cornerCount wsX0_cutOut := goodIn_r _ [13, 14, 15, 16, 17, 18, 19, 20, 21, 22, 23, 24, 25, 26, 27, 28, 29, 4, 5, 6, 7, 8, 30, 31, 32, 33, 34, 35, 36, 37, 38, 39, 40, 41, 42, 43, 44, 45, 46, 47, 48, 49, 50, 51, 52, 53, 54, 55, 56, 57, 58, 59, 60, 61, 62, 63, 64, 65, 66, 67, 68, 69, 70, 71, 72, 12, 73, 74, 75, 76, 100, 101, 102, 103, 104, 105, 106, 107, 108, 109, 110, 111, 96, 97, 98, 99] rfl gw_wsX0_cutOut
set_option maxRecDepth 20000 in
theorem gX5_cornerCount_X0_cutOut : GoodIn wsX5_cornerCount (wsV RX5 154 RX0 yX0_cutOut wsX0_cutOut) := goodIn_app (goodIn_r _ [9, 10, 11, 12] rfl (by decide +kernel)) ggX5_cornerCount_X0_cutOut
set_option maxRecDepth 20000 in
theorem ggX5_cornerCount_X0_polygonCorners : GoodIn wsX5_cornerCount wsX0_polygonCorners := goodIn_r _ [80, 15, 100, 101, 102, 103, 104] rfl gw_wsX0_polygonCorners
set_option maxRecDepth 20000 in
theorem gX5_cornerCount_X0_polygonCorners : GoodIn wsX5_cornerCount (wsV RX5 158 RX0 yX0_polygonCorners wsX0_polygonCorners) := goodIn_app (goodIn_r _ [77, 78, 79, 12] rfl (by decide +kernel)) ggX5_cornerCount_X0_polygonCorners
theorem gw_wsX5_problemWithCorner : wsX5_problemWithCorner.all goodWord = true := by decide +kernel
set_option maxRecDepth 20000 in
theorem ggX5_cornerNumerator_X5_problemWithCorner : GoodIn wsX5_cornerNumerator wsX5_problemWithCorner := goodIn_r _ [6, 7, 1, 8, 9, 10, 11, 12, 13, 14, 15, 16, 17, 18, 19, 20, 21, 22, 23, 24, 25, 26, 27, 28, 29, 30, 31, 32, 33, 34, 35, 36, 37, 38, 39, 40, 41, 42, 43, 44, 45, 46, 47, 48, 49, 50, 51, 52, 53, 54, 55, 56, 57, 58, 59, 60, 61, 62, 63, 64, 65, 66, 67, 68, 69, 70, 71, 72, 73, 74, 75, 76, 77, 78, 79, 80, 81, 82, 83, 84, 85, 86, 87, 88, 89, 90, 91, 92, 93, 94, 95, 96, 97, 98, 99, 100, 101, 102, 103, 104, 118, 119, 120, 121, 122, 123, 124, 125, 126, 127, 128, 129, 130, 131, 132, 133, 134, 135, 136, 137, 138, 139, 140, 141, 142, 143, 144, 145, 146, 147, 148] rfl gw_wsX5_problemWithCorner
set_option maxRecDepth 20000 in
theorem gX5_cornerNumerator_X5_problemWithCorner : GoodIn wsX5_cornerNumerator (wsV RX5 161 RX5 yX5_problemWithCorner wsX5_problemWithCorner) := goodIn_app (goodIn_r _ [2, 3, 4, 5] rfl (by decide +kernel)) ggX5_cornerNumerator_X5_problemWithCorner
set_option maxRecDepth 20000 in
theorem ggX5_cornerNumerator_X0_coordinate : GoodIn wsX5_cornerNumerator wsX0_coordinate := goodIn_r _ [108, 80, 81, 137, 138, 139, 140, 141] rfl gw_wsX0_coordinate
set_option maxRecDepth 20000 in
theorem gX5_cornerNumerator_X0_coordinate : GoodIn wsX5_cornerNumerator (wsV RX5 164 RX0 yX0_coordinate wsX0_coordinate) := goodIn_app (goodIn_r _ [105, 106, 107, 17] rfl (by decide +kernel)) ggX5_cornerNumerator_X0_coordinate
theorem gw_wsX0_commonDivisor : wsX0_commonDivisor.all goodWord = true := by decide +kernel
set_option maxRecDepth 20000 in
theorem ggX5_cornerNumerator_X0_commonDivisor : GoodIn wsX5_cornerNumerator wsX0_commonDivisor := goodIn_r _ [112, 79, 113, 114, 115, 116, 117, 106, 107, 17, 108, 80, 81, 137, 138, 139, 140, 141] rfl gw_wsX0_commonDivisor
set_option maxRecDepth 20000 in
theorem gX5_cornerNumerator_X0_commonDivisor : GoodIn wsX5_cornerNumerator (wsV RX5 167 RX0 yX0_commonDivisor wsX0_commonDivisor) := goodIn_app (goodIn_r _ [109, 110, 111, 17] rfl (by decide +kernel)) ggX5_cornerNumerator_X0_commonDivisor
set_option maxRecDepth 20000 in
theorem ggX5_cornerDenominator_X5_problemWithCorner : GoodIn wsX5_cornerDenominator wsX5_problemWithCorner := goodIn_r _ [7, 8, 1, 9, 10, 11, 12, 13, 14, 15, 16, 17, 18, 19, 20, 21, 22, 23, 24, 25, 26, 27, 28, 29, 30, 31, 32, 33, 34, 35, 36, 37, 38, 39, 40, 41, 42, 43, 44, 45, 46, 47, 48, 49, 50, 51, 52, 53, 54, 55, 56, 57, 58, 59, 60, 61, 62, 63, 64, 65, 66, 67, 68, 69, 70, 71, 72, 73, 74, 75, 76, 77, 78, 79, 80, 81, 82, 83, 84, 85, 86, 87, 88, 89, 90, 91, 92, 93, 94, 95, 96, 97, 98, 99, 100, 101, 102, 103, 104, 105, 118, 119, 120, 121, 122, 123, 124, 125, 126, 127, 128, 129, 130, 131, 132, 138, 139, 140, 141, 133, 134, 135, 136, 137, 142, 143, 144, 145, 146, 147, 148] rfl gw_wsX5_problemWithCorner
set_option maxRecDepth 20000 in
theorem gX5_cornerDenominator_X5_problemWithCorner : GoodIn wsX5_cornerDenominator (wsV RX5 161 RX5 yX5_problemWithCorner wsX5_problemWithCorner) := goodIn_app (goodIn_r _ [3, 4, 5, 6] rfl (by decide +kernel)) ggX5_cornerDenominator_X5_problemWithCorner
set_option maxRecDepth 20000 in
theorem ggX5_cornerDenominator_X0_commonDivisor : GoodIn wsX5_cornerDenominator wsX0_commonDivisor := goodIn_r _ [109, 80, 110, 111, 112, 113, 114, 115, 116, 18, 117, 81, 82, 133, 134, 135, 136, 137] rfl gw_wsX0_commonDivisor
set_option maxRecDepth 20000 in
theorem gX5_cornerDenominator_X0_commonDivisor : GoodIn wsX5_cornerDenominator (wsV RX5 167 RX0 yX0_commonDivisor wsX0_commonDivisor) := goodIn_app (goodIn_r _ [106, 107, 108, 18] rfl (by decide +kernel)) ggX5_cornerDenominator_X0_commonDivisor
set_option maxRecDepth 20000 in
theorem ggX5_problemWithCorner_X4_has : GoodIn wsX5_problemWithCorner wsX4_has := goodIn_r _ [7, 8, 115, 116, 117, 118] rfl gw_wsX4_has
set_option maxRecDepth 20000 in
theorem gX5_problemWithCorner_X4_has : GoodIn wsX5_problemWithCorner (wsV RX5 104 RX4 yX4_has wsX4_has) := goodIn_app (goodIn_r _ [3, 4, 5, 6] rfl (by decide +kernel)) ggX5_problemWithCorner_X4_has
set_option maxRecDepth 20000 in
theorem ggX5_problemWithCorner_X0_cutOut : GoodIn wsX5_problemWithCorner wsX0_cutOut := goodIn_r _ [13, 14, 15, 16, 17, 18, 19, 20, 21, 22, 23, 24, 25, 26, 27, 28, 29, 4, 5, 6, 7, 8, 30, 31, 32, 33, 34, 35, 36, 37, 38, 39, 40, 41, 42, 43, 44, 45, 46, 47, 48, 49, 50, 51, 52, 53, 54, 55, 56, 57, 58, 59, 60, 61, 62, 63, 64, 65, 66, 67, 68, 69, 70, 71, 72, 12, 73, 74, 75, 76, 119, 120, 121, 122, 123, 124, 125, 126, 127, 128, 129, 130, 115, 116, 117, 118] rfl gw_wsX0_cutOut
set_option maxRecDepth 20000 in
theorem gX5_problemWithCorner_X0_cutOut : GoodIn wsX5_problemWithCorner (wsV RX5 154 RX0 yX0_cutOut wsX0_cutOut) := goodIn_app (goodIn_r _ [9, 10, 11, 12] rfl (by decide +kernel)) ggX5_problemWithCorner_X0_cutOut
set_option maxRecDepth 20000 in
theorem ggX5_problemWithCorner_X0_polygonCorners : GoodIn wsX5_problemWithCorner wsX0_polygonCorners := goodIn_r _ [80, 15, 119, 120, 121, 122, 123] rfl gw_wsX0_polygonCorners
set_option maxRecDepth 20000 in
theorem gX5_problemWithCorner_X0_polygonCorners : GoodIn wsX5_problemWithCorner (wsV RX5 158 RX0 yX0_polygonCorners wsX0_polygonCorners) := goodIn_app (goodIn_r _ [77, 78, 79, 12] rfl (by decide +kernel)) ggX5_problemWithCorner_X0_polygonCorners
theorem gw_wsX0_putInOrder : wsX0_putInOrder.all goodWord = true := by decide +kernel
set_option maxRecDepth 20000 in
theorem ggX5_problemWithCorner_X0_putInOrder : GoodIn wsX5_problemWithCorner wsX0_putInOrder := goodIn_r _ [84, 15, 85, 86, 87, 12, 88, 75, 74, 76, 89, 90, 91, 92, 93, 94, 95, 96, 97, 98, 99, 119, 120, 121, 122, 123] rfl gw_wsX0_putInOrder
set_option maxRecDepth 20000 in
theorem gX5_problemWithCorner_X0_putInOrder : GoodIn wsX5_problemWithCorner (wsV RX5 173 RX0 yX0_putInOrder wsX0_putInOrder) := goodIn_app (goodIn_r _ [81, 82, 83, 12] rfl (by decide +kernel)) ggX5_problemWithCorner_X0_putInOrder
set_option maxRecDepth 20000 in
theorem ggX5_hiddenSites_X0_hides : GoodIn wsX5_hiddenSites wsX0_hides := goodIn_r _ [8, 9, 10, 11, 7, 12, 13, 14, 15, 16, 17, 18, 19, 20, 21, 22, 23, 24, 25, 26, 27, 28, 29, 30, 31, 32, 33, 34, 35, 36, 37, 38, 39, 40, 41, 42, 43, 44, 45, 46, 47, 48, 49, 50, 51, 52, 53, 54, 55, 56, 57, 58, 59, 60, 61, 62, 63, 64, 65, 66, 67, 68, 69, 70, 71, 72, 73, 74, 75, 76, 77, 78, 79, 80, 81, 82, 83, 84, 104, 105, 106, 107, 108, 109, 110, 111, 112, 113, 114, 115, 100, 101, 102, 103] rfl gw_wsX0_hides
set_option maxRecDepth 20000 in
theorem gX5_hiddenSites_X0_hides : GoodIn wsX5_hiddenSites (wsV RX5 176 RX0 yX0_hides wsX0_hides) := goodIn_app (goodIn_r _ [4, 5, 6, 7] rfl (by decide +kernel)) ggX5_hiddenSites_X0_hides
set_option maxRecDepth 20000 in
theorem ggX5_neighbours_X4_has : GoodIn wsX5_neighbours wsX4_has := goodIn_r _ [8, 9, 115, 116, 117, 118] rfl gw_wsX4_has
set_option maxRecDepth 20000 in
theorem gX5_neighbours_X4_has : GoodIn wsX5_neighbours (wsV RX5 104 RX4 yX4_has wsX4_has) := goodIn_app (goodIn_r _ [4, 5, 6, 7] rfl (by decide +kernel)) ggX5_neighbours_X4_has
theorem gw_wsX5_hiddenSites : wsX5_hiddenSites.all goodWord = true := by decide +kernel
set_option maxRecDepth 20000 in
theorem ggX5_neighbours_X5_hiddenSites : GoodIn wsX5_neighbours wsX5_hiddenSites := goodIn_r _ [14, 1, 3, 2, 15, 16, 17, 18, 19, 20, 21, 22, 23, 24, 25, 26, 27, 28, 29, 30, 31, 32, 33, 34, 35, 36, 37, 38, 39, 5, 6, 7, 8, 9, 40, 41, 42, 43, 44, 45, 46, 47, 48, 49, 50, 51, 52, 53, 54, 55, 56, 57, 58, 59, 60, 61, 62, 63, 64, 65, 66, 67, 68, 69, 70, 71, 72, 73, 74, 75, 76, 77, 78, 79, 80, 81, 82, 83, 84, 85, 86, 87, 88, 89, 90, 100, 101, 102, 103, 104, 105, 106, 107, 108, 109, 110, 111, 112, 113, 114, 115, 116, 117, 118, 119, 120, 121, 122, 123, 124, 125, 126, 127, 128, 129, 130] rfl gw_wsX5_hiddenSites
set_option maxRecDepth 20000 in
theorem gX5_neighbours_X5_hiddenSites : GoodIn wsX5_neighbours (wsV RX5 180 RX5 yX5_hiddenSites wsX5_hiddenSites) := goodIn_app (goodIn_r _ [10, 11, 12, 13] rfl (by decide +kernel)) ggX5_neighbours_X5_hiddenSites
set_option maxRecDepth 20000 in
theorem ggX5_neighbours_X0_cutOut : GoodIn wsX5_neighbours wsX0_cutOut := goodIn_r _ [23, 24, 25, 26, 27, 28, 29, 30, 31, 32, 33, 34, 35, 36, 37, 38, 39, 5, 6, 7, 8, 9, 40, 41, 42, 43, 44, 45, 46, 47, 48, 49, 50, 51, 52, 53, 54, 55, 56, 57, 58, 59, 60, 61, 62, 63, 64, 65, 66, 67, 68, 69, 70, 71, 72, 73, 74, 75, 76, 77, 78, 79, 80, 81, 82, 18, 83, 84, 85, 86, 119, 120, 121, 122, 123, 124, 125, 126, 127, 128, 129, 130, 115, 116, 117, 118] rfl gw_wsX0_cutOut
set_option maxRecDepth 20000 in
theorem gX5_neighbours_X0_cutOut : GoodIn wsX5_neighbours (wsV RX5 154 RX0 yX0_cutOut wsX0_cutOut) := goodIn_app (goodIn_r _ [91, 21, 22, 18] rfl (by decide +kernel)) ggX5_neighbours_X0_cutOut
theorem gw_wsX0_cornersSharedWith : wsX0_cornersSharedWith.all goodWord = true := by decide +kernel
set_option maxRecDepth 20000 in
theorem ggX5_neighbours_X0_cornersSharedWith : GoodIn wsX5_neighbours wsX0_cornersSharedWith := goodIn_r _ [95, 25, 24, 85, 86, 84, 96, 97, 98, 33, 99, 54, 55, 56, 68, 69, 70, 71, 35, 119, 120, 121, 122, 123, 124, 125, 126, 127, 128, 129, 130] rfl gw_wsX0_cornersSharedWith
set_option maxRecDepth 20000 in
theorem gX5_neighbours_X0_cornersSharedWith : GoodIn wsX5_neighbours (wsV RX5 183 RX0 yX0_cornersSharedWith wsX0_cornersSharedWith) := goodIn_app (goodIn_r _ [92, 93, 94, 18] rfl (by decide +kernel)) ggX5_neighbours_X0_cornersSharedWith
set_option maxRecDepth 20000 in
theorem ggX5_isTriangle_X4_has : GoodIn wsX5_isTriangle wsX4_has := goodIn_r _ [7, 8, 75, 76, 77, 78] rfl gw_wsX4_has
set_option maxRecDepth 20000 in
theorem gX5_isTriangle_X4_has : GoodIn wsX5_isTriangle (wsV RX5 104 RX4 yX4_has wsX4_has) := goodIn_app (goodIn_r _ [3, 4, 5, 6] rfl (by decide +kernel)) ggX5_isTriangle_X4_has
set_option maxRecDepth 20000 in
theorem ggX5_isTriangle_X1_compare : GoodIn wsX5_isTriangle wsX1_compare := goodIn_r _ [13, 14, 15, 16, 17, 18, 4, 5, 6, 7, 8, 19, 20, 21, 22, 23, 24, 25, 26, 27, 28, 29, 30, 31, 12, 32, 33, 34, 35, 79, 80, 81, 82, 83, 84, 85, 75, 76, 77, 78] rfl gw_wsX1_compare
set_option maxRecDepth 20000 in
theorem gX5_isTriangle_X1_compare : GoodIn wsX5_isTriangle (wsV RX5 186 RX1 yX1_compare wsX1_compare) := goodIn_app (goodIn_r _ [9, 10, 11, 12] rfl (by decide +kernel)) ggX5_isTriangle_X1_compare
theorem gw_wsX5_formTriangle : wsX5_formTriangle.all goodWord = true := by decide +kernel
set_option maxRecDepth 20000 in
theorem ggX5_isTriangle_X5_formTriangle : GoodIn wsX5_isTriangle wsX5_formTriangle := goodIn_r _ [40, 2, 41, 42, 43, 12, 44, 33, 34, 35, 45, 46, 47, 48, 49, 50, 51, 14, 52, 53, 54, 55, 56, 57, 58, 59, 60, 61, 62, 63, 64, 65, 66, 67, 68, 69, 70, 71, 72, 73, 74, 79, 80, 81, 82, 83, 84, 85] rfl gw_wsX5_formTriangle
set_option maxRecDepth 20000 in
theorem gX5_isTriangle_X5_formTriangle : GoodIn wsX5_isTriangle (wsV RX5 189 RX5 yX5_formTriangle wsX5_formTriangle) := goodIn_app (goodIn_r _ [36, 37, 38, 39] rfl (by decide +kernel)) ggX5_isTriangle_X5_formTriangle
set_option maxRecDepth 20000 in
theorem ggX5_triangleCount_X1_compare : GoodIn wsX5_triangleCount wsX1_compare := goodIn_r _ [8, 9, 10, 11, 12, 13, 14, 15, 16, 17, 18, 19, 20, 21, 22, 23, 24, 25, 26, 27, 28, 29, 30, 31, 7, 32, 33, 34, 35, 79, 80, 81, 82, 83, 84, 85, 75, 76, 77, 78] rfl gw_wsX1_compare
set_option maxRecDepth 20000 in
theorem gX5_triangleCount_X1_compare : GoodIn wsX5_triangleCount (wsV RX5 186 RX1 yX1_compare wsX1_compare) := goodIn_app (goodIn_r _ [4, 5, 6, 7] rfl (by decide +kernel)) ggX5_triangleCount_X1_compare
set_option maxRecDepth 20000 in
theorem ggX5_triangleCount_X5_formTriangle : GoodIn wsX5_triangleCount wsX5_formTriangle := goodIn_r _ [40, 3, 41, 42, 43, 7, 44, 33, 34, 35, 45, 46, 47, 48, 49, 50, 51, 9, 52, 53, 54, 55, 56, 57, 58, 59, 60, 61, 62, 63, 64, 65, 66, 67, 68, 69, 70, 71, 72, 73, 74, 79, 80, 81, 82, 83, 84, 85] rfl gw_wsX5_formTriangle
set_option maxRecDepth 20000 in
theorem gX5_triangleCount_X5_formTriangle : GoodIn wsX5_triangleCount (wsV RX5 189 RX5 yX5_formTriangle wsX5_formTriangle) := goodIn_app (goodIn_r _ [36, 37, 38, 39] rfl (by decide +kernel)) ggX5_triangleCount_X5_formTriangle
set_option maxRecDepth 20000 in
theorem ggX5_conflicts_X5_inSquare : GoodIn wsX5_conflicts wsX5_inSquare := goodIn_r _ [7] rfl gw_wsX5_inSquare
set_option maxRecDepth 20000 in
theorem gX5_conflicts_X5_inSquare : GoodIn wsX5_conflicts (va_wsS RX5 116 yX5_inSquare wsX5_inSquare) := goodIn_app (goodIn_r _ [4, 5, 6] rfl (by decide +kernel)) ggX5_conflicts_X5_inSquare
set_option maxRecDepth 20000 in
theorem ggX5_conflicts_X5_isWeight : GoodIn wsX5_conflicts wsX5_isWeight := goodIn_r _ [10] rfl gw_wsX5_isWeight
set_option maxRecDepth 20000 in
theorem gX5_conflicts_X5_isWeight : GoodIn wsX5_conflicts (va_wsS RX5 132 yX5_isWeight wsX5_isWeight) := goodIn_app (goodIn_r _ [8, 9, 6] rfl (by decide +kernel)) ggX5_conflicts_X5_isWeight
set_option maxRecDepth 20000 in
theorem ggX5_conflicts_X1_compare : GoodIn wsX5_conflicts wsX1_compare := goodIn_r _ [15, 16, 17, 18, 19, 20, 21, 22, 23, 24, 25, 26, 27, 28, 29, 30, 31, 32, 33, 34, 35, 36, 37, 38, 14, 39, 40, 41, 42, 94, 95, 96, 97, 98, 99, 100, 90, 91, 92, 93] rfl gw_wsX1_compare
set_option maxRecDepth 20000 in
theorem gX5_conflicts_X1_compare : GoodIn wsX5_conflicts (wsV RX5 186 RX1 yX1_compare wsX1_compare) := goodIn_app (goodIn_r _ [11, 12, 13, 14] rfl (by decide +kernel)) ggX5_conflicts_X1_compare
set_option maxRecDepth 20000 in
theorem ggX5_conflicts_X5_formTriangle : GoodIn wsX5_conflicts wsX5_formTriangle := goodIn_r _ [46, 3, 47, 48, 49, 14, 50, 40, 41, 42, 51, 52, 53, 54, 55, 56, 57, 16, 58, 59, 60, 61, 62, 63, 64, 65, 75, 76, 77, 78, 79, 80, 81, 82, 83, 84, 85, 86, 87, 88, 89, 94, 95, 96, 97, 98, 99, 100] rfl gw_wsX5_formTriangle
set_option maxRecDepth 20000 in
theorem gX5_conflicts_X5_formTriangle : GoodIn wsX5_conflicts (wsV RX5 189 RX5 yX5_formTriangle wsX5_formTriangle) := goodIn_app (goodIn_r _ [43, 44, 45, 6] rfl (by decide +kernel)) ggX5_conflicts_X5_formTriangle
theorem gw_wsX5_newcomerIsNearer : wsX5_newcomerIsNearer.all goodWord = true := by decide +kernel
set_option maxRecDepth 20000 in
theorem ggX5_conflicts_X5_newcomerIsNearer : GoodIn wsX5_conflicts wsX5_newcomerIsNearer := goodIn_r _ [69, 1, 70, 71, 3, 72, 34, 23, 35, 73, 27, 28, 29, 30, 31, 32, 33, 74, 63, 64, 14, 65, 51, 52, 53, 75, 76, 77, 78, 79, 80, 81, 82, 83, 84, 85, 86, 87, 88, 89, 90, 91, 92, 93, 94, 95, 96, 97, 98, 99, 100] rfl gw_wsX5_newcomerIsNearer
set_option maxRecDepth 20000 in
theorem gX5_conflicts_X5_newcomerIsNearer : GoodIn wsX5_conflicts (wsV RX5 192 RX5 yX5_newcomerIsNearer wsX5_newcomerIsNearer) := goodIn_app (goodIn_r _ [66, 67, 68, 6] rfl (by decide +kernel)) ggX5_conflicts_X5_newcomerIsNearer
set_option maxRecDepth 20000 in
theorem ggX5_formTriangle_X1_meet : GoodIn wsX5_formTriangle wsX1_meet := goodIn_r _ [6, 7, 8, 9, 10, 11, 12, 13, 14, 15, 5, 16, 17, 41, 42, 43, 44, 45, 46, 47] rfl gw_wsX1_meet
set_option maxRecDepth 20000 in
theorem gX5_formTriangle_X1_meet : GoodIn wsX5_formTriangle (wsV RX5 196 RX1 yX1_meet wsX1_meet) := goodIn_app (goodIn_r _ [2, 3, 4, 5] rfl (by decide +kernel)) ggX5_formTriangle_X1_meet
set_option maxRecDepth 20000 in
theorem ggX5_formTriangle_X1_holdMeeting : GoodIn wsX5_formTriangle wsX1_holdMeeting := goodIn_r _ [21, 17, 7, 8, 9, 22, 23, 24, 5, 25, 10, 11, 12, 41, 42, 43, 44, 45, 46, 47] rfl gw_wsX1_holdMeeting
set_option maxRecDepth 20000 in
theorem gX5_formTriangle_X1_holdMeeting : GoodIn wsX5_formTriangle (wsV RX5 199 RX1 yX1_holdMeeting wsX1_holdMeeting) := goodIn_app (goodIn_r _ [18, 19, 20, 5] rfl (by decide +kernel)) ggX5_formTriangle_X1_holdMeeting
set_option maxRecDepth 20000 in
theorem ggX5_newcomerIsNearer_X4_level : GoodIn wsX5_newcomerIsNearer wsX4_level := goodIn_r _ [8] rfl gw_wsX4_level
set_option maxRecDepth 20000 in
theorem gX5_newcomerIsNearer_X4_level : GoodIn wsX5_newcomerIsNearer (va_wsS RX5 203 yX4_level wsX4_level) := goodIn_app (goodIn_r _ [5, 6, 7] rfl (by decide +kernel)) ggX5_newcomerIsNearer_X4_level
set_option maxRecDepth 20000 in
theorem ggX5_newcomerIsNearer_X4_levelOf : GoodIn wsX5_newcomerIsNearer wsX4_levelOf := goodIn_r _ [12, 13, 14, 15, 16, 6, 7, 8, 40, 41, 42, 43] rfl gw_wsX4_levelOf
set_option maxRecDepth 20000 in
theorem gX5_newcomerIsNearer_X4_levelOf : GoodIn wsX5_newcomerIsNearer (wsV RX5 206 RX4 yX4_levelOf wsX4_levelOf) := goodIn_app (goodIn_r _ [9, 10, 11, 7] rfl (by decide +kernel)) ggX5_newcomerIsNearer_X4_levelOf
set_option maxRecDepth 20000 in
theorem ggX5_newcomerIsNearer_X1_meetingIsBeyond : GoodIn wsX5_newcomerIsNearer wsX1_meetingIsBeyond := goodIn_r _ [21, 22, 23, 24, 44, 45, 46, 47, 48, 49, 50] rfl gw_wsX1_meetingIsBeyond
set_option maxRecDepth 20000 in
theorem gX5_newcomerIsNearer_X1_meetingIsBeyond : GoodIn wsX5_newcomerIsNearer (wsV RX5 209 RX1 yX1_meetingIsBeyond wsX1_meetingIsBeyond) := goodIn_app (goodIn_r _ [17, 18, 19, 20] rfl (by decide +kernel)) ggX5_newcomerIsNearer_X1_meetingIsBeyond
set_option maxRecDepth 20000 in
theorem ggX5_alongSegment_X5_inSquare : GoodIn wsX5_alongSegment wsX5_inSquare := goodIn_r _ [7] rfl gw_wsX5_inSquare
set_option maxRecDepth 20000 in
theorem gX5_alongSegment_X5_inSquare : GoodIn wsX5_alongSegment (va_wsS RX5 116 yX5_inSquare wsX5_inSquare) := goodIn_app (goodIn_r _ [4, 5, 6] rfl (by decide +kernel)) ggX5_alongSegment_X5_inSquare
set_option maxRecDepth 20000 in
theorem ggX5_alongSegment_X1_compare : GoodIn wsX5_alongSegment wsX1_compare := goodIn_r _ [12, 13, 14, 15, 16, 17, 18, 19, 20, 21, 22, 23, 24, 25, 26, 27, 28, 29, 30, 31, 32, 33, 34, 35, 11, 36, 37, 38, 39, 63, 64, 65, 66, 67, 68, 69, 59, 60, 61, 62] rfl gw_wsX1_compare
set_option maxRecDepth 20000 in
theorem gX5_alongSegment_X1_compare : GoodIn wsX5_alongSegment (wsV RX5 186 RX1 yX1_compare wsX1_compare) := goodIn_app (goodIn_r _ [8, 9, 10, 11] rfl (by decide +kernel)) ggX5_alongSegment_X1_compare
theorem gw_wsX1_holdSomeOf : wsX1_holdSomeOf.all goodWord = true := by decide +kernel
set_option maxRecDepth 20000 in
theorem ggX5_alongSegment_X1_holdSomeOf : GoodIn wsX5_alongSegment wsX1_holdSomeOf := goodIn_r _ [43, 13, 37, 38, 39, 63, 64, 65, 66, 67, 68, 69] rfl gw_wsX1_holdSomeOf
set_option maxRecDepth 20000 in
theorem gX5_alongSegment_X1_holdSomeOf : GoodIn wsX5_alongSegment (wsV RX5 213 RX1 yX1_holdSomeOf wsX1_holdSomeOf) := goodIn_app (goodIn_r _ [40, 41, 42, 11] rfl (by decide +kernel)) ggX5_alongSegment_X1_holdSomeOf
set_option maxRecDepth 20000 in
theorem ggX5_weightForSize_X4_has : GoodIn wsX5_weightForSize wsX4_has := goodIn_r _ [7, 8, 48, 49, 50, 51] rfl gw_wsX4_has
set_option maxRecDepth 20000 in
theorem gX5_weightForSize_X4_has : GoodIn wsX5_weightForSize (wsV RX5 104 RX4 yX4_has wsX4_has) := goodIn_app (goodIn_r _ [3, 4, 5, 6] rfl (by decide +kernel)) ggX5_weightForSize_X4_has
theorem gw_wsX5_countPointsByWeight : wsX5_countPointsByWeight.all goodWord = true := by decide +kernel
set_option maxRecDepth 20000 in
theorem ggX5_weightForSize_X5_countPointsByWeight : GoodIn wsX5_weightForSize wsX5_countPointsByWeight := goodIn_r _ [13, 2, 1, 14, 15, 16, 6, 17, 8, 18, 19, 20, 21, 22, 23, 24, 25, 26, 27, 28, 29, 30, 31, 32, 33, 34, 35, 36, 37, 38, 39, 40, 41, 42, 43, 44, 45, 46, 47, 48, 49, 50, 51] rfl gw_wsX5_countPointsByWeight
set_option maxRecDepth 20000 in
theorem gX5_weightForSize_X5_countPointsByWeight : GoodIn wsX5_weightForSize (wsV RX5 216 RX5 yX5_countPointsByWeight wsX5_countPointsByWeight) := goodIn_app (goodIn_r _ [9, 10, 11, 12] rfl (by decide +kernel)) ggX5_weightForSize_X5_countPointsByWeight
theorem gw_wsX4_weightToOwn : wsX4_weightToOwn.all goodWord = true := by decide +kernel
set_option maxRecDepth 20000 in
theorem ggX5_countPointsByWeight_X4_weightToOwn : GoodIn wsX5_countPointsByWeight wsX4_weightToOwn := goodIn_r _ [7, 8, 9, 10, 11, 12, 13, 14, 15, 6, 16, 17, 18, 19, 20, 21, 22, 23, 39, 40, 41, 42] rfl gw_wsX4_weightToOwn
set_option maxRecDepth 20000 in
theorem gX5_countPointsByWeight_X4_weightToOwn : GoodIn wsX5_countPointsByWeight (wsV RX5 219 RX4 yX4_weightToOwn wsX4_weightToOwn) := goodIn_app (goodIn_r _ [3, 4, 5, 6] rfl (by decide +kernel)) ggX5_countPointsByWeight_X4_weightToOwn
set_option maxRecDepth 20000 in
theorem ggX5_observe_X5_inSquare : GoodIn wsX5_observe wsX5_inSquare := goodIn_r _ [8] rfl gw_wsX5_inSquare
set_option maxRecDepth 20000 in
theorem gX5_observe_X5_inSquare : GoodIn wsX5_observe (va_wsS RX5 116 yX5_inSquare wsX5_inSquare) := goodIn_app (goodIn_r _ [5, 6, 7] rfl (by decide +kernel)) ggX5_observe_X5_inSquare
set_option maxRecDepth 20000 in
theorem ggX5_possibleWeights_X4_has : GoodIn wsX5_possibleWeights wsX4_has := goodIn_r _ [10, 11, 63, 64, 65, 66] rfl gw_wsX4_has
set_option maxRecDepth 20000 in
theorem gX5_possibleWeights_X4_has : GoodIn wsX5_possibleWeights (wsV RX5 104 RX4 yX4_has wsX4_has) := goodIn_app (goodIn_r _ [6, 7, 8, 9] rfl (by decide +kernel)) ggX5_possibleWeights_X4_has
theorem gw_wsX5_smallestPossibleWeight : wsX5_smallestPossibleWeight.all goodWord = true := by decide +kernel
set_option maxRecDepth 20000 in
theorem ggX5_possibleWeights_X5_smallestPossibleWeight : GoodIn wsX5_possibleWeights wsX5_smallestPossibleWeight := goodIn_r _ [16, 17, 18, 1, 19, 20, 2, 3, 4, 5, 21, 22, 23, 9, 24, 11, 25, 26, 27, 28, 29, 30, 31, 32, 33, 34, 35, 36, 48, 49, 50, 51, 52, 53, 54, 55, 56, 57, 58, 59, 60, 61, 62, 63, 64, 65, 66] rfl gw_wsX5_smallestPossibleWeight
set_option maxRecDepth 20000 in
theorem gX5_possibleWeights_X5_smallestPossibleWeight : GoodIn wsX5_possibleWeights (wsV RX5 222 RX5 yX5_smallestPossibleWeight wsX5_smallestPossibleWeight) := goodIn_app (goodIn_r _ [12, 13, 14, 15] rfl (by decide +kernel)) ggX5_possibleWeights_X5_smallestPossibleWeight
theorem gw_wsX5_greatestPossibleWeight : wsX5_greatestPossibleWeight.all goodWord = true := by decide +kernel
set_option maxRecDepth 20000 in
theorem ggX5_possibleWeights_X5_greatestPossibleWeight : GoodIn wsX5_possibleWeights wsX5_greatestPossibleWeight := goodIn_r _ [40, 17, 18, 1, 19, 20, 41, 42, 4, 43, 44, 45, 46, 9, 47, 11, 32, 33, 34, 35, 36, 26, 27, 28, 29, 30, 31, 21, 22, 23, 24, 25, 3, 5, 48, 49, 50, 51, 52, 53, 54, 55, 56, 57, 58, 59, 60, 61, 62, 63, 64, 65, 66] rfl gw_wsX5_greatestPossibleWeight
set_option maxRecDepth 20000 in
theorem gX5_possibleWeights_X5_greatestPossibleWeight : GoodIn wsX5_possibleWeights (wsV RX5 225 RX5 yX5_greatestPossibleWeight wsX5_greatestPossibleWeight) := goodIn_app (goodIn_r _ [37, 38, 39, 15] rfl (by decide +kernel)) ggX5_possibleWeights_X5_greatestPossibleWeight
set_option maxRecDepth 20000 in
theorem ggX5_smallestPossibleWeight_X4_weightToOwn : GoodIn wsX5_smallestPossibleWeight wsX4_weightToOwn := goodIn_r _ [14, 15, 16, 7, 8, 9, 17, 18, 19, 13, 20, 21, 22, 23, 24, 25, 26, 27, 43, 44, 45, 46] rfl gw_wsX4_weightToOwn
set_option maxRecDepth 20000 in
theorem gX5_smallestPossibleWeight_X4_weightToOwn : GoodIn wsX5_smallestPossibleWeight (wsV RX5 219 RX4 yX4_weightToOwn wsX4_weightToOwn) := goodIn_app (goodIn_r _ [10, 11, 12, 13] rfl (by decide +kernel)) ggX5_smallestPossibleWeight_X4_weightToOwn
set_option maxRecDepth 20000 in
theorem ggX5_greatestPossibleWeight_X4_ownerWithout : GoodIn wsX5_greatestPossibleWeight wsX4_ownerWithout := goodIn_r _ [14, 15, 16, 17, 18, 13, 19, 20, 21, 22, 23, 24, 25, 26, 49, 50, 51, 52] rfl gw_wsX4_ownerWithout
set_option maxRecDepth 20000 in
theorem gX5_greatestPossibleWeight_X4_ownerWithout : GoodIn wsX5_greatestPossibleWeight (wsV RX5 231 RX4 yX4_ownerWithout wsX4_ownerWithout) := goodIn_app (goodIn_r _ [10, 11, 12, 13] rfl (by decide +kernel)) ggX5_greatestPossibleWeight_X4_ownerWithout
set_option maxRecDepth 20000 in
theorem ggX5_greatestPossibleWeight_X4_weightToOwn : GoodIn wsX5_greatestPossibleWeight wsX4_weightToOwn := goodIn_r _ [30, 15, 31, 32, 8, 33, 21, 22, 23, 13, 24, 25, 26, 16, 17, 18, 19, 20, 49, 50, 51, 52] rfl gw_wsX4_weightToOwn
set_option maxRecDepth 20000 in
theorem gX5_greatestPossibleWeight_X4_weightToOwn : GoodIn wsX5_greatestPossibleWeight (wsV RX5 219 RX4 yX4_weightToOwn wsX4_weightToOwn) := goodIn_app (goodIn_r _ [27, 28, 29, 13] rfl (by decide +kernel)) ggX5_greatestPossibleWeight_X4_weightToOwn
theorem gw_wsX5_groupsAbove : wsX5_groupsAbove.all goodWord = true := by decide +kernel
set_option maxRecDepth 20000 in
theorem ggX5_runScript_X5_groupsAbove : GoodIn wsX5_runScript wsX5_groupsAbove := goodIn_r _ [7, 3] rfl gw_wsX5_groupsAbove
set_option maxRecDepth 20000 in
theorem gX5_runScript_X5_groupsAbove : GoodIn wsX5_runScript (va_wsS RX5 234 yX5_groupsAbove wsX5_groupsAbove) := goodIn_app (goodIn_r _ [4, 5, 6] rfl (by decide +kernel)) ggX5_runScript_X5_groupsAbove
theorem gw_wsX2_begin : wsX2_begin.all goodWord = true := by decide +kernel
set_option maxRecDepth 20000 in
theorem ggX5_runScript_X2_begin : GoodIn wsX5_runScript wsX2_begin := goodIn_r _ [12, 13, 14, 15, 16, 17, 18, 19, 20, 21, 22, 164, 165, 166, 167, 168, 169, 170] rfl gw_wsX2_begin
set_option maxRecDepth 20000 in
theorem gX5_runScript_X2_begin : GoodIn wsX5_runScript (wsV RX5 238 RX2 yX2_begin wsX2_begin) := goodIn_app (goodIn_r _ [8, 9, 10, 11] rfl (by decide +kernel)) ggX5_runScript_X2_begin
theorem gw_wsX2_succeeds : wsX2_succeeds.all goodWord = true := by decide +kernel
set_option maxRecDepth 20000 in
theorem ggX5_runScript_X2_succeeds : GoodIn wsX5_runScript wsX2_succeeds := goodIn_r _ [26, 13, 27, 14, 28, 29, 30, 11, 31, 32, 33, 34, 17, 35, 22, 36, 37, 38, 39, 19, 20, 21, 40, 41, 42, 43, 44, 45, 46, 6, 47, 48, 49, 50, 51, 52, 53, 54, 55, 56, 57, 58, 59, 60, 61, 62, 63, 64, 65, 66, 67, 68, 69, 70, 71, 72, 73, 74, 75, 76, 77, 78, 79, 80, 81, 82, 83, 84, 85, 86, 87, 88, 89, 90, 91, 92, 93, 94, 95, 96, 97, 98, 99, 100, 101, 102, 103, 104, 105, 106, 107, 108, 109, 110, 111, 112, 113, 114, 115, 116, 117, 118, 119, 120, 121, 122, 123, 124, 125, 126, 127, 128, 129, 130, 131, 132, 133, 134, 135, 136, 137, 138, 139, 140, 141, 142, 143, 144, 145, 146, 147, 148, 164, 165, 166, 167, 168, 169, 170, 171, 172, 173, 174, 175, 176, 177, 178, 179, 180, 181, 182] rfl gw_wsX2_succeeds
set_option maxRecDepth 20000 in
theorem gX5_runScript_X2_succeeds : GoodIn wsX5_runScript (wsV RX5 243 RX2 yX2_succeeds wsX2_succeeds) := goodIn_app (goodIn_r _ [23, 24, 25, 11] rfl (by decide +kernel)) ggX5_runScript_X2_succeeds
set_option maxRecDepth 20000 in
theorem ggX5_sample_X4_has : GoodIn wsX5_sample wsX4_has := goodIn_r _ [8, 9, 44, 45, 46, 47] rfl gw_wsX4_has
set_option maxRecDepth 20000 in
theorem gX5_sample_X4_has : GoodIn wsX5_sample (wsV RX5 104 RX4 yX4_has wsX4_has) := goodIn_app (goodIn_r _ [4, 5, 6, 7] rfl (by decide +kernel)) ggX5_sample_X4_has
set_option maxRecDepth 20000 in
theorem ggX5_sample_X4_ownerAt : GoodIn wsX5_sample wsX4_ownerAt := goodIn_r _ [13, 14, 15, 16, 7, 17, 9, 18, 19, 20, 21, 22, 23, 24, 25, 26, 27, 28, 44, 45, 46, 47] rfl gw_wsX4_ownerAt
set_option maxRecDepth 20000 in
theorem gX5_sample_X4_ownerAt : GoodIn wsX5_sample (wsV RX5 124 RX4 yX4_ownerAt wsX4_ownerAt) := goodIn_app (goodIn_r _ [10, 11, 12, 7] rfl (by decide +kernel)) ggX5_sample_X4_ownerAt
theorem gw_wsX5_isSlot : wsX5_isSlot.all goodWord = true := by decide +kernel
set_option maxRecDepth 20000 in
theorem ggX5_save_X5_isSlot : GoodIn wsX5_save wsX5_isSlot := goodIn_r _ [8] rfl gw_wsX5_isSlot
set_option maxRecDepth 20000 in
theorem gX5_save_X5_isSlot : GoodIn wsX5_save (va_wsS RX5 250 yX5_isSlot wsX5_isSlot) := goodIn_app (goodIn_r _ [5, 6, 7] rfl (by decide +kernel)) ggX5_save_X5_isSlot
set_option maxRecDepth 20000 in
theorem ggX5_save_X4_copy : GoodIn wsX5_save wsX4_copy := goodIn_r _ [12, 13, 14, 15, 16, 32, 33, 34, 35] rfl gw_wsX4_copy
set_option maxRecDepth 20000 in
theorem gX5_save_X4_copy : GoodIn wsX5_save (va_wsS RX5 145 yX4_copy wsX4_copy) := goodIn_app (goodIn_r _ [9, 10, 11] rfl (by decide +kernel)) ggX5_save_X4_copy
set_option maxRecDepth 20000 in
theorem ggX5_restore_X5_isSlot : GoodIn wsX5_restore wsX5_isSlot := goodIn_r _ [9] rfl gw_wsX5_isSlot
set_option maxRecDepth 20000 in
theorem gX5_restore_X5_isSlot : GoodIn wsX5_restore (va_wsS RX5 250 yX5_isSlot wsX5_isSlot) := goodIn_app (goodIn_r _ [6, 7, 8] rfl (by decide +kernel)) ggX5_restore_X5_isSlot
set_option maxRecDepth 20000 in
theorem ggX5_restore_X4_copy : GoodIn wsX5_restore wsX4_copy := goodIn_r _ [13, 14, 15, 16, 17, 33, 34, 35, 36] rfl gw_wsX4_copy
set_option maxRecDepth 20000 in
theorem gX5_restore_X4_copy : GoodIn wsX5_restore (va_wsS RX5 145 yX4_copy wsX4_copy) := goodIn_app (goodIn_r _ [10, 11, 12] rfl (by decide +kernel)) ggX5_restore_X4_copy
