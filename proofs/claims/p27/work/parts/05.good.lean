theorem wsL_law_x0 : ∀ w ∈ (vx_atS RX4 183 "java/lang/IndexOutOfBoundsException" ["java/lang/RuntimeException", "java/lang/Exception"]).filter goodWord, w ∈ lw_tbl := by decide +kernel
theorem wsL_law_x1 : ∀ w ∈ (vx_atS RX4 48 "java/lang/IllegalArgumentException" ["java/lang/RuntimeException", "java/lang/Exception"]).filter goodWord, w ∈ lw_tbl := by decide +kernel
theorem wsL_law_x2 : ∀ w ∈ (vx_atS RX4 60 "java/lang/IllegalStateException" ["java/lang/RuntimeException", "java/lang/Exception"]).filter goodWord, w ∈ lw_tbl := by decide +kernel
theorem wsL_law_in : ∀ w ∈ wsL_law, w ∈ lw_tbl := fun w h => (List.mem_append.mp h).elim (fun h => (List.mem_append.mp h).elim (fun h => (List.mem_append.mp h).elim (fun h => wsL_law_in0 w h) (fun h => wsL_law_x0 w h)) (fun h => wsL_law_x1 w h)) (fun h => wsL_law_x2 w h)
theorem inlX0 : ∀ w ∈ wsX00, w ∈ wsL_law := fun _ h => List.mem_append_left _ (List.mem_append_left _ (List.mem_append_left _ (List.mem_append_left _ (List.mem_append_left _ (List.mem_append_left _ (List.mem_append_left _ (List.mem_append_right _ h)))))))
theorem inX0 : ∀ w ∈ wsX00, w ∈ lw_tbl := fun w h => wsL_law_in w (inlX0 w h)
theorem inlX1 : ∀ w ∈ wsX10, w ∈ wsL_law := fun _ h => List.mem_append_left _ (List.mem_append_left _ (List.mem_append_left _ (List.mem_append_left _ (List.mem_append_left _ (List.mem_append_right _ h)))))
theorem inX1 : ∀ w ∈ wsX10, w ∈ lw_tbl := fun w h => wsL_law_in w (inlX1 w h)
theorem inlX2 : ∀ w ∈ wsX20, w ∈ wsL_law := fun _ h => List.mem_append_left _ (List.mem_append_left _ (List.mem_append_left _ (List.mem_append_left _ (List.mem_append_left _ (List.mem_append_left _ (List.mem_append_right _ h))))))
theorem inX2 : ∀ w ∈ wsX20, w ∈ lw_tbl := fun w h => wsL_law_in w (inlX2 w h)
theorem inlX3 : ∀ w ∈ wsX30, w ∈ wsL_law := fun _ h => List.mem_append_left _ (List.mem_append_left _ (List.mem_append_left _ (List.mem_append_left _ (List.mem_append_right _ h))))
theorem inX3 : ∀ w ∈ wsX30, w ∈ lw_tbl := fun w h => wsL_law_in w (inlX3 w h)
theorem inlX4 : ∀ w ∈ wsX40, w ∈ wsL_law := fun _ h => List.mem_append_left _ (List.mem_append_left _ (List.mem_append_left _ (List.mem_append_left _ (List.mem_append_left _ (List.mem_append_left _ (List.mem_append_left _ (List.mem_append_left _ (List.mem_append_right _ h))))))))
theorem inX4 : ∀ w ∈ wsX40, w ∈ lw_tbl := fun w h => wsL_law_in w (inlX4 w h)
theorem inX5 : ∀ w ∈ wsX50, w ∈ lw_tbl := by decide +kernel
theorem inJ13 : ∀ w ∈ wsJ130, w ∈ lw_tbl := by decide +kernel
theorem inJ9 : ∀ w ∈ wsJ90, w ∈ lw_tbl := by decide +kernel
theorem inJ0 : ∀ w ∈ wsJ00, w ∈ lw_tbl := by decide +kernel
set_option maxRecDepth 20000 in
theorem ggX0_init_X3_init : GoodIn wsX0_init wsX3_init := goodIn_r _ [12, 13, 2, 3, 14, 8, 15, 16, 17, 18, 19, 20, 21, 22, 23, 24] (by decide +kernel) (by decide +kernel)
set_option maxRecDepth 20000 in
theorem gX0_init_X3_init : GoodIn wsX0_init (wsX3_init) := ggX0_init_X3_init
set_option maxRecDepth 20000 in
theorem ggX0_givenTo_X0_clearRooms : GoodIn wsX0_givenTo wsX0_clearRooms := goodIn_r _ [7, 2, 12, 13] (by decide +kernel) (by decide +kernel)
set_option maxRecDepth 20000 in
theorem gX0_givenTo_X0_clearRooms : GoodIn wsX0_givenTo (wsV RX0 24 RX0 yX0_clearRooms wsX0_clearRooms) := goodIn_app (goodIn_of _ (by decide +kernel)) ggX0_givenTo_X0_clearRooms
set_option maxRecDepth 20000 in
theorem ggX0_givenTo_X0_lowestFreeRoom : GoodIn wsX0_givenTo wsX0_lowestFreeRoom := goodIn_r _ [11, 2, 12, 13] (by decide +kernel) (by decide +kernel)
set_option maxRecDepth 20000 in
theorem gX0_givenTo_X0_lowestFreeRoom : GoodIn wsX0_givenTo (wsV RX0 34 RX0 yX0_lowestFreeRoom wsX0_lowestFreeRoom) := goodIn_app (goodIn_of _ (by decide +kernel)) ggX0_givenTo_X0_lowestFreeRoom
set_option maxRecDepth 20000 in
theorem ggX1_init_X3_init : GoodIn wsX1_init wsX3_init := goodIn_r _ [18, 19, 2, 3, 20, 8, 21, 22, 23, 24, 25, 26, 27, 28, 29, 30] (by decide +kernel) (by decide +kernel)
set_option maxRecDepth 20000 in
theorem gX1_init_X3_init : GoodIn wsX1_init (wsX3_init) := ggX1_init_X3_init
set_option maxRecDepth 20000 in
theorem ggX1_greatestWeight_X1_clearRooms : GoodIn wsX1_greatestWeight wsX1_clearRooms := goodIn_r _ [7, 2, 8, 9, 10, 11, 12, 13, 6, 14, 41, 42, 43, 44, 45, 46, 47, 48, 49, 50, 51, 52, 53] (by decide +kernel) (by decide +kernel)
set_option maxRecDepth 20000 in
theorem gX1_greatestWeight_X1_clearRooms : GoodIn wsX1_greatestWeight (wsV RX1 40 RX1 yX1_clearRooms wsX1_clearRooms) := goodIn_app (goodIn_of _ (by decide +kernel)) ggX1_greatestWeight_X1_clearRooms
set_option maxRecDepth 20000 in
theorem ggX1_greatestWeight_X1_findBestWay : GoodIn wsX1_greatestWeight wsX1_findBestWay := goodIn_r _ [18, 2, 1, 19, 20, 21, 22, 23, 6, 24, 8, 10, 25, 26, 27, 28, 29, 30, 31, 32, 9, 41, 42, 43, 44, 45, 46, 47, 48, 49, 50, 51, 52, 53] (by decide +kernel) (by decide +kernel)
set_option maxRecDepth 20000 in
theorem gX1_greatestWeight_X1_findBestWay : GoodIn wsX1_greatestWeight (wsV RX1 43 RX1 yX1_findBestWay wsX1_findBestWay) := goodIn_app (goodIn_of _ (by decide +kernel)) ggX1_greatestWeight_X1_findBestWay
set_option maxRecDepth 20000 in
theorem ggX1_greatestWeight_X1_goBestWay : GoodIn wsX1_greatestWeight wsX1_goBestWay := goodIn_r _ [36, 2, 19, 37, 38, 39, 40, 20, 8, 9, 41, 42, 43, 44, 45, 46, 47, 48, 49, 50, 51, 52, 53] (by decide +kernel) (by decide +kernel)
set_option maxRecDepth 20000 in
theorem gX1_greatestWeight_X1_goBestWay : GoodIn wsX1_greatestWeight (wsV RX1 50 RX1 yX1_goBestWay wsX1_goBestWay) := goodIn_app (goodIn_of _ (by decide +kernel)) ggX1_greatestWeight_X1_goBestWay
set_option maxRecDepth 20000 in
theorem ggX1_clearRooms_X1_firstBegunFrom : GoodIn wsX1_clearRooms wsX1_firstBegunFrom := goodIn_r _ [9, 1, 10, 11, 12, 13, 14, 15, 16, 17, 18, 19, 20, 21, 22] (by decide +kernel) (by decide +kernel)
set_option maxRecDepth 20000 in
theorem gX1_clearRooms_X1_firstBegunFrom : GoodIn wsX1_clearRooms (wsV RX1 56 RX1 yX1_firstBegunFrom wsX1_firstBegunFrom) := goodIn_app (goodIn_of _ (by decide +kernel)) ggX1_clearRooms_X1_firstBegunFrom
set_option maxRecDepth 20000 in
theorem ggX1_findBestWay_X1_improveForwards : GoodIn wsX1_findBestWay wsX1_improveForwards := goodIn_r _ [9, 1, 2, 10, 11, 12, 13, 14, 8, 15, 3, 4, 21, 22, 23, 24, 25, 26, 27, 28, 29, 30, 31, 32, 33] (by decide +kernel) (by decide +kernel)
set_option maxRecDepth 20000 in
theorem gX1_findBestWay_X1_improveForwards : GoodIn wsX1_findBestWay (wsV RX1 63 RX1 yX1_improveForwards wsX1_improveForwards) := goodIn_app (goodIn_of _ (by decide +kernel)) ggX1_findBestWay_X1_improveForwards
set_option maxRecDepth 20000 in
theorem ggX1_findBestWay_X1_improveBackwards : GoodIn wsX1_findBestWay wsX1_improveBackwards := goodIn_r _ [19, 1, 20, 2, 10, 11, 12, 13, 14, 8, 15, 3, 4, 21, 22, 23, 24, 25, 26, 27, 28, 29, 30, 31, 32, 33] (by decide +kernel) (by decide +kernel)
set_option maxRecDepth 20000 in
theorem gX1_findBestWay_X1_improveBackwards : GoodIn wsX1_findBestWay (wsV RX1 67 RX1 yX1_improveBackwards wsX1_improveBackwards) := goodIn_app (goodIn_of _ (by decide +kernel)) ggX1_findBestWay_X1_improveBackwards
set_option maxRecDepth 20000 in
theorem ggX1_improveForwards_X1_reach : GoodIn wsX1_improveForwards wsX1_reach := goodIn_r _ [9, 2, 10, 11, 12, 13, 14, 15, 16, 17, 18] (by decide +kernel) (by decide +kernel)
set_option maxRecDepth 20000 in
theorem gX1_improveForwards_X1_reach : GoodIn wsX1_improveForwards (wsV RX1 70 RX1 yX1_reach wsX1_reach) := goodIn_app (goodIn_of _ (by decide +kernel)) ggX1_improveForwards_X1_reach
set_option maxRecDepth 20000 in
theorem ggX1_improveBackwards_X1_reach : GoodIn wsX1_improveBackwards wsX1_reach := goodIn_r _ [10, 3, 11, 12, 13, 14, 15, 16, 17, 18, 19] (by decide +kernel) (by decide +kernel)
set_option maxRecDepth 20000 in
theorem gX1_improveBackwards_X1_reach : GoodIn wsX1_improveBackwards (wsV RX1 70 RX1 yX1_reach wsX1_reach) := goodIn_app (goodIn_of _ (by decide +kernel)) ggX1_improveBackwards_X1_reach
set_option maxRecDepth 20000 in
theorem ggX2_init_X3_init : GoodIn wsX2_init wsX3_init := goodIn_r _ [12, 13, 2, 3, 14, 8, 15, 16, 17, 18, 19, 20, 21, 22, 23, 24] (by decide +kernel) (by decide +kernel)
set_option maxRecDepth 20000 in
theorem gX2_init_X3_init : GoodIn wsX2_init (wsX3_init) := ggX2_init_X3_init
set_option maxRecDepth 20000 in
theorem ggX2_greatestWeight_X2_endedBy : GoodIn wsX2_greatestWeight wsX2_endedBy := goodIn_r _ [11, 2, 12, 13, 14, 15, 16, 17, 18, 19] (by decide +kernel) (by decide +kernel)
set_option maxRecDepth 20000 in
theorem gX2_greatestWeight_X2_endedBy : GoodIn wsX2_greatestWeight (wsV RX2 34 RX2 yX2_endedBy wsX2_endedBy) := goodIn_app (goodIn_of _ (by decide +kernel)) ggX2_greatestWeight_X2_endedBy
set_option maxRecDepth 20000 in
theorem ggX2_chosenSet_X2_greatestWeight : GoodIn wsX2_chosenSet wsX2_greatestWeight := goodIn_r _ [7, 2, 1, 8, 9, 10, 11, 12, 13, 14, 6, 15, 19, 20, 21, 22, 23, 24, 25, 26] (by decide +kernel) (by decide +kernel)
set_option maxRecDepth 20000 in
theorem gX2_chosenSet_X2_greatestWeight : GoodIn wsX2_chosenSet (wsV RX2 44 RX2 yX2_greatestWeight wsX2_greatestWeight) := goodIn_app (goodIn_of _ (by decide +kernel)) ggX2_chosenSet_X2_greatestWeight
set_option maxRecDepth 20000 in
theorem ggX2_chosenSet_X4_only : GoodIn wsX2_chosenSet wsX4_only := goodIn_r _ [18] (by decide +kernel) (by decide +kernel)
set_option maxRecDepth 20000 in
theorem gX2_chosenSet_X4_only_n51 : GoodIn wsX2_chosenSet (wsX4_only) := ggX2_chosenSet_X4_only
set_option maxRecDepth 20000 in
theorem ggX2_chosenSet_X2_endedBy : GoodIn wsX2_chosenSet wsX2_endedBy := goodIn_r _ [15, 1, 19, 20, 21, 22, 23, 24, 25, 26] (by decide +kernel) (by decide +kernel)
set_option maxRecDepth 20000 in
theorem gX2_chosenSet_X2_endedBy : GoodIn wsX2_chosenSet (wsV RX2 34 RX2 yX2_endedBy wsX2_endedBy) := goodIn_app (goodIn_of _ (by decide +kernel)) ggX2_chosenSet_X2_endedBy
set_option maxRecDepth 20000 in
theorem ggX3_put_X3_comesBehind : GoodIn wsX3_put wsX3_comesBehind := goodIn_r _ [10, 11, 4, 3, 16, 17, 18, 19, 20, 21] (by decide +kernel) (by decide +kernel)
set_option maxRecDepth 20000 in
theorem gX3_put_X3_comesBehind : GoodIn wsX3_put (wsV RX3 32 RX3 yX3_comesBehind wsX3_comesBehind) := goodIn_app (goodIn_of _ (by decide +kernel)) ggX3_put_X3_comesBehind
set_option maxRecDepth 20000 in
theorem ggX3_put_X3_shiftUp : GoodIn wsX3_put wsX3_shiftUp := goodIn_r _ [15, 2, 3, 4, 5, 16, 17, 18, 19, 20, 21] (by decide +kernel) (by decide +kernel)
set_option maxRecDepth 20000 in
theorem gX3_put_X3_shiftUp : GoodIn wsX3_put (wsV RX3 36 RX3 yX3_shiftUp wsX3_shiftUp) := goodIn_app (goodIn_of _ (by decide +kernel)) ggX3_put_X3_shiftUp
set_option maxRecDepth 20000 in
theorem ggX4_init_X0_init : GoodIn wsX4_init wsX0_init := goodIn_r _ [23, 24, 2, 3, 25, 26, 27, 28, 4, 29, 30, 31, 32, 33, 34, 35, 36, 37, 38, 84, 85, 86, 87, 88, 89, 73, 74] (by decide +kernel) (by decide +kernel)
set_option maxRecDepth 20000 in
theorem gX4_init_X0_init : GoodIn wsX4_init (wsX0_init) := ggX4_init_X0_init
set_option maxRecDepth 20000 in
theorem ggX4_init_X2_init : GoodIn wsX4_init wsX2_init := goodIn_r _ [41, 42, 2, 3, 43, 26, 27, 44, 4, 45, 46, 31, 32, 33, 34, 35, 36, 37, 38, 84, 85, 86, 87, 88, 89, 75, 76] (by decide +kernel) (by decide +kernel)
set_option maxRecDepth 20000 in
theorem gX4_init_X2_init : GoodIn wsX4_init (wsX2_init) := ggX4_init_X2_init
set_option maxRecDepth 20000 in
theorem ggX4_init_X1_init : GoodIn wsX4_init wsX1_init := goodIn_r _ [49, 50, 2, 3, 51, 26, 27, 52, 4, 53, 54, 55, 56, 57, 58, 59, 60, 31, 32, 33, 34, 35, 36, 37, 38, 84, 85, 86, 87, 88, 89, 77, 78, 79, 80, 81, 82, 83] (by decide +kernel) (by decide +kernel)
set_option maxRecDepth 20000 in
theorem gX4_init_X1_init : GoodIn wsX4_init (wsX1_init) := ggX4_init_X1_init
set_option maxRecDepth 20000 in
theorem ggX4_add_X4_only : GoodIn wsX4_add wsX4_only := goodIn_r _ [13] (by decide +kernel) (by decide +kernel)
set_option maxRecDepth 20000 in
theorem gX4_add_X4_only : GoodIn wsX4_add (va_wsS RX4 65 yX4_only wsX4_only) := goodIn_app (goodIn_of _ (by decide +kernel)) ggX4_add_X4_only
set_option maxRecDepth 20000 in
theorem ggX4_remove_X4_requireThere : GoodIn wsX4_remove wsX4_requireThere := goodIn_ca (goodIn_r _ [8, 9, 10, 11, 1, 12, 13, 7, 14, 15, 16, 17, 25, 26, 27, 28, 29, 30, 31, 32, 33, 34, 35, 36] (by decide +kernel) (by decide +kernel)) (goodIn_sub (fun _ h => List.mem_cons_of_mem _ (List.mem_append_right _ h)) (by decide +kernel))
set_option maxRecDepth 20000 in
theorem gX4_remove_X4_requireThere : GoodIn wsX4_remove (wsV RX4 69 RX4 yX4_requireThere wsX4_requireThere) := goodIn_app (goodIn_of _ (by decide +kernel)) ggX4_remove_X4_requireThere
set_option maxRecDepth 20000 in
theorem ggX4_remove_X4_only : GoodIn wsX4_remove wsX4_only := goodIn_r _ [17] (by decide +kernel) (by decide +kernel)
set_option maxRecDepth 20000 in
theorem gX4_remove_X4_only : GoodIn wsX4_remove (va_wsS RX4 65 yX4_only wsX4_only) := goodIn_app (goodIn_of _ (by decide +kernel)) ggX4_remove_X4_only
set_option maxRecDepth 20000 in
theorem ggX4_remove_J13_bitCount_95d88 : GoodIn wsX4_remove wsJ13_bitCount_95d88 := goodIn_r _ [21, 22, 23, 24] (by decide +kernel) (by decide +kernel)
set_option maxRecDepth 20000 in
theorem gX4_remove_J13_bitCount_95d88 : GoodIn wsX4_remove (va_wsS RX4 78 yJ13_bitCount_95d88 wsJ13_bitCount_95d88) := goodIn_app (goodIn_of _ (by decide +kernel)) ggX4_remove_J13_bitCount_95d88
set_option maxRecDepth 20000 in
theorem ggX4_move_X4_requireThere : GoodIn wsX4_move wsX4_requireThere := goodIn_ca (goodIn_r _ [11, 12, 13, 14, 15, 16, 17, 10, 18, 19, 20, 21, 26, 27, 28, 29, 30, 31, 32, 33, 34, 35, 36, 37] (by decide +kernel) (by decide +kernel)) (goodIn_sub (fun _ h => List.mem_cons_of_mem _ (List.mem_append_right _ h)) (by decide +kernel))
set_option maxRecDepth 20000 in
theorem gX4_move_X4_requireThere : GoodIn wsX4_move (wsV RX4 69 RX4 yX4_requireThere wsX4_requireThere) := goodIn_app (goodIn_of _ (by decide +kernel)) ggX4_move_X4_requireThere
set_option maxRecDepth 20000 in
theorem ggX4_move_X4_lengthOf : GoodIn wsX4_move wsX4_lengthOf := goodIn_r _ [25, 4, 3, 26, 27, 28, 29, 30, 31, 32, 33, 34, 35, 36, 37] (by decide +kernel) (by decide +kernel)
set_option maxRecDepth 20000 in
theorem gX4_move_X4_lengthOf : GoodIn wsX4_move (wsV RX4 84 RX4 yX4_lengthOf wsX4_lengthOf) := goodIn_app (goodIn_of _ (by decide +kernel)) ggX4_move_X4_lengthOf
set_option maxRecDepth 20000 in
theorem ggX4_move_X4_only : GoodIn wsX4_move wsX4_only := goodIn_r _ [21] (by decide +kernel) (by decide +kernel)
set_option maxRecDepth 20000 in
theorem gX4_move_X4_only : GoodIn wsX4_move (va_wsS RX4 65 yX4_only wsX4_only) := goodIn_app (goodIn_of _ (by decide +kernel)) ggX4_move_X4_only
set_option maxRecDepth 20000 in
theorem ggX4_intervals_J13_bitCount_95d88 : GoodIn wsX4_intervals wsJ13_bitCount_95d88 := goodIn_r _ [5, 6, 7, 8] (by decide +kernel) (by decide +kernel)
set_option maxRecDepth 20000 in
theorem gX4_intervals_J13_bitCount_95d88 : GoodIn wsX4_intervals (va_wsS RX4 78 yJ13_bitCount_95d88 wsJ13_bitCount_95d88) := goodIn_app (goodIn_of _ (by decide +kernel)) ggX4_intervals_J13_bitCount_95d88
set_option maxRecDepth 20000 in
theorem ggX4_overlapping_X4_requireThere : GoodIn wsX4_overlapping wsX4_requireThere := goodIn_ca (goodIn_r _ [5, 6, 7, 8, 9, 10, 11, 4, 12, 13, 14, 15, 23, 24, 25, 26, 27, 28, 29, 30, 31, 32, 33, 34] (by decide +kernel) (by decide +kernel)) (goodIn_sub (fun _ h => List.mem_cons_of_mem _ (List.mem_append_right _ h)) (by decide +kernel))
set_option maxRecDepth 20000 in
theorem gX4_overlapping_X4_requireThere : GoodIn wsX4_overlapping (wsV RX4 69 RX4 yX4_requireThere wsX4_requireThere) := goodIn_app (goodIn_of _ (by decide +kernel)) ggX4_overlapping_X4_requireThere
set_option maxRecDepth 20000 in
theorem ggX4_overlapping_X4_othersMeeting : GoodIn wsX4_overlapping wsX4_othersMeeting := goodIn_r _ [19, 8, 20, 21, 9, 22, 13, 14, 4, 15, 23, 24, 25, 26, 27, 28, 29, 30, 31, 32, 33, 34] (by decide +kernel) (by decide +kernel)
set_option maxRecDepth 20000 in
theorem gX4_overlapping_X4_othersMeeting : GoodIn wsX4_overlapping (wsV RX4 90 RX4 yX4_othersMeeting wsX4_othersMeeting) := goodIn_app (goodIn_of _ (by decide +kernel)) ggX4_overlapping_X4_othersMeeting
set_option maxRecDepth 20000 in
theorem ggX4_rooms_X4_leastDeepestTime : GoodIn wsX4_rooms wsX4_leastDeepestTime := goodIn_r _ [5, 6, 7, 8, 9, 10, 4, 11, 12, 13, 14, 15, 16, 17, 18, 19, 20, 21, 22, 23, 24, 25, 26, 27, 28, 29, 30, 31] (by decide +kernel) (by decide +kernel)
set_option maxRecDepth 20000 in
theorem gX4_rooms_X4_leastDeepestTime : GoodIn wsX4_rooms (wsV RX4 93 RX4 yX4_leastDeepestTime wsX4_leastDeepestTime) := goodIn_app (goodIn_of _ (by decide +kernel)) ggX4_rooms_X4_leastDeepestTime
set_option maxRecDepth 20000 in
theorem ggX4_rooms_X4_depthAt : GoodIn wsX4_rooms wsX4_depthAt := goodIn_r _ [18, 6, 8, 7, 19, 9, 10, 4, 11, 12, 13, 14, 20, 21, 22, 23, 24, 25, 26, 27, 28, 29, 30, 31] (by decide +kernel) (by decide +kernel)
set_option maxRecDepth 20000 in
theorem gX4_rooms_X4_depthAt : GoodIn wsX4_rooms (wsV RX4 97 RX4 yX4_depthAt wsX4_depthAt) := goodIn_app (goodIn_of _ (by decide +kernel)) ggX4_rooms_X4_depthAt
set_option maxRecDepth 20000 in
theorem ggX4_roomOf_X4_requireThere : GoodIn wsX4_roomOf wsX4_requireThere := goodIn_ca (goodIn_r _ [7, 8, 9, 10, 2, 11, 12, 6, 13, 14, 15, 16, 62, 63, 64, 65, 66, 67, 68, 69, 70, 71, 72, 73] (by decide +kernel) (by decide +kernel)) (goodIn_sub (fun _ h => List.mem_cons_of_mem _ (List.mem_append_right _ h)) (by decide +kernel))
set_option maxRecDepth 20000 in
theorem gX4_roomOf_X4_requireThere : GoodIn wsX4_roomOf (wsV RX4 69 RX4 yX4_requireThere wsX4_requireThere) := goodIn_app (goodIn_of _ (by decide +kernel)) ggX4_roomOf_X4_requireThere
set_option maxRecDepth 20000 in
theorem ggX4_roomOf_X4_fill : GoodIn wsX4_roomOf wsX4_fill := goodIn_r _ [20, 10, 21, 22, 23, 24, 25, 26, 27, 28, 29, 11, 12, 6, 13, 14, 15, 16, 30, 31, 32, 33, 34, 35, 36, 37, 38, 39, 40, 41, 42, 43, 44, 45, 46, 62, 63, 64, 65, 66, 67, 68, 69, 70, 71, 72, 73, 76, 77, 78, 79, 80, 81] (by decide +kernel) (by decide +kernel)
set_option maxRecDepth 20000 in
theorem gX4_roomOf_X4_fill : GoodIn wsX4_roomOf (wsV RX4 104 RX4 yX4_fill wsX4_fill) := goodIn_app (goodIn_of _ (by decide +kernel)) ggX4_roomOf_X4_fill
set_option maxRecDepth 20000 in
theorem ggX4_roomOf_X0_givenTo : GoodIn wsX4_roomOf wsX0_givenTo := goodIn_r _ [51, 52, 53, 54, 55, 56, 50, 57, 58, 59, 60, 61, 74, 75, 76, 77, 78, 79, 80, 81] (by decide +kernel) (by decide +kernel)
set_option maxRecDepth 20000 in
theorem gX4_roomOf_X0_givenTo : GoodIn wsX4_roomOf (wsV RX4 108 RX0 yX0_givenTo wsX0_givenTo) := goodIn_app (goodIn_of _ (by decide +kernel)) ggX4_roomOf_X0_givenTo
set_option maxRecDepth 20000 in
theorem ggX4_depth_X4_depthAt : GoodIn wsX4_depth wsX4_depthAt := goodIn_r _ [7, 8, 9, 10, 11, 12, 13, 6, 14, 15, 16, 17, 18, 19, 20, 21, 22, 23, 24, 25, 26, 27, 28, 29] (by decide +kernel) (by decide +kernel)
set_option maxRecDepth 20000 in
theorem gX4_depth_X4_depthAt : GoodIn wsX4_depth (wsV RX4 97 RX4 yX4_depthAt wsX4_depthAt) := goodIn_app (goodIn_of _ (by decide +kernel)) ggX4_depth_X4_depthAt
set_option maxRecDepth 20000 in
theorem ggX4_busiest_X4_leastDeepestTime : GoodIn wsX4_busiest wsX4_leastDeepestTime := goodIn_r _ [5, 6, 7, 8, 9, 10, 4, 11, 12, 13, 14, 15, 16, 17, 18, 19, 20, 21, 22, 23, 24, 25, 26, 27, 28, 29, 30, 31] (by decide +kernel) (by decide +kernel)
set_option maxRecDepth 20000 in
theorem gX4_busiest_X4_leastDeepestTime : GoodIn wsX4_busiest (wsV RX4 93 RX4 yX4_leastDeepestTime wsX4_leastDeepestTime) := goodIn_app (goodIn_of _ (by decide +kernel)) ggX4_busiest_X4_leastDeepestTime
set_option maxRecDepth 20000 in
theorem ggX4_earliest_X4_fits : GoodIn wsX4_earliest wsX4_fits := goodIn_r _ [7, 8, 9, 10, 11, 12, 6, 13, 14, 15, 16, 17, 18, 19, 20, 21, 26, 27, 28, 29, 30, 31, 32, 33, 34, 35, 36, 37] (by decide +kernel) (by decide +kernel)
set_option maxRecDepth 20000 in
theorem gX4_earliest_X4_fits : GoodIn wsX4_earliest (wsV RX4 117 RX4 yX4_fits wsX4_fits) := goodIn_app (goodIn_of _ (by decide +kernel)) ggX4_earliest_X4_fits
set_option maxRecDepth 20000 in
theorem ggX4_earliest_X4_earliestEndThatFits : GoodIn wsX4_earliest wsX4_earliestEndThatFits := goodIn_r _ [25, 8, 15, 14, 16, 17, 6, 18, 19, 20, 21, 3, 4, 5, 7, 9, 10, 11, 12, 13, 26, 27, 28, 29, 30, 31, 32, 33, 34, 35, 36, 37] (by decide +kernel) (by decide +kernel)
set_option maxRecDepth 20000 in
theorem gX4_earliest_X4_earliestEndThatFits : GoodIn wsX4_earliest (wsV RX4 121 RX4 yX4_earliestEndThatFits wsX4_earliestEndThatFits) := goodIn_app (goodIn_of _ (by decide +kernel)) ggX4_earliest_X4_earliestEndThatFits
set_option maxRecDepth 20000 in
theorem ggX4_heaviest_X4_heaviestForOne : GoodIn wsX4_heaviest wsX4_heaviestForOne := goodIn_r _ [6, 7, 8, 9, 10, 5, 11, 12, 13, 14, 15, 16, 17, 18, 19, 20, 21, 22, 23, 24, 25, 26, 27, 28, 29, 30, 31, 32, 33, 34, 35, 36, 37, 38, 39, 40, 41, 42, 43, 44, 45, 46, 47, 48, 49, 50, 51, 52, 53, 54, 55, 56, 57, 58, 59, 60, 61, 62, 63, 64, 65, 66, 67, 68, 69, 70, 71, 72, 73, 74, 75, 76, 77, 78, 79] (by decide +kernel) (by decide +kernel)
set_option maxRecDepth 20000 in
theorem gX4_heaviest_X4_heaviestForOne : GoodIn wsX4_heaviest (wsV RX4 125 RX4 yX4_heaviestForOne wsX4_heaviestForOne) := goodIn_app (goodIn_of _ (by decide +kernel)) ggX4_heaviest_X4_heaviestForOne
set_option maxRecDepth 20000 in
theorem ggX4_chosen_X4_fill : GoodIn wsX4_chosen wsX4_fill := goodIn_r _ [7, 8, 9, 10, 11, 12, 13, 14, 15, 16, 17, 18, 19, 6, 20, 21, 22, 23, 24, 25, 26, 27, 28, 29, 30, 31, 32, 33, 34, 35, 36, 37, 38, 39, 40, 60, 61, 62, 63, 64, 65, 66, 67, 68, 69, 70, 71, 74, 75, 76, 77, 78, 79] (by decide +kernel) (by decide +kernel)
set_option maxRecDepth 20000 in
theorem gX4_chosen_X4_fill : GoodIn wsX4_chosen (wsV RX4 104 RX4 yX4_fill wsX4_fill) := goodIn_app (goodIn_of _ (by decide +kernel)) ggX4_chosen_X4_fill
set_option maxRecDepth 20000 in
theorem ggX4_chosen_X2_chosenSet : GoodIn wsX4_chosen wsX2_chosenSet := goodIn_r _ [45, 46, 47, 48, 49, 50, 44, 51, 52, 53, 54, 55, 56, 57, 58, 59, 22, 6, 23, 72, 73, 74, 75, 76, 77, 78, 79] (by decide +kernel) (by decide +kernel)
set_option maxRecDepth 20000 in
theorem gX4_chosen_X2_chosenSet : GoodIn wsX4_chosen (wsV RX4 129 RX2 yX2_chosenSet wsX2_chosenSet) := goodIn_app (goodIn_of _ (by decide +kernel)) ggX4_chosen_X2_chosenSet
set_option maxRecDepth 20000 in
theorem ggX4_most_X4_fill : GoodIn wsX4_most wsX4_fill := goodIn_r _ [7, 8, 9, 10, 11, 12, 13, 14, 15, 16, 17, 18, 19, 6, 20, 21, 22, 23, 24, 25, 26, 27, 28, 29, 30, 31, 32, 33, 34, 35, 36, 37, 38, 39, 40, 47, 48, 49, 50, 51, 52, 53, 54, 55, 56, 57, 58, 61, 62, 63, 64, 65, 66] (by decide +kernel) (by decide +kernel)
set_option maxRecDepth 20000 in
theorem gX4_most_X4_fill : GoodIn wsX4_most (wsV RX4 104 RX4 yX4_fill wsX4_fill) := goodIn_app (goodIn_of _ (by decide +kernel)) ggX4_most_X4_fill
set_option maxRecDepth 20000 in
theorem ggX4_most_X2_greatestNumber : GoodIn wsX4_most wsX2_greatestNumber := goodIn_r _ [45, 46, 59, 60, 61, 62, 63, 64, 65, 66] (by decide +kernel) (by decide +kernel)
set_option maxRecDepth 20000 in
theorem gX4_most_X2_greatestNumber : GoodIn wsX4_most (wsV RX4 133 RX2 yX2_greatestNumber wsX2_greatestNumber) := goodIn_app (goodIn_of _ (by decide +kernel)) ggX4_most_X2_greatestNumber
set_option maxRecDepth 20000 in
theorem ggX4_heaviestIn_X4_requirePlannedRooms : GoodIn wsX4_heaviestIn wsX4_requirePlannedRooms := goodIn_ca (goodIn_r _ [5, 6, 7] (by decide +kernel) (by decide +kernel)) (goodIn_sub (fun _ h => List.mem_cons_of_mem _ (List.mem_append_right _ h)) (by decide +kernel))
set_option maxRecDepth 20000 in
theorem gX4_heaviestIn_X4_requirePlannedRooms : GoodIn wsX4_heaviestIn (va_wsS RX4 136 yX4_requirePlannedRooms wsX4_requirePlannedRooms) := goodIn_app (goodIn_of _ (by decide +kernel)) ggX4_heaviestIn_X4_requirePlannedRooms
set_option maxRecDepth 20000 in
theorem ggX4_heaviestIn_X4_heaviestForMany : GoodIn wsX4_heaviestIn wsX4_heaviestForMany := goodIn_r _ [11, 12, 13, 14, 15, 4, 16, 17, 18, 19, 20, 21, 22, 23, 24, 25, 26, 27, 28, 29, 30, 31, 32, 33, 34, 35, 36, 37, 38, 39, 40, 41, 42, 43, 44, 45, 46, 47, 48, 49, 50, 51, 52, 53, 54, 55, 56, 57, 58, 59, 60, 61, 62, 63, 64, 65, 66, 67, 68, 69, 70, 71, 72, 73, 74, 75, 76, 77, 78, 79, 80, 81, 82, 83, 84, 85, 86, 87, 88, 89, 90, 91, 92, 93, 94, 95, 96, 97, 98, 99, 100, 101, 102, 103, 104, 105, 106, 107, 108, 109, 110, 111, 112, 113, 114, 115, 116, 117, 118] (by decide +kernel) (by decide +kernel)
set_option maxRecDepth 20000 in
theorem gX4_heaviestIn_X4_heaviestForMany : GoodIn wsX4_heaviestIn (wsV RX4 139 RX4 yX4_heaviestForMany wsX4_heaviestForMany) := goodIn_app (goodIn_of _ (by decide +kernel)) ggX4_heaviestIn_X4_heaviestForMany
set_option maxRecDepth 20000 in
theorem ggX4_openDesk_X4_weightOf : GoodIn wsX4_openDesk wsX4_weightOf := goodIn_r _ [11, 12, 13, 14, 15, 10, 16, 17, 18, 19, 20, 21, 22, 23, 24, 25, 26, 27, 28, 29, 30, 31] (by decide +kernel) (by decide +kernel)
set_option maxRecDepth 20000 in
theorem gX4_openDesk_X4_weightOf : GoodIn wsX4_openDesk (wsV RX4 145 RX4 yX4_weightOf wsX4_weightOf) := goodIn_app (goodIn_of _ (by decide +kernel)) ggX4_openDesk_X4_weightOf
set_option maxRecDepth 20000 in
theorem ggX4_offer_X4_requireThere : GoodIn wsX4_offer wsX4_requireThere := goodIn_ca (goodIn_r _ [13, 14, 15, 16, 17, 18, 19, 12, 20, 21, 22, 23, 34, 35, 36, 37, 38, 39, 40, 41, 42, 43, 44, 45] (by decide +kernel) (by decide +kernel)) (goodIn_sub (fun _ h => List.mem_cons_of_mem _ (List.mem_append_right _ h)) (by decide +kernel))
set_option maxRecDepth 20000 in
theorem gX4_offer_X4_requireThere : GoodIn wsX4_offer (wsV RX4 69 RX4 yX4_requireThere wsX4_requireThere) := goodIn_app (goodIn_of _ (by decide +kernel)) ggX4_offer_X4_requireThere
set_option maxRecDepth 20000 in
theorem ggX4_offer_X4_contains : GoodIn wsX4_offer wsX4_contains := goodIn_r _ [20, 21, 22, 12, 23] (by decide +kernel) (by decide +kernel)
set_option maxRecDepth 20000 in
theorem gX4_offer_X4_contains : GoodIn wsX4_offer (va_wsS RX4 154 yX4_contains wsX4_contains) := goodIn_app (goodIn_of _ (by decide +kernel)) ggX4_offer_X4_contains
set_option maxRecDepth 20000 in
theorem ggX4_offer_X4_only : GoodIn wsX4_offer wsX4_only := goodIn_r _ [23] (by decide +kernel) (by decide +kernel)
set_option maxRecDepth 20000 in
theorem gX4_offer_X4_only : GoodIn wsX4_offer (va_wsS RX4 65 yX4_only wsX4_only) := goodIn_app (goodIn_of _ (by decide +kernel)) ggX4_offer_X4_only
set_option maxRecDepth 20000 in
theorem ggX4_offer_X4_othersMeeting : GoodIn wsX4_offer wsX4_othersMeeting := goodIn_r _ [27, 16, 28, 29, 17, 7, 21, 22, 12, 23, 34, 35, 36, 37, 38, 39, 40, 41, 42, 43, 44, 45] (by decide +kernel) (by decide +kernel)
set_option maxRecDepth 20000 in
theorem gX4_offer_X4_othersMeeting : GoodIn wsX4_offer (wsV RX4 90 RX4 yX4_othersMeeting wsX4_othersMeeting) := goodIn_app (goodIn_of _ (by decide +kernel)) ggX4_offer_X4_othersMeeting
set_option maxRecDepth 20000 in
theorem ggX4_offer_X4_weightOf : GoodIn wsX4_offer wsX4_weightOf := goodIn_r _ [33, 16, 5, 18, 19, 12, 20, 21, 22, 23, 34, 35, 36, 37, 38, 39, 40, 41, 42, 43, 44, 45] (by decide +kernel) (by decide +kernel)
set_option maxRecDepth 20000 in
theorem gX4_offer_X4_weightOf : GoodIn wsX4_offer (wsV RX4 145 RX4 yX4_weightOf wsX4_weightOf) := goodIn_app (goodIn_of _ (by decide +kernel)) ggX4_offer_X4_weightOf
set_option maxRecDepth 20000 in
theorem ggX4_acceptedWeight_X4_weightOf : GoodIn wsX4_acceptedWeight wsX4_weightOf := goodIn_r _ [6, 7, 8, 9, 10, 5, 11, 12, 13, 14, 15, 16, 17, 18, 19, 20, 21, 22, 23, 24, 25, 26] (by decide +kernel) (by decide +kernel)
set_option maxRecDepth 20000 in
theorem gX4_acceptedWeight_X4_weightOf : GoodIn wsX4_acceptedWeight (wsV RX4 145 RX4 yX4_weightOf wsX4_weightOf) := goodIn_app (goodIn_of _ (by decide +kernel)) ggX4_acceptedWeight_X4_weightOf
set_option maxRecDepth 20000 in
theorem ggX4_bestOfOffered_X4_heaviestForOne : GoodIn wsX4_bestOfOffered wsX4_heaviestForOne := goodIn_r _ [7, 8, 9, 10, 11, 6, 12, 13, 14, 15, 16, 17, 18, 19, 20, 21, 22, 23, 24, 25, 26, 27, 28, 29, 30, 31, 32, 33, 34, 35, 36, 37, 38, 39, 40, 41, 42, 43, 44, 45, 46, 47, 48, 49, 50, 51, 52, 53, 54, 55, 56, 57, 58, 59, 60, 61, 62, 63, 64, 65, 66, 67, 68, 69, 70, 71, 72, 73, 74, 75, 76, 77, 78, 79, 80] (by decide +kernel) (by decide +kernel)
set_option maxRecDepth 20000 in
theorem gX4_bestOfOffered_X4_heaviestForOne : GoodIn wsX4_bestOfOffered (wsV RX4 125 RX4 yX4_heaviestForOne wsX4_heaviestForOne) := goodIn_app (goodIn_of _ (by decide +kernel)) ggX4_bestOfOffered_X4_heaviestForOne
set_option maxRecDepth 20000 in
theorem ggX4_depthRound_X4_requireCircle : GoodIn wsX4_depthRound wsX4_requireCircle := goodIn_ca (goodIn_ca (goodIn_r _ [12, 13, 14, 15, 16, 1, 2, 17, 18, 11, 19, 20, 21, 22, 23, 24, 25, 26, 27, 3, 39, 40, 41, 42, 43, 44, 45, 46, 47, 48, 49, 50] (by decide +kernel) (by decide +kernel)) (goodIn_sub (fun _ h => List.mem_cons_of_mem _ (List.mem_append_left _ (List.mem_append_right _ h))) (by decide +kernel))) (goodIn_sub (fun _ h => List.mem_cons_of_mem _ (List.mem_append_right _ h)) (by decide +kernel))
set_option maxRecDepth 20000 in
theorem gX4_depthRound_X4_requireCircle : GoodIn wsX4_depthRound (wsV RX4 160 RX4 yX4_requireCircle wsX4_requireCircle) := goodIn_app (goodIn_of _ (by decide +kernel)) ggX4_depthRound_X4_requireCircle
set_option maxRecDepth 20000 in
theorem ggX4_depthRound_X4_contains : GoodIn wsX4_depthRound wsX4_contains := goodIn_r _ [19, 20, 21, 11, 22] (by decide +kernel) (by decide +kernel)
set_option maxRecDepth 20000 in
theorem gX4_depthRound_X4_contains : GoodIn wsX4_depthRound (va_wsS RX4 154 yX4_contains wsX4_contains) := goodIn_app (goodIn_of _ (by decide +kernel)) ggX4_depthRound_X4_contains
set_option maxRecDepth 20000 in
theorem ggX4_depthRound_X4_depthOnCircle : GoodIn wsX4_depthRound wsX4_depthOnCircle := goodIn_r _ [31, 1, 2, 3, 17, 18, 11, 19, 20, 21, 22, 32, 33, 34, 35, 36, 37, 38, 23, 24, 25, 26, 27, 39, 40, 41, 42, 43, 44, 45, 46, 47, 48, 49, 50] (by decide +kernel) (by decide +kernel)
set_option maxRecDepth 20000 in
theorem gX4_depthRound_X4_depthOnCircle : GoodIn wsX4_depthRound (wsV RX4 163 RX4 yX4_depthOnCircle wsX4_depthOnCircle) := goodIn_app (goodIn_of _ (by decide +kernel)) ggX4_depthRound_X4_depthOnCircle
set_option maxRecDepth 20000 in
theorem ggX4_heaviestRound_X4_requireCircle : GoodIn wsX4_heaviestRound wsX4_requireCircle := goodIn_ca (goodIn_ca (goodIn_r _ [13, 14, 15, 16, 17, 1, 2, 18, 19, 12, 20, 21, 22, 23, 24, 25, 26, 27, 28, 3, 84, 85, 86, 87, 88, 89, 90, 91, 92, 93, 94, 95] (by decide +kernel) (by decide +kernel)) (goodIn_sub (fun _ h => List.mem_cons_of_mem _ (List.mem_append_left _ (List.mem_append_right _ h))) (by decide +kernel))) (goodIn_sub (fun _ h => List.mem_cons_of_mem _ (List.mem_append_right _ h)) (by decide +kernel))
set_option maxRecDepth 20000 in
theorem gX4_heaviestRound_X4_requireCircle : GoodIn wsX4_heaviestRound (wsV RX4 160 RX4 yX4_requireCircle wsX4_requireCircle) := goodIn_app (goodIn_of _ (by decide +kernel)) ggX4_heaviestRound_X4_requireCircle
set_option maxRecDepth 20000 in
theorem ggX4_heaviestRound_X4_heaviestBeside : GoodIn wsX4_heaviestRound wsX4_heaviestBeside := goodIn_r _ [32, 33, 34, 35, 36, 12, 37, 1, 3, 2, 4, 38, 39, 40, 41, 42, 43, 44, 45, 46, 47, 48, 49, 50, 24, 25, 26, 27, 28, 18, 19, 20, 21, 22, 23, 51, 52, 53, 54, 55, 56, 57, 58, 59, 60, 61, 62, 63, 64, 65, 66, 67, 68, 69, 70, 71, 72, 73, 74, 75, 6, 7, 8, 76, 77, 78, 79, 84, 85, 86, 87, 88, 89, 90, 91, 92, 93, 94, 95, 96, 97, 98, 99, 100, 101, 102, 103] (by decide +kernel) (by decide +kernel)
set_option maxRecDepth 20000 in
theorem gX4_heaviestRound_X4_heaviestBeside : GoodIn wsX4_heaviestRound (wsV RX4 171 RX4 yX4_heaviestBeside wsX4_heaviestBeside) := goodIn_app (goodIn_of _ (by decide +kernel)) ggX4_heaviestRound_X4_heaviestBeside
set_option maxRecDepth 20000 in
theorem ggX4_heaviestRound_X4_contains : GoodIn wsX4_heaviestRound wsX4_contains := goodIn_r _ [20, 21, 22, 12, 23] (by decide +kernel) (by decide +kernel)
set_option maxRecDepth 20000 in
theorem gX4_heaviestRound_X4_contains : GoodIn wsX4_heaviestRound (va_wsS RX4 154 yX4_contains wsX4_contains) := goodIn_app (goodIn_of _ (by decide +kernel)) ggX4_heaviestRound_X4_contains
set_option maxRecDepth 20000 in
theorem ggX4_heaviestRound_X4_runsPastTurn : GoodIn wsX4_heaviestRound wsX4_runsPastTurn := goodIn_r _ [83, 3, 44, 45, 12, 46, 47, 48, 49, 50, 24, 25, 26, 27, 28, 84, 85, 86, 87, 88, 89, 90, 91, 92, 93, 94, 95] (by decide +kernel) (by decide +kernel)
set_option maxRecDepth 20000 in
theorem gX4_heaviestRound_X4_runsPastTurn : GoodIn wsX4_heaviestRound (wsV RX4 175 RX4 yX4_runsPastTurn wsX4_runsPastTurn) := goodIn_app (goodIn_of _ (by decide +kernel)) ggX4_heaviestRound_X4_runsPastTurn
set_option maxRecDepth 20000 in
theorem ggX4_heaviestRound_X4_lengthOf : GoodIn wsX4_heaviestRound wsX4_lengthOf := goodIn_r _ [27, 28, 3, 84, 85, 86, 87, 88, 89, 90, 91, 92, 93, 94, 95] (by decide +kernel) (by decide +kernel)
set_option maxRecDepth 20000 in
theorem gX4_heaviestRound_X4_lengthOf : GoodIn wsX4_heaviestRound (wsV RX4 84 RX4 yX4_lengthOf wsX4_lengthOf) := goodIn_app (goodIn_of _ (by decide +kernel)) ggX4_heaviestRound_X4_lengthOf
set_option maxRecDepth 20000 in
theorem ggX4_requireThere_X4_contains : GoodIn wsX4_requireThere wsX4_contains := goodIn_r _ [8, 9, 10, 7, 11] (by decide +kernel) (by decide +kernel)
set_option maxRecDepth 20000 in
theorem gX4_requireThere_X4_contains : GoodIn wsX4_requireThere (va_wsS RX4 154 yX4_contains wsX4_contains) := goodIn_app (goodIn_of _ (by decide +kernel)) ggX4_requireThere_X4_contains
set_option maxRecDepth 20000 in
theorem ggX4_requireCircle_X4_contains : GoodIn wsX4_requireCircle wsX4_contains := goodIn_r _ [10, 11, 12, 9, 13] (by decide +kernel) (by decide +kernel)
set_option maxRecDepth 20000 in
theorem gX4_requireCircle_X4_contains : GoodIn wsX4_requireCircle (va_wsS RX4 154 yX4_contains wsX4_contains) := goodIn_app (goodIn_of _ (by decide +kernel)) ggX4_requireCircle_X4_contains
set_option maxRecDepth 20000 in
theorem ggX4_requireCircle_X4_lengthOf : GoodIn wsX4_requireCircle wsX4_lengthOf := goodIn_r _ [17, 18, 19, 20, 21, 22, 23, 24, 25, 26, 27, 28, 29, 30, 31] (by decide +kernel) (by decide +kernel)
set_option maxRecDepth 20000 in
theorem gX4_requireCircle_X4_lengthOf : GoodIn wsX4_requireCircle (wsV RX4 84 RX4 yX4_lengthOf wsX4_lengthOf) := goodIn_app (goodIn_of _ (by decide +kernel)) ggX4_requireCircle_X4_lengthOf
set_option maxRecDepth 20000 in
theorem ggX4_contains_X4_only : GoodIn wsX4_contains wsX4_only := goodIn_r _ [4] (by decide +kernel) (by decide +kernel)
set_option maxRecDepth 20000 in
theorem gX4_contains_X4_only : GoodIn wsX4_contains (va_wsS RX4 65 yX4_only wsX4_only) := goodIn_app (goodIn_of _ (by decide +kernel)) ggX4_contains_X4_only
set_option maxRecDepth 20000 in
theorem ggX4_weightOf_X4_contains : GoodIn wsX4_weightOf wsX4_contains := goodIn_r _ [6, 7, 8, 5, 9] (by decide +kernel) (by decide +kernel)
set_option maxRecDepth 20000 in
theorem gX4_weightOf_X4_contains : GoodIn wsX4_weightOf (va_wsS RX4 154 yX4_contains wsX4_contains) := goodIn_app (goodIn_of _ (by decide +kernel)) ggX4_weightOf_X4_contains
set_option maxRecDepth 20000 in
theorem ggX4_othersMeeting_X4_only : GoodIn wsX4_othersMeeting wsX4_only := goodIn_r _ [9] (by decide +kernel) (by decide +kernel)
set_option maxRecDepth 20000 in
theorem gX4_othersMeeting_X4_only : GoodIn wsX4_othersMeeting (va_wsS RX4 65 yX4_only wsX4_only) := goodIn_app (goodIn_of _ (by decide +kernel)) ggX4_othersMeeting_X4_only
set_option maxRecDepth 20000 in
theorem ggX4_depthAt_X4_contains : GoodIn wsX4_depthAt wsX4_contains := goodIn_r _ [8, 9, 10, 7, 11] (by decide +kernel) (by decide +kernel)
set_option maxRecDepth 20000 in
theorem gX4_depthAt_X4_contains : GoodIn wsX4_depthAt (va_wsS RX4 154 yX4_contains wsX4_contains) := goodIn_app (goodIn_of _ (by decide +kernel)) ggX4_depthAt_X4_contains
set_option maxRecDepth 20000 in
theorem ggX4_leastDeepestTime_X4_contains : GoodIn wsX4_leastDeepestTime wsX4_contains := goodIn_r _ [7, 8, 9, 6, 10] (by decide +kernel) (by decide +kernel)
set_option maxRecDepth 20000 in
theorem gX4_leastDeepestTime_X4_contains : GoodIn wsX4_leastDeepestTime (va_wsS RX4 154 yX4_contains wsX4_contains) := goodIn_app (goodIn_of _ (by decide +kernel)) ggX4_leastDeepestTime_X4_contains
set_option maxRecDepth 20000 in
theorem ggX4_leastDeepestTime_X4_depthAt : GoodIn wsX4_leastDeepestTime wsX4_depthAt := goodIn_r _ [14, 1, 3, 2, 15, 4, 5, 6, 7, 8, 9, 10, 16, 17, 18, 19, 20, 21, 22, 23, 24, 25, 26, 27] (by decide +kernel) (by decide +kernel)
set_option maxRecDepth 20000 in
theorem gX4_leastDeepestTime_X4_depthAt : GoodIn wsX4_leastDeepestTime (wsV RX4 97 RX4 yX4_depthAt wsX4_depthAt) := goodIn_app (goodIn_of _ (by decide +kernel)) ggX4_leastDeepestTime_X4_depthAt
set_option maxRecDepth 20000 in
theorem ggX4_earliestEndThatFits_X4_contains : GoodIn wsX4_earliestEndThatFits wsX4_contains := goodIn_r _ [7, 8, 9, 6, 10] (by decide +kernel) (by decide +kernel)
set_option maxRecDepth 20000 in
theorem gX4_earliestEndThatFits_X4_contains : GoodIn wsX4_earliestEndThatFits (va_wsS RX4 154 yX4_contains wsX4_contains) := goodIn_app (goodIn_of _ (by decide +kernel)) ggX4_earliestEndThatFits_X4_contains
set_option maxRecDepth 20000 in
theorem ggX4_earliestEndThatFits_X4_fits : GoodIn wsX4_earliestEndThatFits wsX4_fits := goodIn_r _ [14, 1, 15, 16, 17, 18, 6, 19, 3, 2, 4, 5, 7, 8, 9, 10, 20, 21, 22, 23, 24, 25, 26, 27, 28, 29, 30, 31] (by decide +kernel) (by decide +kernel)
set_option maxRecDepth 20000 in
theorem gX4_earliestEndThatFits_X4_fits : GoodIn wsX4_earliestEndThatFits (wsV RX4 117 RX4 yX4_fits wsX4_fits) := goodIn_app (goodIn_of _ (by decide +kernel)) ggX4_earliestEndThatFits_X4_fits
set_option maxRecDepth 20000 in
theorem ggX4_fits_X4_depthAt : GoodIn wsX4_fits wsX4_depthAt := goodIn_r _ [7, 1, 8, 2, 9, 10, 11, 6, 12, 13, 14, 15, 16, 17, 18, 19, 20, 21, 22, 23, 24, 25, 26, 27] (by decide +kernel) (by decide +kernel)
set_option maxRecDepth 20000 in
theorem gX4_fits_X4_depthAt : GoodIn wsX4_fits (wsV RX4 97 RX4 yX4_depthAt wsX4_depthAt) := goodIn_app (goodIn_of _ (by decide +kernel)) ggX4_fits_X4_depthAt
set_option maxRecDepth 20000 in
theorem ggX4_fill_X3_clear : GoodIn wsX4_fill wsX3_clear := goodIn_r _ [9, 10, 47, 48, 49, 50, 51, 52] (by decide +kernel) (by decide +kernel)
set_option maxRecDepth 20000 in
theorem gX4_fill_X3_clear : GoodIn wsX4_fill (wsV RX4 188 RX3 yX3_clear wsX3_clear) := goodIn_app (goodIn_of _ (by decide +kernel)) ggX4_fill_X3_clear
set_option maxRecDepth 20000 in
theorem ggX4_fill_X4_contains : GoodIn wsX4_fill wsX4_contains := goodIn_r _ [14, 15, 16, 13, 17] (by decide +kernel) (by decide +kernel)
set_option maxRecDepth 20000 in
theorem gX4_fill_X4_contains : GoodIn wsX4_fill (va_wsS RX4 154 yX4_contains wsX4_contains) := goodIn_app (goodIn_of _ (by decide +kernel)) ggX4_fill_X4_contains
set_option maxRecDepth 20000 in
theorem ggX4_fill_X3_put : GoodIn wsX4_fill wsX3_put := goodIn_r _ [21, 10, 22, 23, 24, 25, 26, 27, 28, 8, 29, 30, 31, 32, 33, 34, 47, 48, 49, 50, 51, 52] (by decide +kernel) (by decide +kernel)
set_option maxRecDepth 20000 in
theorem gX4_fill_X3_put : GoodIn wsX4_fill (wsV RX4 193 RX3 yX3_put wsX3_put) := goodIn_app (goodIn_of _ (by decide +kernel)) ggX4_fill_X3_put
set_option maxRecDepth 20000 in
theorem ggX4_fillBeside_X3_clear : GoodIn wsX4_fillBeside wsX3_clear := goodIn_r _ [10, 11, 62, 63, 64, 65, 66, 67] (by decide +kernel) (by decide +kernel)
set_option maxRecDepth 20000 in
theorem gX4_fillBeside_X3_clear : GoodIn wsX4_fillBeside (wsV RX4 188 RX3 yX3_clear wsX3_clear) := goodIn_app (goodIn_of _ (by decide +kernel)) ggX4_fillBeside_X3_clear
set_option maxRecDepth 20000 in
theorem ggX4_fillBeside_X4_turned : GoodIn wsX4_fillBeside wsX4_turned := goodIn_r _ [15, 16, 17, 18, 19] (by decide +kernel) (by decide +kernel)
set_option maxRecDepth 20000 in
theorem gX4_fillBeside_X4_turned : GoodIn wsX4_fillBeside (va_wsS RX4 197 yX4_turned wsX4_turned) := goodIn_app (goodIn_of _ (by decide +kernel)) ggX4_fillBeside_X4_turned
set_option maxRecDepth 20000 in
theorem ggX4_fillBeside_X4_lengthOf : GoodIn wsX4_fillBeside wsX4_lengthOf := goodIn_r _ [23, 24, 3, 48, 49, 50, 51, 52, 53, 54, 55, 56, 57, 58, 59] (by decide +kernel) (by decide +kernel)
set_option maxRecDepth 20000 in
theorem gX4_fillBeside_X4_lengthOf : GoodIn wsX4_fillBeside (wsV RX4 84 RX4 yX4_lengthOf wsX4_lengthOf) := goodIn_app (goodIn_of _ (by decide +kernel)) ggX4_fillBeside_X4_lengthOf
set_option maxRecDepth 20000 in
theorem ggX4_fillBeside_X4_contains : GoodIn wsX4_fillBeside wsX4_contains := goodIn_r _ [27, 28, 29, 14, 30] (by decide +kernel) (by decide +kernel)
set_option maxRecDepth 20000 in
theorem gX4_fillBeside_X4_contains : GoodIn wsX4_fillBeside (va_wsS RX4 154 yX4_contains wsX4_contains) := goodIn_app (goodIn_of _ (by decide +kernel)) ggX4_fillBeside_X4_contains
set_option maxRecDepth 20000 in
theorem ggX4_fillBeside_X3_put : GoodIn wsX4_fillBeside wsX3_put := goodIn_r _ [34, 11, 35, 36, 37, 38, 39, 40, 41, 9, 42, 43, 44, 45, 46, 47, 62, 63, 64, 65, 66, 67] (by decide +kernel) (by decide +kernel)
set_option maxRecDepth 20000 in
theorem gX4_fillBeside_X3_put : GoodIn wsX4_fillBeside (wsV RX4 193 RX3 yX3_put wsX3_put) := goodIn_app (goodIn_of _ (by decide +kernel)) ggX4_fillBeside_X3_put
set_option maxRecDepth 20000 in
theorem ggX4_heaviestForOne_X4_fill : GoodIn wsX4_heaviestForOne wsX4_fill := goodIn_r _ [6, 7, 8, 9, 10, 11, 12, 13, 14, 15, 16, 17, 18, 5, 19, 20, 21, 22, 23, 24, 25, 26, 27, 28, 29, 30, 31, 32, 33, 34, 35, 36, 37, 38, 39, 55, 56, 57, 58, 59, 60, 61, 62, 63, 64, 65, 66, 69, 70, 71, 72, 73, 74] (by decide +kernel) (by decide +kernel)
set_option maxRecDepth 20000 in
theorem gX4_heaviestForOne_X4_fill : GoodIn wsX4_heaviestForOne (wsV RX4 104 RX4 yX4_fill wsX4_fill) := goodIn_app (goodIn_of _ (by decide +kernel)) ggX4_heaviestForOne_X4_fill
set_option maxRecDepth 20000 in
theorem ggX4_heaviestForOne_X2_greatestWeight : GoodIn wsX4_heaviestForOne wsX2_greatestWeight := goodIn_r _ [44, 45, 46, 47, 48, 49, 50, 51, 52, 53, 43, 54, 67, 68, 69, 70, 71, 72, 73, 74] (by decide +kernel) (by decide +kernel)
set_option maxRecDepth 20000 in
theorem gX4_heaviestForOne_X2_greatestWeight : GoodIn wsX4_heaviestForOne (wsV RX4 200 RX2 yX2_greatestWeight wsX2_greatestWeight) := goodIn_app (goodIn_of _ (by decide +kernel)) ggX4_heaviestForOne_X2_greatestWeight
set_option maxRecDepth 20000 in
theorem ggX4_heaviestForMany_X4_fill : GoodIn wsX4_heaviestForMany wsX4_fill := goodIn_r _ [6, 7, 8, 9, 10, 11, 12, 13, 14, 15, 16, 17, 18, 5, 19, 20, 21, 22, 23, 24, 25, 26, 27, 28, 29, 30, 31, 32, 33, 34, 35, 36, 37, 38, 39, 84, 85, 86, 87, 88, 89, 90, 91, 92, 93, 94, 95, 103, 104, 105, 106, 107, 108] (by decide +kernel) (by decide +kernel)
set_option maxRecDepth 20000 in
theorem gX4_heaviestForMany_X4_fill : GoodIn wsX4_heaviestForMany (wsV RX4 104 RX4 yX4_fill wsX4_fill) := goodIn_app (goodIn_of _ (by decide +kernel)) ggX4_heaviestForMany_X4_fill
set_option maxRecDepth 20000 in
theorem ggX4_heaviestForMany_X1_greatestWeight : GoodIn wsX4_heaviestForMany wsX1_greatestWeight := goodIn_r _ [44, 45, 46, 47, 48, 49, 43, 50, 51, 52, 53, 54, 55, 56, 57, 58, 59, 60, 61, 62, 63, 64, 65, 66, 67, 68, 69, 70, 71, 72, 73, 74, 75, 76, 77, 78, 79, 80, 81, 82, 83, 96, 97, 98, 99, 100, 101, 102, 103, 104, 105, 106, 107, 108] (by decide +kernel) (by decide +kernel)
set_option maxRecDepth 20000 in
theorem gX4_heaviestForMany_X1_greatestWeight : GoodIn wsX4_heaviestForMany (wsV RX4 204 RX1 yX1_greatestWeight wsX1_greatestWeight) := goodIn_app (goodIn_of _ (by decide +kernel)) ggX4_heaviestForMany_X1_greatestWeight
set_option maxRecDepth 20000 in
theorem ggX4_heaviestBeside_X4_fillBeside : GoodIn wsX4_heaviestBeside wsX4_fillBeside := goodIn_r _ [6, 1, 7, 8, 9, 10, 11, 12, 13, 14, 15, 16, 17, 18, 5, 19, 20, 21, 22, 23, 24, 25, 26, 27, 28, 29, 30, 31, 32, 33, 34, 35, 36, 37, 38, 39, 40, 41, 42, 43, 44, 45, 46, 47, 48, 49, 50, 51, 67, 68, 69, 70, 71, 72, 73, 74, 75, 76, 77, 78, 79, 80, 81, 82, 83, 84, 85, 86] (by decide +kernel) (by decide +kernel)
set_option maxRecDepth 20000 in
theorem gX4_heaviestBeside_X4_fillBeside : GoodIn wsX4_heaviestBeside (wsV RX4 206 RX4 yX4_fillBeside wsX4_fillBeside) := goodIn_app (goodIn_of _ (by decide +kernel)) ggX4_heaviestBeside_X4_fillBeside
set_option maxRecDepth 20000 in
theorem ggX4_heaviestBeside_X2_greatestWeight : GoodIn wsX4_heaviestBeside wsX2_greatestWeight := goodIn_r _ [56, 57, 58, 59, 60, 61, 62, 63, 64, 65, 55, 66, 79, 80, 81, 82, 83, 84, 85, 86] (by decide +kernel) (by decide +kernel)
set_option maxRecDepth 20000 in
theorem gX4_heaviestBeside_X2_greatestWeight : GoodIn wsX4_heaviestBeside (wsV RX4 200 RX2 yX2_greatestWeight wsX2_greatestWeight) := goodIn_app (goodIn_of _ (by decide +kernel)) ggX4_heaviestBeside_X2_greatestWeight
set_option maxRecDepth 20000 in
theorem ggX4_runsPastTurn_X4_turned : GoodIn wsX4_runsPastTurn wsX4_turned := goodIn_r _ [5, 6, 7, 8, 9] (by decide +kernel) (by decide +kernel)
set_option maxRecDepth 20000 in
theorem gX4_runsPastTurn_X4_turned : GoodIn wsX4_runsPastTurn (va_wsS RX4 197 yX4_turned wsX4_turned) := goodIn_app (goodIn_of _ (by decide +kernel)) ggX4_runsPastTurn_X4_turned
set_option maxRecDepth 20000 in
theorem ggX4_runsPastTurn_X4_lengthOf : GoodIn wsX4_runsPastTurn wsX4_lengthOf := goodIn_r _ [13, 14, 1, 15, 16, 17, 18, 19, 20, 21, 22, 23, 24, 25, 26] (by decide +kernel) (by decide +kernel)
set_option maxRecDepth 20000 in
theorem gX4_runsPastTurn_X4_lengthOf : GoodIn wsX4_runsPastTurn (wsV RX4 84 RX4 yX4_lengthOf wsX4_lengthOf) := goodIn_app (goodIn_of _ (by decide +kernel)) ggX4_runsPastTurn_X4_lengthOf
set_option maxRecDepth 20000 in
theorem ggX4_depthOnCircle_X4_contains : GoodIn wsX4_depthOnCircle wsX4_contains := goodIn_r _ [7, 8, 9, 6, 10] (by decide +kernel) (by decide +kernel)
set_option maxRecDepth 20000 in
theorem gX4_depthOnCircle_X4_contains : GoodIn wsX4_depthOnCircle (va_wsS RX4 154 yX4_contains wsX4_contains) := goodIn_app (goodIn_of _ (by decide +kernel)) ggX4_depthOnCircle_X4_contains
set_option maxRecDepth 20000 in
theorem ggX4_depthOnCircle_X4_turned : GoodIn wsX4_depthOnCircle wsX4_turned := goodIn_r _ [13, 14, 15, 16, 17] (by decide +kernel) (by decide +kernel)
set_option maxRecDepth 20000 in
theorem gX4_depthOnCircle_X4_turned : GoodIn wsX4_depthOnCircle (va_wsS RX4 197 yX4_turned wsX4_turned) := goodIn_app (goodIn_of _ (by decide +kernel)) ggX4_depthOnCircle_X4_turned
set_option maxRecDepth 20000 in
theorem ggX4_depthOnCircle_X4_lengthOf : GoodIn wsX4_depthOnCircle wsX4_lengthOf := goodIn_r _ [21, 22, 3, 23, 24, 25, 26, 27, 28, 29, 30, 31, 32, 33, 34] (by decide +kernel) (by decide +kernel)
set_option maxRecDepth 20000 in
theorem gX4_depthOnCircle_X4_lengthOf : GoodIn wsX4_depthOnCircle (wsV RX4 84 RX4 yX4_lengthOf wsX4_lengthOf) := goodIn_app (goodIn_of _ (by decide +kernel)) ggX4_depthOnCircle_X4_lengthOf
set_option maxRecDepth 20000 in
theorem ggX4_turned_J9_floorMod_7cf53 : GoodIn wsX4_turned wsJ9_floorMod_7cf53 := goodIn_r _ [4] (by decide +kernel) (by decide +kernel)
set_option maxRecDepth 20000 in
theorem gX4_turned_J9_floorMod_7cf53 : GoodIn wsX4_turned (va_wsS RX4 210 yJ9_floorMod_7cf53 wsJ9_floorMod_7cf53) := goodIn_app (goodIn_of _ (by decide +kernel)) ggX4_turned_J9_floorMod_7cf53
set_option maxRecDepth 20000 in
theorem ggL_add_X4_add : GoodIn wsL_add wsX4_add := goodIn_ca (goodIn_ca (goodIn_r _ [8, 9, 10, 11, 12, 13, 14, 15, 16, 17, 18, 19, 7, 20, 21, 22, 23, 24, 25, 26, 27, 28, 29, 30, 31, 32] (by decide +kernel) (by decide +kernel)) (goodIn_sub (fun _ h => List.mem_cons_of_mem _ (List.mem_append_left _ (List.mem_append_right _ h))) (by decide +kernel))) (goodIn_sub (fun _ h => List.mem_cons_of_mem _ (List.mem_append_right _ h)) (by decide +kernel))
set_option maxRecDepth 20000 in
theorem gL_add_X4_add : GoodIn wsL_add (wsV RL 8 RX4 yX4_add wsX4_add) := goodIn_app (goodIn_of _ (by decide +kernel)) ggL_add_X4_add
set_option maxRecDepth 20000 in
theorem ggL_remove_X4_remove : GoodIn wsL_remove wsX4_remove := goodIn_ca (goodIn_r _ [7, 8, 9, 10, 11, 12, 13, 6, 14, 15, 16, 17, 18, 19, 20, 21, 22, 23, 24, 25, 26, 27, 28, 29, 30, 31, 32, 33, 34, 35, 36, 37, 38, 39, 40, 41, 42] (by decide +kernel) (by decide +kernel)) (goodIn_sub (fun _ h => List.mem_cons_of_mem _ (List.mem_append_right _ h)) (by decide +kernel))
set_option maxRecDepth 20000 in
theorem gL_remove_X4_remove : GoodIn wsL_remove (wsV RL 19 RX4 yX4_remove wsX4_remove) := goodIn_app (goodIn_of _ (by decide +kernel)) ggL_remove_X4_remove
set_option maxRecDepth 20000 in
theorem ggL_move_X4_move : GoodIn wsL_move wsX4_move := goodIn_ca (goodIn_ca (goodIn_r _ [8, 9, 10, 11, 12, 13, 14, 15, 16, 17, 7, 18, 19, 20, 21, 22, 23, 24, 25, 26, 27, 28, 29, 30, 31, 32, 33, 34, 35, 36, 37, 38, 39, 40, 41, 42, 43, 44] (by decide +kernel) (by decide +kernel)) (goodIn_sub (fun _ h => List.mem_cons_of_mem _ (List.mem_append_left _ (List.mem_append_right _ h))) (by decide +kernel))) (goodIn_sub (fun _ h => List.mem_cons_of_mem _ (List.mem_append_right _ h)) (by decide +kernel))
set_option maxRecDepth 20000 in
theorem gL_move_X4_move : GoodIn wsL_move (wsV RL 25 RX4 yX4_move wsX4_move) := goodIn_app (goodIn_of _ (by decide +kernel)) ggL_move_X4_move
set_option maxRecDepth 20000 in
theorem ggL_open_X4_openDesk : GoodIn wsL_open wsX4_openDesk := goodIn_ca (goodIn_r _ [7, 8, 9, 10, 11, 12, 13, 14, 15, 16, 6, 17, 18, 19, 20, 21, 22, 23, 24, 25, 26, 27, 28, 29, 30, 31, 32, 33, 34, 35, 36, 37] (by decide +kernel) (by decide +kernel)) (goodIn_sub (fun _ h => List.mem_cons_of_mem _ (List.mem_append_right _ h)) (by decide +kernel))
set_option maxRecDepth 20000 in
theorem gL_open_X4_openDesk : GoodIn wsL_open (wsV RL 29 RX4 yX4_openDesk wsX4_openDesk) := goodIn_app (goodIn_of _ (by decide +kernel)) ggL_open_X4_openDesk
set_option maxRecDepth 20000 in
theorem ggL_offer_X4_offer : GoodIn wsL_offer wsX4_offer := goodIn_ca (goodIn_ca (goodIn_r _ [8, 9, 10, 11, 12, 13, 14, 15, 16, 17, 18, 19, 7, 20, 21, 22, 23, 24, 25, 26, 27, 28, 29, 30, 31, 32, 33, 34, 35, 36, 37, 38, 39, 40, 41, 42, 43, 44, 45, 46, 47, 48, 49, 50, 51, 52] (by decide +kernel) (by decide +kernel)) (goodIn_sub (fun _ h => List.mem_cons_of_mem _ (List.mem_append_left _ (List.mem_append_right _ h))) (by decide +kernel))) (goodIn_sub (fun _ h => List.mem_cons_of_mem _ (List.mem_append_right _ h)) (by decide +kernel))
set_option maxRecDepth 20000 in
theorem gL_offer_X4_offer : GoodIn wsL_offer (wsV RL 32 RX4 yX4_offer wsX4_offer) := goodIn_app (goodIn_of _ (by decide +kernel)) ggL_offer_X4_offer
set_option maxRecDepth 20000 in
theorem ggL_act_L_low : GoodIn wsL_act wsL_low := goodIn_r _ [4, 5] (by decide +kernel) (by decide +kernel)
set_option maxRecDepth 20000 in
theorem gL_act_L_low : GoodIn wsL_act (va_wsS RL 35 yL_low wsL_low) := goodIn_app (goodIn_of _ (by decide +kernel)) ggL_act_L_low
set_option maxRecDepth 20000 in
theorem ggL_act_L_remove : GoodIn wsL_act wsL_remove := goodIn_ca (goodIn_r _ [8, 9, 10, 11, 12, 13, 14, 15, 16, 17, 18, 19, 20, 21, 22, 23, 24, 25, 26, 27, 28, 29, 30, 31, 32, 33, 34, 35, 36, 37, 38, 91, 92, 93, 94, 95, 96, 97, 98, 99, 100, 101, 102] (by decide +kernel) (by decide +kernel)) (goodIn_sub (fun _ h => List.mem_cons_of_mem _ (List.mem_append_left _ (List.mem_append_left _ (List.mem_append_right _ h)))) (by decide +kernel))
set_option maxRecDepth 20000 in
theorem gL_act_L_remove : GoodIn wsL_act (va_wsS RL 40 yL_remove wsL_remove) := goodIn_app (goodIn_of _ (by decide +kernel)) ggL_act_L_remove
set_option maxRecDepth 20000 in
theorem ggL_act_L_move : GoodIn wsL_act wsL_move := goodIn_ca (goodIn_ca (goodIn_r _ [41, 9, 42, 10, 43, 44, 45, 14, 46, 47, 48, 49, 50, 18, 17, 19, 20, 21, 22, 23, 24, 25, 16, 26, 27, 28, 29, 30, 31, 51, 52, 53, 54, 91, 92, 93, 94, 95, 96, 97, 98, 99, 100, 101, 102] (by decide +kernel) (by decide +kernel)) (goodIn_sub (fun _ h => List.mem_cons_of_mem _ (List.mem_append_left _ (List.mem_append_right _ h))) (by decide +kernel))) (goodIn_sub (fun _ h => List.mem_cons_of_mem _ (List.mem_append_left _ (List.mem_append_left _ (List.mem_append_right _ h)))) (by decide +kernel))
set_option maxRecDepth 20000 in
theorem gL_act_L_move : GoodIn wsL_act (va_wsS RL 43 yL_move wsL_move) := goodIn_app (goodIn_of _ (by decide +kernel)) ggL_act_L_move
set_option maxRecDepth 20000 in
theorem ggL_act_L_open : GoodIn wsL_act wsL_open := goodIn_ca (goodIn_r _ [57, 42, 10, 58, 59, 60, 14, 61, 47, 48, 18, 62, 63, 64, 65, 66, 67, 68, 25, 69, 26, 27, 28, 29, 30, 31, 91, 92, 93, 94, 95, 96, 97, 98, 99, 100, 101, 102] (by decide +kernel) (by decide +kernel)) (goodIn_sub (fun _ h => List.mem_cons_of_mem _ (List.mem_append_left _ (List.mem_append_right _ h))) (by decide +kernel))
set_option maxRecDepth 20000 in
theorem gL_act_L_open : GoodIn wsL_act (va_wsS RL 46 yL_open wsL_open) := goodIn_app (goodIn_of _ (by decide +kernel)) ggL_act_L_open
set_option maxRecDepth 20000 in
theorem ggL_act_L_offer : GoodIn wsL_act wsL_offer := goodIn_ca (goodIn_ca (goodIn_r _ [72, 9, 73, 10, 74, 75, 76, 14, 77, 78, 79, 63, 18, 69, 62, 17, 64, 19, 20, 21, 22, 23, 24, 25, 16, 26, 27, 28, 29, 30, 31, 80, 81, 82, 83, 49, 50, 65, 66, 67, 68, 91, 92, 93, 94, 95, 96, 97, 98, 99, 100, 101, 102] (by decide +kernel) (by decide +kernel)) (goodIn_sub (fun _ h => List.mem_cons_of_mem _ (List.mem_append_right _ h)) (by decide +kernel))) (goodIn_sub (fun _ h => List.mem_cons_of_mem _ (List.mem_append_left _ (List.mem_append_left _ (List.mem_append_right _ h)))) (by decide +kernel))
set_option maxRecDepth 20000 in
theorem gL_act_L_offer : GoodIn wsL_act (va_wsS RL 49 yL_offer wsL_offer) := goodIn_app (goodIn_of _ (by decide +kernel)) ggL_act_L_offer
set_option maxRecDepth 20000 in
theorem ggL_act_L_add : GoodIn wsL_act wsL_add := goodIn_ca (goodIn_ca (goodIn_r _ [86, 42, 73, 10, 87, 88, 89, 14, 90, 47, 48, 78, 79, 25, 49, 50, 69, 16, 29, 30, 31, 91, 92, 93, 94, 95, 96, 97, 98, 99, 100, 101, 102] (by decide +kernel) (by decide +kernel)) (goodIn_sub (fun _ h => List.mem_cons_of_mem _ (List.mem_append_left _ (List.mem_append_right _ h))) (by decide +kernel))) (goodIn_sub (fun _ h => List.mem_cons_of_mem _ (List.mem_append_right _ h)) (by decide +kernel))
set_option maxRecDepth 20000 in
theorem gL_act_L_add : GoodIn wsL_act (va_wsS RL 51 yL_add wsL_add) := goodIn_app (goodIn_of _ (by decide +kernel)) ggL_act_L_add
set_option maxRecDepth 20000 in
theorem ggL_areAlike_X4_present : GoodIn wsL_areAlike wsX4_present := goodIn_r _ [5, 6, 103, 104, 105, 106, 107, 108, 109, 110, 111, 112, 113, 114] (by decide +kernel) (by decide +kernel)
set_option maxRecDepth 20000 in
theorem gL_areAlike_X4_present : GoodIn wsL_areAlike (wsV RL 54 RX4 yX4_present wsX4_present) := goodIn_app (goodIn_of _ (by decide +kernel)) ggL_areAlike_X4_present
set_option maxRecDepth 20000 in
theorem ggL_areAlike_X4_accepted : GoodIn wsL_areAlike wsX4_accepted := goodIn_r _ [10, 11, 103, 104, 105, 106, 107, 108, 109, 110, 111, 112, 113, 114] (by decide +kernel) (by decide +kernel)
set_option maxRecDepth 20000 in
theorem gL_areAlike_X4_accepted : GoodIn wsL_areAlike (wsV RL 58 RX4 yX4_accepted wsX4_accepted) := goodIn_app (goodIn_of _ (by decide +kernel)) ggL_areAlike_X4_accepted
set_option maxRecDepth 20000 in
theorem ggL_areAlike_X4_acceptedWeight : GoodIn wsL_areAlike wsX4_acceptedWeight := goodIn_r _ [15, 11, 16, 17, 18, 4, 19, 20, 21, 22, 23, 24, 25, 26, 27, 103, 104, 105, 106, 107, 108, 109, 110, 111, 112, 113, 114] (by decide +kernel) (by decide +kernel)
set_option maxRecDepth 20000 in
theorem gL_areAlike_X4_acceptedWeight : GoodIn wsL_areAlike (wsV RL 61 RX4 yX4_acceptedWeight wsX4_acceptedWeight) := goodIn_app (goodIn_of _ (by decide +kernel)) ggL_areAlike_X4_acceptedWeight
set_option maxRecDepth 20000 in
theorem ggL_areAlike_X4_droppedWeight : GoodIn wsL_areAlike wsX4_droppedWeight := goodIn_r _ [31, 32, 103, 104, 105, 106, 107, 108, 109, 110, 111, 112, 113, 114] (by decide +kernel) (by decide +kernel)
set_option maxRecDepth 20000 in
theorem gL_areAlike_X4_droppedWeight : GoodIn wsL_areAlike (wsV RL 65 RX4 yX4_droppedWeight wsX4_droppedWeight) := goodIn_app (goodIn_of _ (by decide +kernel)) ggL_areAlike_X4_droppedWeight
set_option maxRecDepth 20000 in
theorem ggL_areAlike_X4_bestOfOffered : GoodIn wsL_areAlike wsX4_bestOfOffered := goodIn_r _ [36, 6, 37, 38, 39, 40, 4, 41, 42, 43, 44, 45, 46, 20, 47, 48, 21, 49, 50, 51, 52, 53, 54, 22, 23, 24, 25, 26, 27, 55, 56, 57, 58, 59, 60, 61, 62, 63, 64, 65, 66, 67, 68, 69, 70, 71, 72, 73, 74, 75, 76, 77, 78, 79, 80, 81, 82, 83, 84, 85, 86, 103, 104, 105, 106, 107, 108, 109, 110, 111, 112, 113, 114, 115, 116, 117, 118, 119, 120, 121, 122] (by decide +kernel) (by decide +kernel)
set_option maxRecDepth 20000 in
theorem gL_areAlike_X4_bestOfOffered : GoodIn wsL_areAlike (wsV RL 68 RX4 yX4_bestOfOffered wsX4_bestOfOffered) := goodIn_app (goodIn_of _ (by decide +kernel)) ggL_areAlike_X4_bestOfOffered
set_option maxRecDepth 20000 in
theorem ggL_areAlike_X4_rooms : GoodIn wsL_areAlike wsX4_rooms := goodIn_r _ [90, 91, 92, 93, 4, 94, 20, 47, 6, 22, 23, 24, 25, 26, 27, 95, 96, 97, 98, 48, 103, 104, 105, 106, 107, 108, 109, 110, 111, 112, 113, 114] (by decide +kernel) (by decide +kernel)
set_option maxRecDepth 20000 in
theorem gL_areAlike_X4_rooms : GoodIn wsL_areAlike (wsV RL 71 RX4 yX4_rooms wsX4_rooms) := goodIn_app (goodIn_of _ (by decide +kernel)) ggL_areAlike_X4_rooms
set_option maxRecDepth 20000 in
theorem ggL_areAlike_X4_heaviest : GoodIn wsL_areAlike wsX4_heaviest := goodIn_r _ [102, 6, 38, 39, 40, 4, 41, 42, 43, 44, 45, 46, 20, 47, 48, 21, 49, 50, 51, 52, 53, 54, 22, 23, 24, 25, 26, 27, 55, 56, 57, 58, 59, 60, 61, 62, 63, 64, 65, 66, 67, 68, 69, 70, 71, 72, 73, 74, 75, 76, 77, 78, 79, 80, 81, 82, 83, 84, 85, 86, 103, 104, 105, 106, 107, 108, 109, 110, 111, 112, 113, 114, 115, 116, 117, 118, 119, 120, 121, 122] (by decide +kernel) (by decide +kernel)
set_option maxRecDepth 20000 in
theorem gL_areAlike_X4_heaviest : GoodIn wsL_areAlike (wsV RL 74 RX4 yX4_heaviest wsX4_heaviest) := goodIn_app (goodIn_of _ (by decide +kernel)) ggL_areAlike_X4_heaviest
set_option maxRecDepth 20000 in
theorem ggL_isPlan_X4_present : GoodIn wsL_isPlan wsX4_present := goodIn_r _ [6, 7, 32, 33, 34, 35, 36, 37, 38, 39, 40, 41, 42, 43] (by decide +kernel) (by decide +kernel)
set_option maxRecDepth 20000 in
theorem gL_isPlan_X4_present : GoodIn wsL_isPlan (wsV RL 54 RX4 yX4_present wsX4_present) := goodIn_app (goodIn_of _ (by decide +kernel)) ggL_isPlan_X4_present
set_option maxRecDepth 20000 in
theorem ggL_isPlan_X4_overlapping : GoodIn wsL_isPlan wsX4_overlapping := goodIn_ca (goodIn_r _ [11, 12, 13, 14, 5, 15, 16, 17, 18, 7, 19, 20, 21, 22, 23, 24, 25, 26, 27, 28, 29, 30, 31, 32, 33, 34, 35, 36, 37, 38, 39, 40, 41, 42, 43] (by decide +kernel) (by decide +kernel)) (goodIn_sub (fun _ h => List.mem_cons_of_mem _ (List.mem_append_right _ h)) (by decide +kernel))
set_option maxRecDepth 20000 in
theorem gL_isPlan_X4_overlapping : GoodIn wsL_isPlan (wsV RL 79 RX4 yX4_overlapping wsX4_overlapping) := goodIn_app (goodIn_of _ (by decide +kernel)) ggL_isPlan_X4_overlapping
set_option maxRecDepth 20000 in
theorem ggL_areRoomsSo_X4_rooms : GoodIn wsL_areRoomsSo wsX4_rooms := goodIn_r _ [5, 6, 7, 8, 4, 9, 10, 11, 12, 13, 14, 15, 16, 17, 18, 19, 20, 21, 22, 23, 116, 117, 118, 119, 120, 121, 122, 123, 124, 125, 126, 127] (by decide +kernel) (by decide +kernel)
set_option maxRecDepth 20000 in
theorem gL_areRoomsSo_X4_rooms : GoodIn wsL_areRoomsSo (wsV RL 71 RX4 yX4_rooms wsX4_rooms) := goodIn_app (goodIn_of _ (by decide +kernel)) ggL_areRoomsSo_X4_rooms
set_option maxRecDepth 20000 in
theorem ggL_areRoomsSo_X4_present : GoodIn wsL_areRoomsSo wsX4_present := goodIn_r _ [27, 12, 116, 117, 118, 119, 120, 121, 122, 123, 124, 125, 126, 127] (by decide +kernel) (by decide +kernel)
set_option maxRecDepth 20000 in
theorem gL_areRoomsSo_X4_present : GoodIn wsL_areRoomsSo (wsV RL 54 RX4 yX4_present wsX4_present) := goodIn_app (goodIn_of _ (by decide +kernel)) ggL_areRoomsSo_X4_present
set_option maxRecDepth 20000 in
theorem ggL_areRoomsSo_X4_roomOf : GoodIn wsL_areRoomsSo wsX4_roomOf := goodIn_ca (goodIn_r _ [31, 32, 12, 33, 34, 35, 4, 36, 37, 38, 10, 13, 14, 15, 16, 17, 18, 39, 40, 41, 42, 11, 23, 43, 44, 45, 46, 47, 48, 49, 50, 51, 52, 53, 54, 55, 56, 57, 58, 59, 60, 61, 62, 63, 64, 65, 66, 67, 68, 69, 70, 71, 72, 73, 74, 75, 76, 77, 78, 79, 80, 81, 116, 117, 118, 119, 120, 121, 122, 123, 124, 125, 126, 127, 128, 129, 130, 131, 132, 133, 134, 135] (by decide +kernel) (by decide +kernel)) (goodIn_sub (fun _ h => List.mem_cons_of_mem _ (List.mem_append_left _ (List.mem_append_right _ h))) (by decide +kernel))
set_option maxRecDepth 20000 in
theorem gL_areRoomsSo_X4_roomOf : GoodIn wsL_areRoomsSo (wsV RL 83 RX4 yX4_roomOf wsX4_roomOf) := goodIn_app (goodIn_of _ (by decide +kernel)) ggL_areRoomsSo_X4_roomOf
set_option maxRecDepth 20000 in
theorem ggL_areRoomsSo_X4_overlapping : GoodIn wsL_areRoomsSo wsX4_overlapping := goodIn_ca (goodIn_r _ [85, 33, 34, 35, 4, 36, 37, 38, 10, 12, 13, 14, 15, 16, 17, 18, 86, 87, 88, 89, 11, 23, 90, 116, 117, 118, 119, 120, 121, 122, 123, 124, 125, 126, 127] (by decide +kernel) (by decide +kernel)) (goodIn_sub (fun _ h => List.mem_cons_of_mem _ (List.mem_append_left _ (List.mem_append_right _ h))) (by decide +kernel))
set_option maxRecDepth 20000 in
theorem gL_areRoomsSo_X4_overlapping : GoodIn wsL_areRoomsSo (wsV RL 79 RX4 yX4_overlapping wsX4_overlapping) := goodIn_app (goodIn_of _ (by decide +kernel)) ggL_areRoomsSo_X4_overlapping
set_option maxRecDepth 20000 in
theorem ggL_areRoomsSo_X4_busiest : GoodIn wsL_areRoomsSo wsX4_busiest := goodIn_r _ [94, 6, 7, 8, 4, 9, 10, 11, 12, 13, 14, 15, 16, 17, 18, 19, 20, 21, 22, 23, 116, 117, 118, 119, 120, 121, 122, 123, 124, 125, 126, 127] (by decide +kernel) (by decide +kernel)
set_option maxRecDepth 20000 in
theorem gL_areRoomsSo_X4_busiest : GoodIn wsL_areRoomsSo (wsV RL 86 RX4 yX4_busiest wsX4_busiest) := goodIn_app (goodIn_of _ (by decide +kernel)) ggL_areRoomsSo_X4_busiest
set_option maxRecDepth 20000 in
theorem ggL_areRoomsSo_X4_intervals : GoodIn wsL_areRoomsSo wsX4_intervals := goodIn_r _ [98, 12, 99, 100, 101, 102, 103, 104, 105, 116, 117, 118, 119, 120, 121, 122, 123, 124, 125, 126, 127] (by decide +kernel) (by decide +kernel)
set_option maxRecDepth 20000 in
theorem gL_areRoomsSo_X4_intervals : GoodIn wsL_areRoomsSo (wsV RL 89 RX4 yX4_intervals wsX4_intervals) := goodIn_app (goodIn_of _ (by decide +kernel)) ggL_areRoomsSo_X4_intervals
set_option maxRecDepth 20000 in
theorem ggL_areRoomsSo_L_bits : GoodIn wsL_areRoomsSo wsL_bits := goodIn_r _ [109] (by decide +kernel) (by decide +kernel)
set_option maxRecDepth 20000 in
theorem gL_areRoomsSo_L_bits : GoodIn wsL_areRoomsSo (va_wsS RL 92 yL_bits wsL_bits) := goodIn_app (goodIn_of _ (by decide +kernel)) ggL_areRoomsSo_L_bits
set_option maxRecDepth 20000 in
theorem ggL_areRoomsSo_X4_depth : GoodIn wsL_areRoomsSo wsX4_depth := goodIn_ca (goodIn_r _ [113, 114, 115, 19, 20, 21, 4, 22, 10, 12, 11, 23, 13, 14, 15, 16, 17, 18, 116, 117, 118, 119, 120, 121, 122, 123, 124, 125, 126, 127] (by decide +kernel) (by decide +kernel)) (goodIn_sub (fun _ h => List.mem_cons_of_mem _ (List.mem_append_right _ h)) (by decide +kernel))
set_option maxRecDepth 20000 in
theorem gL_areRoomsSo_X4_depth : GoodIn wsL_areRoomsSo (wsV RL 96 RX4 yX4_depth wsX4_depth) := goodIn_app (goodIn_of _ (by decide +kernel)) ggL_areRoomsSo_X4_depth
set_option maxRecDepth 20000 in
theorem ggL_isEarliest_X4_earliest : GoodIn wsL_isEarliest wsX4_earliest := goodIn_ca (goodIn_r _ [5, 6, 7, 8, 9, 10, 4, 11, 12, 13, 14, 15, 16, 17, 18, 19, 20, 21, 22, 23, 24, 25, 26, 27, 28, 29, 34, 35, 36, 37, 38, 39, 40, 41, 42, 43, 44, 45] (by decide +kernel) (by decide +kernel)) (goodIn_sub (fun _ h => List.mem_cons_of_mem _ (List.mem_append_right _ h)) (by decide +kernel))
set_option maxRecDepth 20000 in
theorem gL_isEarliest_X4_earliest : GoodIn wsL_isEarliest (wsV RL 99 RX4 yX4_earliest wsX4_earliest) := goodIn_app (goodIn_of _ (by decide +kernel)) ggL_isEarliest_X4_earliest
set_option maxRecDepth 20000 in
theorem ggL_isEarliest_X4_depth : GoodIn wsL_isEarliest wsX4_depth := goodIn_ca (goodIn_r _ [33, 6, 7, 14, 15, 16, 4, 17, 12, 18, 13, 19, 20, 21, 22, 23, 24, 25, 34, 35, 36, 37, 38, 39, 40, 41, 42, 43, 44, 45] (by decide +kernel) (by decide +kernel)) (goodIn_sub (fun _ h => List.mem_cons_of_mem _ (List.mem_append_right _ h)) (by decide +kernel))
set_option maxRecDepth 20000 in
theorem gL_isEarliest_X4_depth : GoodIn wsL_isEarliest (wsV RL 96 RX4 yX4_depth wsX4_depth) := goodIn_app (goodIn_of _ (by decide +kernel)) ggL_isEarliest_X4_depth
set_option maxRecDepth 20000 in
theorem ggL_arePlansSo_X4_heaviestIn : GoodIn wsL_arePlansSo wsX4_heaviestIn := goodIn_ca (goodIn_r _ [6, 7, 8, 9, 5, 10, 11, 12, 13, 14, 15, 16, 17, 18, 19, 20, 21, 22, 23, 24, 25, 26, 27, 28, 29, 30, 31, 32, 33, 34, 35, 36, 37, 38, 39, 40, 41, 42, 43, 44, 45, 46, 47, 48, 49, 50, 51, 52, 53, 54, 55, 56, 57, 58, 59, 60, 61, 62, 63, 64, 65, 66, 67, 68, 69, 70, 71, 72, 73, 74, 75, 76, 77, 78, 79, 80, 81, 82, 83, 84, 85, 86, 87, 88, 89, 90, 91, 92, 93, 94, 95, 96, 97, 98, 220, 221, 222, 223, 224, 225, 226, 227, 228, 229, 230, 231, 232, 233, 234, 235, 236, 237, 238, 239, 240, 241, 242, 243, 244] (by decide +kernel) (by decide +kernel)) (goodIn_sub (fun _ h => List.mem_cons_of_mem _ (List.mem_append_left _ (List.mem_append_left _ (List.mem_append_right _ h)))) (by decide +kernel))
set_option maxRecDepth 20000 in
theorem gL_arePlansSo_X4_heaviestIn : GoodIn wsL_arePlansSo (wsV RL 103 RX4 yX4_heaviestIn wsX4_heaviestIn) := goodIn_app (goodIn_of _ (by decide +kernel)) ggL_arePlansSo_X4_heaviestIn
set_option maxRecDepth 20000 in
theorem ggL_arePlansSo_X4_heaviest : GoodIn wsL_arePlansSo wsX4_heaviest := goodIn_r _ [102, 7, 103, 104, 105, 5, 106, 107, 18, 19, 20, 21, 22, 23, 24, 25, 26, 27, 28, 29, 30, 31, 32, 33, 34, 35, 36, 37, 38, 39, 40, 41, 42, 43, 44, 45, 46, 47, 48, 49, 50, 51, 52, 53, 54, 108, 109, 110, 111, 112, 113, 114, 115, 116, 97, 117, 118, 119, 120, 121, 220, 221, 222, 223, 224, 225, 226, 227, 228, 229, 230, 231, 245, 246, 239, 240, 241, 242, 243, 244] (by decide +kernel) (by decide +kernel)
set_option maxRecDepth 20000 in
theorem gL_arePlansSo_X4_heaviest : GoodIn wsL_arePlansSo (wsV RL 74 RX4 yX4_heaviest wsX4_heaviest) := goodIn_app (goodIn_of _ (by decide +kernel)) ggL_arePlansSo_X4_heaviest
set_option maxRecDepth 20000 in
theorem ggL_arePlansSo_X4_chosen : GoodIn wsL_arePlansSo wsX4_chosen := goodIn_r _ [125, 107, 7, 18, 19, 20, 5, 21, 22, 23, 24, 25, 26, 27, 28, 29, 30, 31, 32, 33, 34, 35, 36, 37, 38, 39, 40, 41, 42, 43, 44, 45, 46, 47, 48, 49, 50, 51, 52, 53, 54, 126, 127, 128, 111, 129, 114, 113, 130, 109, 110, 112, 115, 116, 97, 117, 118, 119, 120, 121, 220, 221, 222, 223, 224, 225, 226, 227, 228, 229, 230, 231, 245, 246, 239, 240, 241, 242, 243, 244] (by decide +kernel) (by decide +kernel)
set_option maxRecDepth 20000 in
theorem gL_arePlansSo_X4_chosen : GoodIn wsL_arePlansSo (wsV RL 106 RX4 yX4_chosen wsX4_chosen) := goodIn_app (goodIn_of _ (by decide +kernel)) ggL_arePlansSo_X4_chosen
set_option maxRecDepth 20000 in
theorem ggL_arePlansSo_L_isPlan : GoodIn wsL_arePlansSo wsL_isPlan := goodIn_ca (goodIn_r _ [134, 135, 136, 137, 138, 5, 139, 7, 140, 141, 142, 143, 144, 145, 146, 147, 148, 149, 22, 32, 33, 34, 35, 36, 37, 150, 151, 152, 153, 23, 24, 154, 220, 221, 222, 223, 224, 225, 226, 227, 228, 229, 230, 231] (by decide +kernel) (by decide +kernel)) (goodIn_sub (fun _ h => List.mem_cons_of_mem _ (List.mem_append_left _ (List.mem_append_right _ h))) (by decide +kernel))
set_option maxRecDepth 20000 in
theorem gL_arePlansSo_L_isPlan : GoodIn wsL_arePlansSo (va_wsS RL 109 yL_isPlan wsL_isPlan) := goodIn_app (goodIn_of _ (by decide +kernel)) ggL_arePlansSo_L_isPlan
set_option maxRecDepth 20000 in
theorem ggL_arePlansSo_X4_most : GoodIn wsL_arePlansSo wsX4_most := goodIn_r _ [158, 107, 7, 18, 19, 20, 5, 21, 22, 23, 24, 25, 26, 27, 28, 29, 30, 31, 32, 33, 34, 35, 36, 37, 38, 39, 40, 41, 42, 43, 44, 45, 46, 47, 48, 49, 50, 51, 52, 53, 54, 159, 160, 161, 111, 162, 114, 220, 221, 222, 223, 224, 225, 226, 227, 228, 229, 230, 231, 245, 246, 239, 240, 241, 242, 243, 244] (by decide +kernel) (by decide +kernel)
set_option maxRecDepth 20000 in
theorem gL_arePlansSo_X4_most : GoodIn wsL_arePlansSo (wsV RL 113 RX4 yX4_most wsX4_most) := goodIn_app (goodIn_of _ (by decide +kernel)) ggL_arePlansSo_X4_most
set_option maxRecDepth 20000 in
theorem ggL_arePlansSo_L_bits : GoodIn wsL_arePlansSo wsL_bits := goodIn_r _ [165] (by decide +kernel) (by decide +kernel)
set_option maxRecDepth 20000 in
theorem gL_arePlansSo_L_bits : GoodIn wsL_arePlansSo (va_wsS RL 92 yL_bits wsL_bits) := goodIn_app (goodIn_of _ (by decide +kernel)) ggL_arePlansSo_L_bits
set_option maxRecDepth 20000 in
theorem ggL_arePlansSo_X4_heaviestRound : GoodIn wsL_arePlansSo wsX4_heaviestRound := goodIn_ca (goodIn_ca (goodIn_r _ [169, 22, 7, 23, 25, 170, 116, 97, 117, 171, 172, 173, 5, 174, 11, 12, 175, 176, 32, 33, 34, 35, 36, 37, 177, 178, 179, 180, 24, 181, 182, 183, 184, 107, 185, 186, 187, 188, 26, 27, 28, 29, 30, 31, 189, 190, 191, 192, 193, 194, 195, 38, 39, 40, 41, 42, 43, 44, 45, 46, 47, 48, 49, 50, 51, 52, 53, 54, 108, 109, 110, 111, 112, 113, 114, 115, 118, 119, 120, 121, 196, 197, 198, 199, 220, 221, 222, 223, 224, 225, 226, 227, 228, 229, 230, 231, 245, 246, 239, 240, 241, 242, 243, 244] (by decide +kernel) (by decide +kernel)) (goodIn_sub (fun _ h => List.mem_cons_of_mem _ (List.mem_append_left _ (List.mem_append_left _ (List.mem_append_right _ h)))) (by decide +kernel))) (goodIn_sub (fun _ h => List.mem_cons_of_mem _ (List.mem_append_right _ h)) (by decide +kernel))
set_option maxRecDepth 20000 in
theorem gL_arePlansSo_X4_heaviestRound : GoodIn wsL_arePlansSo (wsV RL 116 RX4 yX4_heaviestRound wsX4_heaviestRound) := goodIn_app (goodIn_of _ (by decide +kernel)) ggL_arePlansSo_X4_heaviestRound
set_option maxRecDepth 20000 in
theorem ggL_arePlansSo_X4_depthRound : GoodIn wsL_arePlansSo wsX4_depthRound := goodIn_ca (goodIn_ca (goodIn_r _ [203, 22, 7, 23, 170, 116, 97, 117, 171, 172, 173, 5, 174, 11, 12, 175, 176, 32, 33, 34, 35, 36, 37, 177, 178, 179, 180, 24, 204, 205, 206, 207, 189, 190, 191, 192, 193, 194, 195, 220, 221, 222, 223, 224, 225, 226, 227, 228, 229, 230, 231] (by decide +kernel) (by decide +kernel)) (goodIn_sub (fun _ h => List.mem_cons_of_mem _ (List.mem_append_left _ (List.mem_append_left _ (List.mem_append_right _ h)))) (by decide +kernel))) (goodIn_sub (fun _ h => List.mem_cons_of_mem _ (List.mem_append_right _ h)) (by decide +kernel))
set_option maxRecDepth 20000 in
theorem gL_arePlansSo_X4_depthRound : GoodIn wsL_arePlansSo (wsV RL 119 RX4 yX4_depthRound wsX4_depthRound) := goodIn_app (goodIn_of _ (by decide +kernel)) ggL_arePlansSo_X4_depthRound
set_option maxRecDepth 20000 in
theorem ggL_arePlansSo_X4_rooms : GoodIn wsL_arePlansSo wsX4_rooms := goodIn_r _ [211, 212, 213, 214, 5, 215, 22, 23, 7, 32, 33, 34, 35, 36, 37, 216, 217, 218, 219, 24, 220, 221, 222, 223, 224, 225, 226, 227, 228, 229, 230, 231] (by decide +kernel) (by decide +kernel)
set_option maxRecDepth 20000 in
theorem gL_arePlansSo_X4_rooms : GoodIn wsL_arePlansSo (wsV RL 71 RX4 yX4_rooms wsX4_rooms) := goodIn_app (goodIn_of _ (by decide +kernel)) ggL_arePlansSo_X4_rooms
set_option maxRecDepth 20000 in
theorem ggL_law_X4_init : GoodIn wsL_law wsX4_init := goodIn_r _ [6, 7, 8, 9, 10, 11, 12, 13, 14, 15, 16, 17, 18, 19, 20, 21, 22, 23, 24, 25, 26, 27, 28, 29, 30, 31, 32, 33, 34, 35, 36, 37, 38, 39, 40, 41, 42, 43, 44, 45, 46, 47, 48, 49, 50, 51, 52, 53, 54, 55, 56, 57, 58, 59, 60, 61, 62, 63, 64, 65, 66, 393, 394, 395, 396, 397, 398, 399, 400, 401, 402, 403, 404, 405, 406, 407, 408, 409, 410, 411, 412, 413, 414, 415, 416, 417, 418, 419, 420, 421] (by decide +kernel) (by decide +kernel)
set_option maxRecDepth 20000 in
theorem gL_law_X4_init : GoodIn wsL_law (wsX4_init) := ggL_law_X4_init
set_option maxRecDepth 20000 in
theorem ggL_law_L_cell : GoodIn wsL_law wsL_cell := goodIn_r _ [70] (by decide +kernel) (by decide +kernel)
set_option maxRecDepth 20000 in
theorem gL_law_L_cell : GoodIn wsL_law (va_wsS RL 123 yL_cell wsL_cell) := goodIn_app (goodIn_of _ (by decide +kernel)) ggL_law_L_cell
set_option maxRecDepth 20000 in
theorem ggL_law_L_act : GoodIn wsL_law wsL_act := goodIn_ca (goodIn_ca (goodIn_ca (goodIn_r _ [73, 74, 75, 69, 76, 77, 78, 79, 80, 81, 3, 82, 83, 84, 2, 85, 86, 87, 88, 89, 90, 91, 92, 93, 94, 95, 96, 97, 98, 99, 100, 101, 102, 103, 104, 105, 106, 107, 108, 109, 110, 111, 112, 113, 114, 115, 116, 117, 118, 11, 12, 119, 120, 121, 122, 123, 124, 125, 126, 127, 128, 129, 14, 130, 131, 132, 133, 134, 135, 13, 136, 137, 138, 139, 140, 141, 142, 143, 144, 145, 146, 147, 148, 149, 150, 151, 152, 153, 154, 155, 156, 393, 394, 395, 396, 397, 398, 399, 400, 401, 402, 403, 404] (by decide +kernel) (by decide +kernel)) (goodIn_sub (fun _ h => List.mem_append_left _ (List.mem_append_left _ (List.mem_append_right _ h))) (by decide +kernel))) (goodIn_sub (fun _ h => List.mem_append_left _ (List.mem_append_right _ h)) (by decide +kernel))) (goodIn_sub (fun _ h => List.mem_append_right _ h) (by decide +kernel))
set_option maxRecDepth 20000 in
theorem gL_law_L_act : GoodIn wsL_law (va_wsS RL 127 yL_act wsL_act) := goodIn_app (goodIn_of _ (by decide +kernel)) ggL_law_L_act
set_option maxRecDepth 20000 in
theorem ggL_law_L_areAlike : GoodIn wsL_law wsL_areAlike := goodIn_r _ [159, 160, 161, 162, 2, 163, 86, 164, 165, 166, 167, 88, 168, 169, 170, 171, 132, 133, 134, 135, 95, 13, 96, 97, 98, 99, 100, 101, 172, 173, 174, 175, 131, 176, 177, 178, 179, 130, 180, 181, 182, 183, 22, 184, 185, 186, 187, 11, 12, 188, 189, 190, 33, 191, 192, 193, 194, 195, 196, 41, 42, 43, 44, 197, 198, 199, 200, 40, 201, 202, 203, 204, 205, 206, 207, 21, 208, 51, 50, 209, 210, 211, 212, 213, 214, 215, 216, 217, 218, 219, 220, 221, 222, 223, 224, 225, 226, 227, 228, 229, 230, 231, 232, 393, 394, 395, 396, 397, 398, 399, 400, 401, 402, 403, 404, 407, 408, 416, 417, 418, 419, 420, 421] (by decide +kernel) (by decide +kernel)
set_option maxRecDepth 20000 in
theorem gL_law_L_areAlike : GoodIn wsL_law (va_wsS RL 130 yL_areAlike wsL_areAlike) := goodIn_app (goodIn_of _ (by decide +kernel)) ggL_law_L_areAlike
set_option maxRecDepth 20000 in
theorem ggL_law_X4_accepted : GoodIn wsL_law wsX4_accepted := goodIn_r _ [167, 88, 393, 394, 395, 396, 397, 398, 399, 400, 401, 402, 403, 404] (by decide +kernel) (by decide +kernel)
set_option maxRecDepth 20000 in
theorem gL_law_X4_accepted : GoodIn wsL_law (wsV RL 58 RX4 yX4_accepted wsX4_accepted) := goodIn_app (goodIn_of _ (by decide +kernel)) ggL_law_X4_accepted
set_option maxRecDepth 20000 in
theorem ggL_law_L_isPlan : GoodIn wsL_law wsL_isPlan := goodIn_ca (goodIn_r _ [235, 236, 160, 161, 162, 2, 163, 86, 237, 238, 239, 240, 89, 90, 91, 92, 93, 94, 95, 96, 97, 98, 99, 100, 101, 146, 147, 148, 149, 11, 12, 87, 393, 394, 395, 396, 397, 398, 399, 400, 401, 402, 403, 404] (by decide +kernel) (by decide +kernel)) (goodIn_sub (fun _ h => List.mem_append_left _ (List.mem_append_left _ (List.mem_append_right _ h))) (by decide +kernel))
set_option maxRecDepth 20000 in
theorem gL_law_L_isPlan : GoodIn wsL_law (va_wsS RL 109 yL_isPlan wsL_isPlan) := goodIn_app (goodIn_of _ (by decide +kernel)) ggL_law_L_isPlan
set_option maxRecDepth 20000 in
theorem ggL_law_X4_bestOfOffered : GoodIn wsL_law wsX4_bestOfOffered := goodIn_r _ [179, 86, 130, 180, 181, 182, 2, 183, 22, 184, 185, 186, 187, 95, 11, 12, 13, 188, 189, 190, 33, 191, 192, 96, 97, 98, 99, 100, 101, 193, 194, 195, 196, 41, 42, 43, 44, 197, 198, 199, 200, 40, 201, 202, 203, 204, 205, 206, 207, 21, 208, 51, 50, 209, 210, 211, 212, 213, 214, 215, 216, 393, 394, 395, 396, 397, 398, 399, 400, 401, 402, 403, 404, 407, 408, 416, 417, 418, 419, 420, 421] (by decide +kernel) (by decide +kernel)
set_option maxRecDepth 20000 in
theorem gL_law_X4_bestOfOffered : GoodIn wsL_law (wsV RL 68 RX4 yX4_bestOfOffered wsX4_bestOfOffered) := goodIn_app (goodIn_of _ (by decide +kernel)) ggL_law_X4_bestOfOffered
set_option maxRecDepth 20000 in
theorem ggL_law_X4_acceptedWeight : GoodIn wsL_law wsX4_acceptedWeight := goodIn_r _ [171, 88, 132, 133, 134, 2, 135, 95, 13, 96, 97, 98, 99, 100, 101, 393, 394, 395, 396, 397, 398, 399, 400, 401, 402, 403, 404] (by decide +kernel) (by decide +kernel)
set_option maxRecDepth 20000 in
theorem gL_law_X4_acceptedWeight : GoodIn wsL_law (wsV RL 61 RX4 yX4_acceptedWeight wsX4_acceptedWeight) := goodIn_app (goodIn_of _ (by decide +kernel)) ggL_law_X4_acceptedWeight
set_option maxRecDepth 20000 in
theorem ggL_law_X4_heaviest : GoodIn wsL_law wsX4_heaviest := goodIn_r _ [232, 86, 180, 181, 182, 2, 183, 22, 184, 185, 186, 187, 95, 11, 12, 13, 188, 189, 190, 33, 191, 192, 96, 97, 98, 99, 100, 101, 193, 194, 195, 196, 41, 42, 43, 44, 197, 198, 199, 200, 40, 201, 202, 203, 204, 205, 206, 207, 21, 208, 51, 50, 209, 210, 211, 212, 213, 214, 215, 216, 393, 394, 395, 396, 397, 398, 399, 400, 401, 402, 403, 404, 407, 408, 416, 417, 418, 419, 420, 421] (by decide +kernel) (by decide +kernel)
set_option maxRecDepth 20000 in
theorem gL_law_X4_heaviest : GoodIn wsL_law (wsV RL 74 RX4 yX4_heaviest wsX4_heaviest) := goodIn_app (goodIn_of _ (by decide +kernel)) ggL_law_X4_heaviest
set_option maxRecDepth 20000 in
theorem ggL_law_L_areRoomsSo : GoodIn wsL_law wsL_areRoomsSo := goodIn_ca (goodIn_ca (goodIn_r _ [243, 217, 218, 219, 2, 220, 221, 222, 223, 224, 95, 11, 86, 96, 97, 98, 99, 100, 101, 225, 226, 227, 228, 12, 160, 161, 162, 163, 244, 245, 246, 247, 18, 89, 90, 91, 92, 93, 94, 184, 185, 186, 187, 13, 188, 189, 190, 33, 191, 192, 193, 194, 195, 196, 41, 42, 43, 44, 197, 198, 199, 200, 40, 201, 202, 203, 204, 248, 249, 250, 17, 251, 34, 35, 252, 253, 254, 255, 256, 257, 258, 259, 237, 238, 239, 240, 146, 147, 148, 149, 87, 260, 261, 262, 263, 264, 265, 266, 267, 102, 103, 104, 105, 106, 107, 108, 268, 269, 69, 270, 271, 272, 273, 274, 117, 118, 393, 394, 395, 396, 397, 398, 399, 400, 401, 402, 403, 404, 405, 406, 416, 417, 418, 419, 420, 421] (by decide +kernel) (by decide +kernel)) (goodIn_sub (fun _ h => List.mem_append_left _ (List.mem_append_left _ (List.mem_append_right _ h))) (by decide +kernel))) (goodIn_sub (fun _ h => List.mem_append_left _ (List.mem_append_right _ h)) (by decide +kernel))
set_option maxRecDepth 20000 in
theorem gL_law_L_areRoomsSo : GoodIn wsL_law (va_wsS RL 134 yL_areRoomsSo wsL_areRoomsSo) := goodIn_app (goodIn_of _ (by decide +kernel)) ggL_law_L_areRoomsSo
set_option maxRecDepth 20000 in
theorem ggL_law_L_arePlansSo : GoodIn wsL_law wsL_arePlansSo := goodIn_ca (goodIn_ca (goodIn_ca (goodIn_r _ [277, 278, 279, 280, 281, 2, 282, 86, 283, 284, 285, 117, 118, 286, 287, 288, 289, 26, 184, 185, 186, 187, 95, 11, 12, 13, 188, 189, 190, 33, 191, 192, 96, 97, 98, 99, 100, 101, 193, 194, 195, 196, 41, 42, 43, 44, 197, 198, 199, 200, 40, 201, 202, 203, 204, 290, 291, 292, 25, 293, 63, 58, 294, 295, 296, 297, 61, 62, 59, 298, 299, 300, 301, 302, 303, 304, 305, 64, 65, 306, 307, 308, 309, 310, 311, 312, 313, 314, 315, 316, 317, 318, 319, 320, 321, 322, 323, 211, 324, 229, 230, 231, 232, 180, 181, 182, 183, 22, 205, 206, 207, 21, 208, 51, 50, 209, 210, 212, 213, 214, 215, 216, 325, 326, 327, 328, 329, 330, 331, 332, 333, 233, 234, 69, 235, 236, 160, 161, 162, 163, 237, 238, 239, 240, 89, 90, 91, 92, 93, 94, 146, 147, 148, 149, 87, 334, 335, 336, 337, 338, 339, 340, 341, 268, 269, 270, 342, 343, 344, 345, 346, 347, 348, 349, 350, 144, 145, 119, 120, 121, 122, 351, 352, 353, 354, 355, 356, 357, 358, 359, 360, 361, 362, 363, 364, 365, 366, 367, 368, 369, 370, 371, 372, 373, 374, 375, 376, 377, 217, 218, 219, 220, 221, 222, 223, 224, 225, 226, 227, 228, 393, 394, 395, 396, 397, 398, 399, 400, 401, 402, 403, 404, 409, 410, 411, 412, 413, 414, 415, 416, 417, 418, 419, 420, 421, 407, 408] (by decide +kernel) (by decide +kernel)) (goodIn_sub (fun _ h => List.mem_append_left _ (List.mem_append_right _ h)) (by decide +kernel))) (goodIn_sub (fun _ h => List.mem_append_left _ (List.mem_append_left _ (List.mem_append_right _ h))) (by decide +kernel))) (goodIn_sub (fun _ h => List.mem_append_right _ h) (by decide +kernel))
set_option maxRecDepth 20000 in
theorem gL_law_L_arePlansSo : GoodIn wsL_law (va_wsS RL 138 yL_arePlansSo wsL_arePlansSo) := goodIn_app (goodIn_of _ (by decide +kernel)) ggL_law_L_arePlansSo
set_option maxRecDepth 20000 in
theorem ggL_law_L_low : GoodIn wsL_law wsL_low := goodIn_r _ [76, 77] (by decide +kernel) (by decide +kernel)
set_option maxRecDepth 20000 in
theorem gL_law_L_low : GoodIn wsL_law (va_wsS RL 35 yL_low wsL_low) := goodIn_app (goodIn_of _ (by decide +kernel)) ggL_law_L_low
set_option maxRecDepth 20000 in
theorem ggL_law_L_isEarliest : GoodIn wsL_law wsL_isEarliest := goodIn_ca (goodIn_r _ [380, 381, 382, 383, 2, 384, 117, 118, 385, 386, 387, 388, 95, 11, 225, 226, 227, 228, 86, 12, 96, 97, 98, 99, 100, 101, 389, 390, 391, 392, 271, 272, 273, 274, 393, 394, 395, 396, 397, 398, 399, 400, 401, 402, 403, 404] (by decide +kernel) (by decide +kernel)) (goodIn_sub (fun _ h => List.mem_append_left _ (List.mem_append_right _ h)) (by decide +kernel))
set_option maxRecDepth 20000 in
theorem gL_law_L_isEarliest : GoodIn wsL_law (va_wsS RL 141 yL_isEarliest wsL_isEarliest) := goodIn_app (goodIn_of _ (by decide +kernel)) ggL_law_L_isEarliest
