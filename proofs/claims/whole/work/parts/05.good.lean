theorem wsL_law_x0 : ∀ w ∈ (vx_atS RX4 48 "java/lang/IllegalArgumentException" ["java/lang/RuntimeException", "java/lang/Exception"]).filter goodWord, w ∈ lw_tbl := by decide +kernel
theorem wsL_law_x1 : ∀ w ∈ (vx_atS RX4 60 "java/lang/IllegalStateException" ["java/lang/RuntimeException", "java/lang/Exception"]).filter goodWord, w ∈ lw_tbl := by decide +kernel
theorem wsL_law_x2 : ∀ w ∈ (vx_atS RX4 183 "java/lang/IndexOutOfBoundsException" ["java/lang/RuntimeException", "java/lang/Exception"]).filter goodWord, w ∈ lw_tbl := by decide +kernel
theorem wsL_law_in : ∀ w ∈ wsL_law, w ∈ lw_tbl := fun w h => (List.mem_append.mp h).elim (fun h => (List.mem_append.mp h).elim (fun h => (List.mem_append.mp h).elim (fun h => wsL_law_in0 w h) (fun h => wsL_law_x0 w h)) (fun h => wsL_law_x1 w h)) (fun h => wsL_law_x2 w h)
theorem inlX0 : ∀ w ∈ wsX00, w ∈ wsL_law := fun _ h => List.mem_append_left _ (List.mem_append_left _ (List.mem_append_left _ (List.mem_append_left _ (List.mem_append_left _ (List.mem_append_left _ (List.mem_append_left _ (List.mem_append_right _ h)))))))
theorem inX0 : ∀ w ∈ wsX00, w ∈ lw_tbl := fun w h => wsL_law_in w (inlX0 w h)
theorem inlX1 : ∀ w ∈ wsX10, w ∈ wsL_law := fun _ h => List.mem_append_left _ (List.mem_append_left _ (List.mem_append_left _ (List.mem_append_left _ (List.mem_append_left _ (List.mem_append_right _ h)))))
theorem inX1 : ∀ w ∈ wsX10, w ∈ lw_tbl := fun w h => wsL_law_in w (inlX1 w h)
theorem inlX2 : ∀ w ∈ wsX20, w ∈ wsL_law := fun _ h => List.mem_append_left _ (List.mem_append_left _ (List.mem_append_left _ (List.mem_append_left _ (List.mem_append_left _ (List.mem_append_left _ (List.mem_append_right _ h))))))
theorem inX2 : ∀ w ∈ wsX20, w ∈ lw_tbl := fun w h => wsL_law_in w (inlX2 w h)
theorem inlX3 : ∀ w ∈ wsX30, w ∈ wsL_law := fun _ h => List.mem_append_left _ (List.mem_append_left _ (List.mem_append_left _ (List.mem_append_left _ (List.mem_append_right _ h))))
theorem inX3 : ∀ w ∈ wsX30, w ∈ lw_tbl := fun w h => wsL_law_in w (inlX3 w h)
theorem inlX4 : ∀ w ∈ wsX40, w ∈ wsL_law := fun _ h => List.mem_append_left _ (List.mem_append_left _ (List.mem_append_left _ (List.mem_append_left _ (List.mem_append_left _ (List.mem_append_left _ (List.mem_append_left _ (List.mem_append_left _ (List.mem_append_left _ (List.mem_append_right _ h)))))))))
theorem inX4 : ∀ w ∈ wsX40, w ∈ lw_tbl := fun w h => wsL_law_in w (inlX4 w h)
theorem inlX5 : ∀ w ∈ wsX50, w ∈ wsL_law := fun _ h => List.mem_append_left _ (List.mem_append_left _ (List.mem_append_left _ (List.mem_append_left _ (List.mem_append_left _ (List.mem_append_left _ (List.mem_append_left _ (List.mem_append_left _ (List.mem_append_right _ h))))))))
theorem inX5 : ∀ w ∈ wsX50, w ∈ lw_tbl := fun w h => wsL_law_in w (inlX5 w h)
theorem inJ13 : ∀ w ∈ wsJ130, w ∈ lw_tbl := by decide +kernel
theorem inJ9 : ∀ w ∈ wsJ90, w ∈ lw_tbl := by decide +kernel
theorem inJ0 : ∀ w ∈ wsJ00, w ∈ lw_tbl := by decide +kernel
set_option maxRecDepth 20000 in
theorem ggX0_init_X3_init : GoodIn wsX0_init wsX3_init := goodIn_r _ [12, 13, 2, 3, 14, 8, 15, 16, 17, 18, 19, 20, 21, 22, 23, 24] (by decide +kernel) (by decide +kernel)
set_option maxRecDepth 20000 in
theorem gX0_init_X3_init : GoodIn wsX0_init (wsX3_init) := ggX0_init_X3_init
set_option maxRecDepth 20000 in
theorem ggX0_givenTo_X0_clearRooms : GoodIn wsX0_givenTo wsX0_clearRooms := goodIn_r _ [7, 2, 12, 13] (by decide +kernel) (by decide +kernel)
set_option maxRecDepth 20000 in
theorem gX0_givenTo_X0_clearRooms : GoodIn wsX0_givenTo (wsV RX0 24 RX0 yX0_clearRooms wsX0_clearRooms) := goodIn_app (goodIn_of _ (by decide +kernel)) ggX0_givenTo_X0_clearRooms
set_option maxRecDepth 20000 in
theorem ggX0_givenTo_X0_lowestFreeRoom : GoodIn wsX0_givenTo wsX0_lowestFreeRoom := goodIn_r _ [11, 2, 12, 13] (by decide +kernel) (by decide +kernel)
set_option maxRecDepth 20000 in
theorem gX0_givenTo_X0_lowestFreeRoom : GoodIn wsX0_givenTo (wsV RX0 34 RX0 yX0_lowestFreeRoom wsX0_lowestFreeRoom) := goodIn_app (goodIn_of _ (by decide +kernel)) ggX0_givenTo_X0_lowestFreeRoom
set_option maxRecDepth 20000 in
theorem ggX1_init_X3_init : GoodIn wsX1_init wsX3_init := goodIn_r _ [18, 19, 2, 3, 20, 8, 21, 22, 23, 24, 25, 26, 27, 28, 29, 30] (by decide +kernel) (by decide +kernel)
set_option maxRecDepth 20000 in
theorem gX1_init_X3_init : GoodIn wsX1_init (wsX3_init) := ggX1_init_X3_init
set_option maxRecDepth 20000 in
theorem ggX1_greatestWeight_X1_clearRooms : GoodIn wsX1_greatestWeight wsX1_clearRooms := goodIn_r _ [7, 2, 8, 9, 10, 11, 12, 13, 6, 14, 41, 42, 43, 44, 45, 46, 47, 48, 49, 50, 51, 52, 53] (by decide +kernel) (by decide +kernel)
set_option maxRecDepth 20000 in
theorem gX1_greatestWeight_X1_clearRooms : GoodIn wsX1_greatestWeight (wsV RX1 40 RX1 yX1_clearRooms wsX1_clearRooms) := goodIn_app (goodIn_of _ (by decide +kernel)) ggX1_greatestWeight_X1_clearRooms
set_option maxRecDepth 20000 in
theorem ggX1_greatestWeight_X1_findBestWay : GoodIn wsX1_greatestWeight wsX1_findBestWay := goodIn_r _ [18, 2, 1, 19, 20, 21, 22, 23, 6, 24, 8, 10, 25, 26, 27, 28, 29, 30, 31, 32, 9, 41, 42, 43, 44, 45, 46, 47, 48, 49, 50, 51, 52, 53] (by decide +kernel) (by decide +kernel)
set_option maxRecDepth 20000 in
theorem gX1_greatestWeight_X1_findBestWay : GoodIn wsX1_greatestWeight (wsV RX1 43 RX1 yX1_findBestWay wsX1_findBestWay) := goodIn_app (goodIn_of _ (by decide +kernel)) ggX1_greatestWeight_X1_findBestWay
set_option maxRecDepth 20000 in
theorem ggX1_greatestWeight_X1_goBestWay : GoodIn wsX1_greatestWeight wsX1_goBestWay := goodIn_r _ [36, 2, 19, 37, 38, 39, 40, 20, 8, 9, 41, 42, 43, 44, 45, 46, 47, 48, 49, 50, 51, 52, 53] (by decide +kernel) (by decide +kernel)
set_option maxRecDepth 20000 in
theorem gX1_greatestWeight_X1_goBestWay : GoodIn wsX1_greatestWeight (wsV RX1 50 RX1 yX1_goBestWay wsX1_goBestWay) := goodIn_app (goodIn_of _ (by decide +kernel)) ggX1_greatestWeight_X1_goBestWay
set_option maxRecDepth 20000 in
theorem ggX1_clearRooms_X1_firstBegunFrom : GoodIn wsX1_clearRooms wsX1_firstBegunFrom := goodIn_r _ [9, 1, 10, 11, 12, 13, 14, 15, 16, 17, 18, 19, 20, 21, 22] (by decide +kernel) (by decide +kernel)
set_option maxRecDepth 20000 in
theorem gX1_clearRooms_X1_firstBegunFrom : GoodIn wsX1_clearRooms (wsV RX1 56 RX1 yX1_firstBegunFrom wsX1_firstBegunFrom) := goodIn_app (goodIn_of _ (by decide +kernel)) ggX1_clearRooms_X1_firstBegunFrom
set_option maxRecDepth 20000 in
theorem ggX1_findBestWay_X1_improveForwards : GoodIn wsX1_findBestWay wsX1_improveForwards := goodIn_r _ [9, 1, 2, 10, 11, 12, 13, 14, 8, 15, 3, 4, 21, 22, 23, 24, 25, 26, 27, 28, 29, 30, 31, 32, 33] (by decide +kernel) (by decide +kernel)
set_option maxRecDepth 20000 in
theorem gX1_findBestWay_X1_improveForwards : GoodIn wsX1_findBestWay (wsV RX1 63 RX1 yX1_improveForwards wsX1_improveForwards) := goodIn_app (goodIn_of _ (by decide +kernel)) ggX1_findBestWay_X1_improveForwards
set_option maxRecDepth 20000 in
theorem ggX1_findBestWay_X1_improveBackwards : GoodIn wsX1_findBestWay wsX1_improveBackwards := goodIn_r _ [19, 1, 20, 2, 10, 11, 12, 13, 14, 8, 15, 3, 4, 21, 22, 23, 24, 25, 26, 27, 28, 29, 30, 31, 32, 33] (by decide +kernel) (by decide +kernel)
set_option maxRecDepth 20000 in
theorem gX1_findBestWay_X1_improveBackwards : GoodIn wsX1_findBestWay (wsV RX1 67 RX1 yX1_improveBackwards wsX1_improveBackwards) := goodIn_app (goodIn_of _ (by decide +kernel)) ggX1_findBestWay_X1_improveBackwards
set_option maxRecDepth 20000 in
theorem ggX1_improveForwards_X1_reach : GoodIn wsX1_improveForwards wsX1_reach := goodIn_r _ [9, 2, 10, 11, 12, 13, 14, 15, 16, 17, 18] (by decide +kernel) (by decide +kernel)
set_option maxRecDepth 20000 in
theorem gX1_improveForwards_X1_reach : GoodIn wsX1_improveForwards (wsV RX1 70 RX1 yX1_reach wsX1_reach) := goodIn_app (goodIn_of _ (by decide +kernel)) ggX1_improveForwards_X1_reach
set_option maxRecDepth 20000 in
theorem ggX1_improveBackwards_X1_reach : GoodIn wsX1_improveBackwards wsX1_reach := goodIn_r _ [10, 3, 11, 12, 13, 14, 15, 16, 17, 18, 19] (by decide +kernel) (by decide +kernel)
set_option maxRecDepth 20000 in
theorem gX1_improveBackwards_X1_reach : GoodIn wsX1_improveBackwards (wsV RX1 70 RX1 yX1_reach wsX1_reach) := goodIn_app (goodIn_of _ (by decide +kernel)) ggX1_improveBackwards_X1_reach
set_option maxRecDepth 20000 in
theorem ggX2_init_X3_init : GoodIn wsX2_init wsX3_init := goodIn_r _ [12, 13, 2, 3, 14, 8, 15, 16, 17, 18, 19, 20, 21, 22, 23, 24] (by decide +kernel) (by decide +kernel)
set_option maxRecDepth 20000 in
theorem gX2_init_X3_init : GoodIn wsX2_init (wsX3_init) := ggX2_init_X3_init
set_option maxRecDepth 20000 in
theorem ggX2_greatestWeight_X2_endedBy : GoodIn wsX2_greatestWeight wsX2_endedBy := goodIn_r _ [11, 2, 12, 13, 14, 15, 16, 17, 18, 19] (by decide +kernel) (by decide +kernel)
set_option maxRecDepth 20000 in
theorem gX2_greatestWeight_X2_endedBy : GoodIn wsX2_greatestWeight (wsV RX2 34 RX2 yX2_endedBy wsX2_endedBy) := goodIn_app (goodIn_of _ (by decide +kernel)) ggX2_greatestWeight_X2_endedBy
set_option maxRecDepth 20000 in
theorem ggX2_chosenSet_X2_greatestWeight : GoodIn wsX2_chosenSet wsX2_greatestWeight := goodIn_r _ [7, 2, 1, 8, 9, 10, 11, 12, 13, 14, 6, 15, 19, 20, 21, 22, 23, 24, 25, 26] (by decide +kernel) (by decide +kernel)
set_option maxRecDepth 20000 in
theorem gX2_chosenSet_X2_greatestWeight : GoodIn wsX2_chosenSet (wsV RX2 44 RX2 yX2_greatestWeight wsX2_greatestWeight) := goodIn_app (goodIn_of _ (by decide +kernel)) ggX2_chosenSet_X2_greatestWeight
set_option maxRecDepth 20000 in
theorem ggX2_chosenSet_X4_only : GoodIn wsX2_chosenSet wsX4_only := goodIn_r _ [18] (by decide +kernel) (by decide +kernel)
set_option maxRecDepth 20000 in
theorem gX2_chosenSet_X4_only_n51 : GoodIn wsX2_chosenSet (wsX4_only) := ggX2_chosenSet_X4_only
set_option maxRecDepth 20000 in
theorem ggX2_chosenSet_X2_endedBy : GoodIn wsX2_chosenSet wsX2_endedBy := goodIn_r _ [15, 1, 19, 20, 21, 22, 23, 24, 25, 26] (by decide +kernel) (by decide +kernel)
set_option maxRecDepth 20000 in
theorem gX2_chosenSet_X2_endedBy : GoodIn wsX2_chosenSet (wsV RX2 34 RX2 yX2_endedBy wsX2_endedBy) := goodIn_app (goodIn_of _ (by decide +kernel)) ggX2_chosenSet_X2_endedBy
set_option maxRecDepth 20000 in
theorem ggX3_put_X3_comesBehind : GoodIn wsX3_put wsX3_comesBehind := goodIn_r _ [10, 11, 4, 3, 16, 17, 18, 19, 20, 21] (by decide +kernel) (by decide +kernel)
set_option maxRecDepth 20000 in
theorem gX3_put_X3_comesBehind : GoodIn wsX3_put (wsV RX3 32 RX3 yX3_comesBehind wsX3_comesBehind) := goodIn_app (goodIn_of _ (by decide +kernel)) ggX3_put_X3_comesBehind
set_option maxRecDepth 20000 in
theorem ggX3_put_X3_shiftUp : GoodIn wsX3_put wsX3_shiftUp := goodIn_r _ [15, 2, 3, 4, 5, 16, 17, 18, 19, 20, 21] (by decide +kernel) (by decide +kernel)
set_option maxRecDepth 20000 in
theorem gX3_put_X3_shiftUp : GoodIn wsX3_put (wsV RX3 36 RX3 yX3_shiftUp wsX3_shiftUp) := goodIn_app (goodIn_of _ (by decide +kernel)) ggX3_put_X3_shiftUp
set_option maxRecDepth 20000 in
theorem ggX4_init_X0_init : GoodIn wsX4_init wsX0_init := goodIn_r _ [23, 24, 2, 3, 25, 26, 27, 28, 4, 29, 30, 31, 32, 33, 34, 35, 36, 37, 38, 84, 85, 86, 87, 88, 89, 73, 74] (by decide +kernel) (by decide +kernel)
set_option maxRecDepth 20000 in
theorem gX4_init_X0_init : GoodIn wsX4_init (wsX0_init) := ggX4_init_X0_init
set_option maxRecDepth 20000 in
theorem ggX4_init_X2_init : GoodIn wsX4_init wsX2_init := goodIn_r _ [41, 42, 2, 3, 43, 26, 27, 44, 4, 45, 46, 31, 32, 33, 34, 35, 36, 37, 38, 84, 85, 86, 87, 88, 89, 75, 76] (by decide +kernel) (by decide +kernel)
set_option maxRecDepth 20000 in
theorem gX4_init_X2_init : GoodIn wsX4_init (wsX2_init) := ggX4_init_X2_init
set_option maxRecDepth 20000 in
theorem ggX4_init_X1_init : GoodIn wsX4_init wsX1_init := goodIn_r _ [49, 50, 2, 3, 51, 26, 27, 52, 4, 53, 54, 55, 56, 57, 58, 59, 60, 31, 32, 33, 34, 35, 36, 37, 38, 84, 85, 86, 87, 88, 89, 77, 78, 79, 80, 81, 82, 83] (by decide +kernel) (by decide +kernel)
set_option maxRecDepth 20000 in
theorem gX4_init_X1_init : GoodIn wsX4_init (wsX1_init) := ggX4_init_X1_init
set_option maxRecDepth 20000 in
theorem ggX4_add_X4_only : GoodIn wsX4_add wsX4_only := goodIn_r _ [13] (by decide +kernel) (by decide +kernel)
set_option maxRecDepth 20000 in
theorem gX4_add_X4_only : GoodIn wsX4_add (va_wsS RX4 65 yX4_only wsX4_only) := goodIn_app (goodIn_of _ (by decide +kernel)) ggX4_add_X4_only
set_option maxRecDepth 20000 in
theorem ggX4_remove_X4_requireThere : GoodIn wsX4_remove wsX4_requireThere := goodIn_ca (goodIn_r _ [8, 9, 10, 11, 1, 12, 13, 7, 14, 15, 16, 17, 25, 26, 27, 28, 29, 30, 31, 32, 33, 34, 35, 36] (by decide +kernel) (by decide +kernel)) (goodIn_sub (fun _ h => List.mem_cons_of_mem _ (List.mem_append_right _ h)) (by decide +kernel))
set_option maxRecDepth 20000 in
theorem gX4_remove_X4_requireThere : GoodIn wsX4_remove (wsV RX4 69 RX4 yX4_requireThere wsX4_requireThere) := goodIn_app (goodIn_of _ (by decide +kernel)) ggX4_remove_X4_requireThere
set_option maxRecDepth 20000 in
theorem ggX4_remove_X4_only : GoodIn wsX4_remove wsX4_only := goodIn_r _ [17] (by decide +kernel) (by decide +kernel)
set_option maxRecDepth 20000 in
theorem gX4_remove_X4_only : GoodIn wsX4_remove (va_wsS RX4 65 yX4_only wsX4_only) := goodIn_app (goodIn_of _ (by decide +kernel)) ggX4_remove_X4_only
set_option maxRecDepth 20000 in
theorem ggX4_remove_J13_bitCount_95d88 : GoodIn wsX4_remove wsJ13_bitCount_95d88 := goodIn_r _ [21, 22, 23, 24] (by decide +kernel) (by decide +kernel)
set_option maxRecDepth 20000 in
theorem gX4_remove_J13_bitCount_95d88 : GoodIn wsX4_remove (va_wsS RX4 78 yJ13_bitCount_95d88 wsJ13_bitCount_95d88) := goodIn_app (goodIn_of _ (by decide +kernel)) ggX4_remove_J13_bitCount_95d88
set_option maxRecDepth 20000 in
theorem ggX4_move_X4_requireThere : GoodIn wsX4_move wsX4_requireThere := goodIn_ca (goodIn_r _ [11, 12, 13, 14, 15, 16, 17, 10, 18, 19, 20, 21, 26, 27, 28, 29, 30, 31, 32, 33, 34, 35, 36, 37] (by decide +kernel) (by decide +kernel)) (goodIn_sub (fun _ h => List.mem_cons_of_mem _ (List.mem_append_right _ h)) (by decide +kernel))
set_option maxRecDepth 20000 in
theorem gX4_move_X4_requireThere : GoodIn wsX4_move (wsV RX4 69 RX4 yX4_requireThere wsX4_requireThere) := goodIn_app (goodIn_of _ (by decide +kernel)) ggX4_move_X4_requireThere
set_option maxRecDepth 20000 in
theorem ggX4_move_X4_lengthOf : GoodIn wsX4_move wsX4_lengthOf := goodIn_r _ [25, 4, 3, 26, 27, 28, 29, 30, 31, 32, 33, 34, 35, 36, 37] (by decide +kernel) (by decide +kernel)
set_option maxRecDepth 20000 in
theorem gX4_move_X4_lengthOf : GoodIn wsX4_move (wsV RX4 84 RX4 yX4_lengthOf wsX4_lengthOf) := goodIn_app (goodIn_of _ (by decide +kernel)) ggX4_move_X4_lengthOf
set_option maxRecDepth 20000 in
theorem ggX4_move_X4_only : GoodIn wsX4_move wsX4_only := goodIn_r _ [21] (by decide +kernel) (by decide +kernel)
set_option maxRecDepth 20000 in
theorem gX4_move_X4_only : GoodIn wsX4_move (va_wsS RX4 65 yX4_only wsX4_only) := goodIn_app (goodIn_of _ (by decide +kernel)) ggX4_move_X4_only
set_option maxRecDepth 20000 in
theorem ggX4_intervals_J13_bitCount_95d88 : GoodIn wsX4_intervals wsJ13_bitCount_95d88 := goodIn_r _ [5, 6, 7, 8] (by decide +kernel) (by decide +kernel)
set_option maxRecDepth 20000 in
theorem gX4_intervals_J13_bitCount_95d88 : GoodIn wsX4_intervals (va_wsS RX4 78 yJ13_bitCount_95d88 wsJ13_bitCount_95d88) := goodIn_app (goodIn_of _ (by decide +kernel)) ggX4_intervals_J13_bitCount_95d88
set_option maxRecDepth 20000 in
theorem ggX4_overlapping_X4_requireThere : GoodIn wsX4_overlapping wsX4_requireThere := goodIn_ca (goodIn_r _ [5, 6, 7, 8, 9, 10, 11, 4, 12, 13, 14, 15, 23, 24, 25, 26, 27, 28, 29, 30, 31, 32, 33, 34] (by decide +kernel) (by decide +kernel)) (goodIn_sub (fun _ h => List.mem_cons_of_mem _ (List.mem_append_right _ h)) (by decide +kernel))
set_option maxRecDepth 20000 in
theorem gX4_overlapping_X4_requireThere : GoodIn wsX4_overlapping (wsV RX4 69 RX4 yX4_requireThere wsX4_requireThere) := goodIn_app (goodIn_of _ (by decide +kernel)) ggX4_overlapping_X4_requireThere
set_option maxRecDepth 20000 in
theorem ggX4_overlapping_X4_othersMeeting : GoodIn wsX4_overlapping wsX4_othersMeeting := goodIn_r _ [19, 8, 20, 21, 9, 22, 13, 14, 4, 15, 23, 24, 25, 26, 27, 28, 29, 30, 31, 32, 33, 34] (by decide +kernel) (by decide +kernel)
set_option maxRecDepth 20000 in
theorem gX4_overlapping_X4_othersMeeting : GoodIn wsX4_overlapping (wsV RX4 90 RX4 yX4_othersMeeting wsX4_othersMeeting) := goodIn_app (goodIn_of _ (by decide +kernel)) ggX4_overlapping_X4_othersMeeting
set_option maxRecDepth 20000 in
theorem ggX4_rooms_X4_leastDeepestTime : GoodIn wsX4_rooms wsX4_leastDeepestTime := goodIn_r _ [5, 6, 7, 8, 9, 10, 4, 11, 12, 13, 14, 15, 16, 17, 18, 19, 20, 21, 22, 23, 24, 25, 26, 27, 28, 29, 30, 31] (by decide +kernel) (by decide +kernel)
set_option maxRecDepth 20000 in
theorem gX4_rooms_X4_leastDeepestTime : GoodIn wsX4_rooms (wsV RX4 93 RX4 yX4_leastDeepestTime wsX4_leastDeepestTime) := goodIn_app (goodIn_of _ (by decide +kernel)) ggX4_rooms_X4_leastDeepestTime
set_option maxRecDepth 20000 in
theorem ggX4_rooms_X4_depthAt : GoodIn wsX4_rooms wsX4_depthAt := goodIn_r _ [18, 6, 8, 7, 19, 9, 10, 4, 11, 12, 13, 14, 20, 21, 22, 23, 24, 25, 26, 27, 28, 29, 30, 31] (by decide +kernel) (by decide +kernel)
set_option maxRecDepth 20000 in
theorem gX4_rooms_X4_depthAt : GoodIn wsX4_rooms (wsV RX4 97 RX4 yX4_depthAt wsX4_depthAt) := goodIn_app (goodIn_of _ (by decide +kernel)) ggX4_rooms_X4_depthAt
set_option maxRecDepth 20000 in
theorem ggX4_roomOf_X4_requireThere : GoodIn wsX4_roomOf wsX4_requireThere := goodIn_ca (goodIn_r _ [7, 8, 9, 10, 2, 11, 12, 6, 13, 14, 15, 16, 62, 63, 64, 65, 66, 67, 68, 69, 70, 71, 72, 73] (by decide +kernel) (by decide +kernel)) (goodIn_sub (fun _ h => List.mem_cons_of_mem _ (List.mem_append_right _ h)) (by decide +kernel))
set_option maxRecDepth 20000 in
theorem gX4_roomOf_X4_requireThere : GoodIn wsX4_roomOf (wsV RX4 69 RX4 yX4_requireThere wsX4_requireThere) := goodIn_app (goodIn_of _ (by decide +kernel)) ggX4_roomOf_X4_requireThere
set_option maxRecDepth 20000 in
theorem ggX4_roomOf_X4_fill : GoodIn wsX4_roomOf wsX4_fill := goodIn_r _ [20, 10, 21, 22, 23, 24, 25, 26, 27, 28, 29, 11, 12, 6, 13, 14, 15, 16, 30, 31, 32, 33, 34, 35, 36, 37, 38, 39, 40, 41, 42, 43, 44, 45, 46, 62, 63, 64, 65, 66, 67, 68, 69, 70, 71, 72, 73, 76, 77, 78, 79, 80, 81] (by decide +kernel) (by decide +kernel)
set_option maxRecDepth 20000 in
theorem gX4_roomOf_X4_fill : GoodIn wsX4_roomOf (wsV RX4 104 RX4 yX4_fill wsX4_fill) := goodIn_app (goodIn_of _ (by decide +kernel)) ggX4_roomOf_X4_fill
set_option maxRecDepth 20000 in
theorem ggX4_roomOf_X0_givenTo : GoodIn wsX4_roomOf wsX0_givenTo := goodIn_r _ [51, 52, 53, 54, 55, 56, 50, 57, 58, 59, 60, 61, 74, 75, 76, 77, 78, 79, 80, 81] (by decide +kernel) (by decide +kernel)
set_option maxRecDepth 20000 in
theorem gX4_roomOf_X0_givenTo : GoodIn wsX4_roomOf (wsV RX4 108 RX0 yX0_givenTo wsX0_givenTo) := goodIn_app (goodIn_of _ (by decide +kernel)) ggX4_roomOf_X0_givenTo
set_option maxRecDepth 20000 in
theorem ggX4_depth_X4_depthAt : GoodIn wsX4_depth wsX4_depthAt := goodIn_r _ [7, 8, 9, 10, 11, 12, 13, 6, 14, 15, 16, 17, 18, 19, 20, 21, 22, 23, 24, 25, 26, 27, 28, 29] (by decide +kernel) (by decide +kernel)
set_option maxRecDepth 20000 in
theorem gX4_depth_X4_depthAt : GoodIn wsX4_depth (wsV RX4 97 RX4 yX4_depthAt wsX4_depthAt) := goodIn_app (goodIn_of _ (by decide +kernel)) ggX4_depth_X4_depthAt
set_option maxRecDepth 20000 in
theorem ggX4_busiest_X4_leastDeepestTime : GoodIn wsX4_busiest wsX4_leastDeepestTime := goodIn_r _ [5, 6, 7, 8, 9, 10, 4, 11, 12, 13, 14, 15, 16, 17, 18, 19, 20, 21, 22, 23, 24, 25, 26, 27, 28, 29, 30, 31] (by decide +kernel) (by decide +kernel)
set_option maxRecDepth 20000 in
theorem gX4_busiest_X4_leastDeepestTime : GoodIn wsX4_busiest (wsV RX4 93 RX4 yX4_leastDeepestTime wsX4_leastDeepestTime) := goodIn_app (goodIn_of _ (by decide +kernel)) ggX4_busiest_X4_leastDeepestTime
set_option maxRecDepth 20000 in
theorem ggX4_earliest_X4_fits : GoodIn wsX4_earliest wsX4_fits := goodIn_r _ [7, 8, 9, 10, 11, 12, 6, 13, 14, 15, 16, 17, 18, 19, 20, 21, 26, 27, 28, 29, 30, 31, 32, 33, 34, 35, 36, 37] (by decide +kernel) (by decide +kernel)
set_option maxRecDepth 20000 in
theorem gX4_earliest_X4_fits : GoodIn wsX4_earliest (wsV RX4 117 RX4 yX4_fits wsX4_fits) := goodIn_app (goodIn_of _ (by decide +kernel)) ggX4_earliest_X4_fits
set_option maxRecDepth 20000 in
theorem ggX4_earliest_X4_earliestEndThatFits : GoodIn wsX4_earliest wsX4_earliestEndThatFits := goodIn_r _ [25, 8, 15, 14, 16, 17, 6, 18, 19, 20, 21, 3, 4, 5, 7, 9, 10, 11, 12, 13, 26, 27, 28, 29, 30, 31, 32, 33, 34, 35, 36, 37] (by decide +kernel) (by decide +kernel)
set_option maxRecDepth 20000 in
theorem gX4_earliest_X4_earliestEndThatFits : GoodIn wsX4_earliest (wsV RX4 121 RX4 yX4_earliestEndThatFits wsX4_earliestEndThatFits) := goodIn_app (goodIn_of _ (by decide +kernel)) ggX4_earliest_X4_earliestEndThatFits
set_option maxRecDepth 20000 in
theorem ggX4_heaviest_X4_heaviestForOne : GoodIn wsX4_heaviest wsX4_heaviestForOne := goodIn_r _ [6, 7, 8, 9, 10, 5, 11, 12, 13, 14, 15, 16, 17, 18, 19, 20, 21, 22, 23, 24, 25, 26, 27, 28, 29, 30, 31, 32, 33, 34, 35, 36, 37, 38, 39, 40, 41, 42, 43, 44, 45, 46, 47, 48, 49, 50, 51, 52, 53, 54, 55, 56, 57, 58, 59, 60, 61, 62, 63, 64, 65, 66, 67, 68, 69, 70, 71, 72, 73, 74, 75, 76, 77, 78, 79] (by decide +kernel) (by decide +kernel)
set_option maxRecDepth 20000 in
theorem gX4_heaviest_X4_heaviestForOne : GoodIn wsX4_heaviest (wsV RX4 125 RX4 yX4_heaviestForOne wsX4_heaviestForOne) := goodIn_app (goodIn_of _ (by decide +kernel)) ggX4_heaviest_X4_heaviestForOne
set_option maxRecDepth 20000 in
theorem ggX4_chosen_X4_fill : GoodIn wsX4_chosen wsX4_fill := goodIn_r _ [7, 8, 9, 10, 11, 12, 13, 14, 15, 16, 17, 18, 19, 6, 20, 21, 22, 23, 24, 25, 26, 27, 28, 29, 30, 31, 32, 33, 34, 35, 36, 37, 38, 39, 40, 60, 61, 62, 63, 64, 65, 66, 67, 68, 69, 70, 71, 74, 75, 76, 77, 78, 79] (by decide +kernel) (by decide +kernel)
set_option maxRecDepth 20000 in
theorem gX4_chosen_X4_fill : GoodIn wsX4_chosen (wsV RX4 104 RX4 yX4_fill wsX4_fill) := goodIn_app (goodIn_of _ (by decide +kernel)) ggX4_chosen_X4_fill
set_option maxRecDepth 20000 in
theorem ggX4_chosen_X2_chosenSet : GoodIn wsX4_chosen wsX2_chosenSet := goodIn_r _ [45, 46, 47, 48, 49, 50, 44, 51, 52, 53, 54, 55, 56, 57, 58, 59, 22, 6, 23, 72, 73, 74, 75, 76, 77, 78, 79] (by decide +kernel) (by decide +kernel)
set_option maxRecDepth 20000 in
theorem gX4_chosen_X2_chosenSet : GoodIn wsX4_chosen (wsV RX4 129 RX2 yX2_chosenSet wsX2_chosenSet) := goodIn_app (goodIn_of _ (by decide +kernel)) ggX4_chosen_X2_chosenSet
set_option maxRecDepth 20000 in
theorem ggX4_most_X4_fill : GoodIn wsX4_most wsX4_fill := goodIn_r _ [7, 8, 9, 10, 11, 12, 13, 14, 15, 16, 17, 18, 19, 6, 20, 21, 22, 23, 24, 25, 26, 27, 28, 29, 30, 31, 32, 33, 34, 35, 36, 37, 38, 39, 40, 47, 48, 49, 50, 51, 52, 53, 54, 55, 56, 57, 58, 61, 62, 63, 64, 65, 66] (by decide +kernel) (by decide +kernel)
set_option maxRecDepth 20000 in
theorem gX4_most_X4_fill : GoodIn wsX4_most (wsV RX4 104 RX4 yX4_fill wsX4_fill) := goodIn_app (goodIn_of _ (by decide +kernel)) ggX4_most_X4_fill
set_option maxRecDepth 20000 in
theorem ggX4_most_X2_greatestNumber : GoodIn wsX4_most wsX2_greatestNumber := goodIn_r _ [45, 46, 59, 60, 61, 62, 63, 64, 65, 66] (by decide +kernel) (by decide +kernel)
set_option maxRecDepth 20000 in
theorem gX4_most_X2_greatestNumber : GoodIn wsX4_most (wsV RX4 133 RX2 yX2_greatestNumber wsX2_greatestNumber) := goodIn_app (goodIn_of _ (by decide +kernel)) ggX4_most_X2_greatestNumber
set_option maxRecDepth 20000 in
theorem ggX4_heaviestIn_X4_requirePlannedRooms : GoodIn wsX4_heaviestIn wsX4_requirePlannedRooms := goodIn_ca (goodIn_r _ [5, 6, 7] (by decide +kernel) (by decide +kernel)) (goodIn_sub (fun _ h => List.mem_cons_of_mem _ (List.mem_append_right _ h)) (by decide +kernel))
set_option maxRecDepth 20000 in
theorem gX4_heaviestIn_X4_requirePlannedRooms : GoodIn wsX4_heaviestIn (va_wsS RX4 136 yX4_requirePlannedRooms wsX4_requirePlannedRooms) := goodIn_app (goodIn_of _ (by decide +kernel)) ggX4_heaviestIn_X4_requirePlannedRooms
set_option maxRecDepth 20000 in
theorem ggX4_heaviestIn_X4_heaviestForMany : GoodIn wsX4_heaviestIn wsX4_heaviestForMany := goodIn_r _ [11, 12, 13, 14, 15, 4, 16, 17, 18, 19, 20, 21, 22, 23, 24, 25, 26, 27, 28, 29, 30, 31, 32, 33, 34, 35, 36, 37, 38, 39, 40, 41, 42, 43, 44, 45, 46, 47, 48, 49, 50, 51, 52, 53, 54, 55, 56, 57, 58, 59, 60, 61, 62, 63, 64, 65, 66, 67, 68, 69, 70, 71, 72, 73, 74, 75, 76, 77, 78, 79, 80, 81, 82, 83, 84, 85, 86, 87, 88, 89, 90, 91, 92, 93, 94, 95, 96, 97, 98, 99, 100, 101, 102, 103, 104, 105, 106, 107, 108, 109, 110, 111, 112, 113, 114, 115, 116, 117, 118] (by decide +kernel) (by decide +kernel)
set_option maxRecDepth 20000 in
theorem gX4_heaviestIn_X4_heaviestForMany : GoodIn wsX4_heaviestIn (wsV RX4 139 RX4 yX4_heaviestForMany wsX4_heaviestForMany) := goodIn_app (goodIn_of _ (by decide +kernel)) ggX4_heaviestIn_X4_heaviestForMany
set_option maxRecDepth 20000 in
theorem ggX4_lossWithout_X4_requireThere : GoodIn wsX4_lossWithout wsX4_requireThere := goodIn_ca (goodIn_r _ [7, 8, 9, 10, 1, 11, 12, 6, 13, 14, 15, 16, 101, 102, 103, 104, 105, 106, 107, 108, 109, 110, 111, 112] (by decide +kernel) (by decide +kernel)) (goodIn_sub (fun _ h => List.mem_cons_of_mem _ (List.mem_append_left _ (List.mem_append_right _ h))) (by decide +kernel))
set_option maxRecDepth 20000 in
theorem gX4_lossWithout_X4_requireThere : GoodIn wsX4_lossWithout (wsV RX4 69 RX4 yX4_requireThere wsX4_requireThere) := goodIn_app (goodIn_of _ (by decide +kernel)) ggX4_lossWithout_X4_requireThere
set_option maxRecDepth 20000 in
theorem ggX4_lossWithout_X4_requirePlannedRooms : GoodIn wsX4_lossWithout wsX4_requirePlannedRooms := goodIn_ca (goodIn_r _ [19, 20, 21] (by decide +kernel) (by decide +kernel)) (goodIn_sub (fun _ h => List.mem_cons_of_mem _ (List.mem_append_right _ h)) (by decide +kernel))
set_option maxRecDepth 20000 in
theorem gX4_lossWithout_X4_requirePlannedRooms : GoodIn wsX4_lossWithout (va_wsS RX4 136 yX4_requirePlannedRooms wsX4_requirePlannedRooms) := goodIn_app (goodIn_of _ (by decide +kernel)) ggX4_lossWithout_X4_requirePlannedRooms
set_option maxRecDepth 20000 in
theorem ggX4_lossWithout_X4_heaviestForMany : GoodIn wsX4_lossWithout wsX4_heaviestForMany := goodIn_r _ [25, 26, 27, 28, 29, 6, 30, 10, 31, 32, 33, 34, 35, 36, 37, 38, 39, 11, 12, 13, 14, 15, 16, 40, 41, 42, 43, 44, 45, 46, 47, 48, 49, 50, 51, 52, 53, 54, 55, 56, 57, 58, 59, 60, 61, 62, 63, 64, 65, 66, 67, 68, 69, 70, 71, 72, 73, 74, 75, 76, 77, 78, 79, 80, 81, 82, 83, 84, 85, 86, 87, 88, 89, 90, 91, 92, 93, 94, 95, 96, 97, 98, 99, 100, 101, 102, 103, 104, 105, 106, 107, 108, 109, 110, 111, 112, 113, 114, 115, 116, 117, 118, 119, 120, 121, 122, 123, 124, 125] (by decide +kernel) (by decide +kernel)
set_option maxRecDepth 20000 in
theorem gX4_lossWithout_X4_heaviestForMany : GoodIn wsX4_lossWithout (wsV RX4 139 RX4 yX4_heaviestForMany wsX4_heaviestForMany) := goodIn_app (goodIn_of _ (by decide +kernel)) ggX4_lossWithout_X4_heaviestForMany
set_option maxRecDepth 20000 in
theorem ggX4_lossWithout_X4_only : GoodIn wsX4_lossWithout wsX4_only := goodIn_r _ [16] (by decide +kernel) (by decide +kernel)
set_option maxRecDepth 20000 in
theorem gX4_lossWithout_X4_only : GoodIn wsX4_lossWithout (va_wsS RX4 65 yX4_only wsX4_only) := goodIn_app (goodIn_of _ (by decide +kernel)) ggX4_lossWithout_X4_only
set_option maxRecDepth 20000 in
theorem ggX4_openDesk_X4_weightOf : GoodIn wsX4_openDesk wsX4_weightOf := goodIn_r _ [11, 12, 13, 14, 15, 10, 16, 17, 18, 19, 20, 21, 22, 23, 24, 25, 26, 27, 28, 29, 30, 31] (by decide +kernel) (by decide +kernel)
set_option maxRecDepth 20000 in
theorem gX4_openDesk_X4_weightOf : GoodIn wsX4_openDesk (wsV RX4 145 RX4 yX4_weightOf wsX4_weightOf) := goodIn_app (goodIn_of _ (by decide +kernel)) ggX4_openDesk_X4_weightOf
set_option maxRecDepth 20000 in
theorem ggX4_offer_X4_requireThere : GoodIn wsX4_offer wsX4_requireThere := goodIn_ca (goodIn_r _ [13, 14, 15, 16, 17, 18, 19, 12, 20, 21, 22, 23, 34, 35, 36, 37, 38, 39, 40, 41, 42, 43, 44, 45] (by decide +kernel) (by decide +kernel)) (goodIn_sub (fun _ h => List.mem_cons_of_mem _ (List.mem_append_right _ h)) (by decide +kernel))
set_option maxRecDepth 20000 in
theorem gX4_offer_X4_requireThere : GoodIn wsX4_offer (wsV RX4 69 RX4 yX4_requireThere wsX4_requireThere) := goodIn_app (goodIn_of _ (by decide +kernel)) ggX4_offer_X4_requireThere
set_option maxRecDepth 20000 in
theorem ggX4_offer_X4_contains : GoodIn wsX4_offer wsX4_contains := goodIn_r _ [20, 21, 22, 12, 23] (by decide +kernel) (by decide +kernel)
set_option maxRecDepth 20000 in
theorem gX4_offer_X4_contains : GoodIn wsX4_offer (va_wsS RX4 154 yX4_contains wsX4_contains) := goodIn_app (goodIn_of _ (by decide +kernel)) ggX4_offer_X4_contains
set_option maxRecDepth 20000 in
theorem ggX4_offer_X4_only : GoodIn wsX4_offer wsX4_only := goodIn_r _ [23] (by decide +kernel) (by decide +kernel)
set_option maxRecDepth 20000 in
theorem gX4_offer_X4_only : GoodIn wsX4_offer (va_wsS RX4 65 yX4_only wsX4_only) := goodIn_app (goodIn_of _ (by decide +kernel)) ggX4_offer_X4_only
set_option maxRecDepth 20000 in
theorem ggX4_offer_X4_othersMeeting : GoodIn wsX4_offer wsX4_othersMeeting := goodIn_r _ [27, 16, 28, 29, 17, 7, 21, 22, 12, 23, 34, 35, 36, 37, 38, 39, 40, 41, 42, 43, 44, 45] (by decide +kernel) (by decide +kernel)
set_option maxRecDepth 20000 in
theorem gX4_offer_X4_othersMeeting : GoodIn wsX4_offer (wsV RX4 90 RX4 yX4_othersMeeting wsX4_othersMeeting) := goodIn_app (goodIn_of _ (by decide +kernel)) ggX4_offer_X4_othersMeeting
set_option maxRecDepth 20000 in
theorem ggX4_offer_X4_weightOf : GoodIn wsX4_offer wsX4_weightOf := goodIn_r _ [33, 16, 5, 18, 19, 12, 20, 21, 22, 23, 34, 35, 36, 37, 38, 39, 40, 41, 42, 43, 44, 45] (by decide +kernel) (by decide +kernel)
set_option maxRecDepth 20000 in
theorem gX4_offer_X4_weightOf : GoodIn wsX4_offer (wsV RX4 145 RX4 yX4_weightOf wsX4_weightOf) := goodIn_app (goodIn_of _ (by decide +kernel)) ggX4_offer_X4_weightOf
set_option maxRecDepth 20000 in
theorem ggX4_acceptedWeight_X4_weightOf : GoodIn wsX4_acceptedWeight wsX4_weightOf := goodIn_r _ [6, 7, 8, 9, 10, 5, 11, 12, 13, 14, 15, 16, 17, 18, 19, 20, 21, 22, 23, 24, 25, 26] (by decide +kernel) (by decide +kernel)
set_option maxRecDepth 20000 in
theorem gX4_acceptedWeight_X4_weightOf : GoodIn wsX4_acceptedWeight (wsV RX4 145 RX4 yX4_weightOf wsX4_weightOf) := goodIn_app (goodIn_of _ (by decide +kernel)) ggX4_acceptedWeight_X4_weightOf
set_option maxRecDepth 20000 in
theorem ggX4_bestOfOffered_X4_heaviestForOne : GoodIn wsX4_bestOfOffered wsX4_heaviestForOne := goodIn_r _ [7, 8, 9, 10, 11, 6, 12, 13, 14, 15, 16, 17, 18, 19, 20, 21, 22, 23, 24, 25, 26, 27, 28, 29, 30, 31, 32, 33, 34, 35, 36, 37, 38, 39, 40, 41, 42, 43, 44, 45, 46, 47, 48, 49, 50, 51, 52, 53, 54, 55, 56, 57, 58, 59, 60, 61, 62, 63, 64, 65, 66, 67, 68, 69, 70, 71, 72, 73, 74, 75, 76, 77, 78, 79, 80] (by decide +kernel) (by decide +kernel)
set_option maxRecDepth 20000 in
theorem gX4_bestOfOffered_X4_heaviestForOne : GoodIn wsX4_bestOfOffered (wsV RX4 125 RX4 yX4_heaviestForOne wsX4_heaviestForOne) := goodIn_app (goodIn_of _ (by decide +kernel)) ggX4_bestOfOffered_X4_heaviestForOne
set_option maxRecDepth 20000 in
theorem ggX4_depthRound_X4_requireCircle : GoodIn wsX4_depthRound wsX4_requireCircle := goodIn_ca (goodIn_ca (goodIn_r _ [12, 13, 14, 15, 16, 1, 2, 17, 18, 11, 19, 20, 21, 22, 23, 24, 25, 26, 27, 3, 39, 40, 41, 42, 43, 44, 45, 46, 47, 48, 49, 50] (by decide +kernel) (by decide +kernel)) (goodIn_sub (fun _ h => List.mem_cons_of_mem _ (List.mem_append_left _ (List.mem_append_right _ h))) (by decide +kernel))) (goodIn_sub (fun _ h => List.mem_cons_of_mem _ (List.mem_append_right _ h)) (by decide +kernel))
set_option maxRecDepth 20000 in
theorem gX4_depthRound_X4_requireCircle : GoodIn wsX4_depthRound (wsV RX4 160 RX4 yX4_requireCircle wsX4_requireCircle) := goodIn_app (goodIn_of _ (by decide +kernel)) ggX4_depthRound_X4_requireCircle
set_option maxRecDepth 20000 in
theorem ggX4_depthRound_X4_contains : GoodIn wsX4_depthRound wsX4_contains := goodIn_r _ [19, 20, 21, 11, 22] (by decide +kernel) (by decide +kernel)
set_option maxRecDepth 20000 in
theorem gX4_depthRound_X4_contains : GoodIn wsX4_depthRound (va_wsS RX4 154 yX4_contains wsX4_contains) := goodIn_app (goodIn_of _ (by decide +kernel)) ggX4_depthRound_X4_contains
set_option maxRecDepth 20000 in
theorem ggX4_depthRound_X4_depthOnCircle : GoodIn wsX4_depthRound wsX4_depthOnCircle := goodIn_r _ [31, 1, 2, 3, 17, 18, 11, 19, 20, 21, 22, 32, 33, 34, 35, 36, 37, 38, 23, 24, 25, 26, 27, 39, 40, 41, 42, 43, 44, 45, 46, 47, 48, 49, 50] (by decide +kernel) (by decide +kernel)
set_option maxRecDepth 20000 in
theorem gX4_depthRound_X4_depthOnCircle : GoodIn wsX4_depthRound (wsV RX4 163 RX4 yX4_depthOnCircle wsX4_depthOnCircle) := goodIn_app (goodIn_of _ (by decide +kernel)) ggX4_depthRound_X4_depthOnCircle
set_option maxRecDepth 20000 in
theorem ggX4_heaviestRound_X4_requireCircle : GoodIn wsX4_heaviestRound wsX4_requireCircle := goodIn_ca (goodIn_ca (goodIn_r _ [13, 14, 15, 16, 17, 1, 2, 18, 19, 12, 20, 21, 22, 23, 24, 25, 26, 27, 28, 3, 84, 85, 86, 87, 88, 89, 90, 91, 92, 93, 94, 95] (by decide +kernel) (by decide +kernel)) (goodIn_sub (fun _ h => List.mem_cons_of_mem _ (List.mem_append_left _ (List.mem_append_right _ h))) (by decide +kernel))) (goodIn_sub (fun _ h => List.mem_cons_of_mem _ (List.mem_append_right _ h)) (by decide +kernel))
set_option maxRecDepth 20000 in
theorem gX4_heaviestRound_X4_requireCircle : GoodIn wsX4_heaviestRound (wsV RX4 160 RX4 yX4_requireCircle wsX4_requireCircle) := goodIn_app (goodIn_of _ (by decide +kernel)) ggX4_heaviestRound_X4_requireCircle
set_option maxRecDepth 20000 in
theorem ggX4_heaviestRound_X4_heaviestBeside : GoodIn wsX4_heaviestRound wsX4_heaviestBeside := goodIn_r _ [32, 33, 34, 35, 36, 12, 37, 1, 3, 2, 4, 38, 39, 40, 41, 42, 43, 44, 45, 46, 47, 48, 49, 50, 24, 25, 26, 27, 28, 18, 19, 20, 21, 22, 23, 51, 52, 53, 54, 55, 56, 57, 58, 59, 60, 61, 62, 63, 64, 65, 66, 67, 68, 69, 70, 71, 72, 73, 74, 75, 6, 7, 8, 76, 77, 78, 79, 84, 85, 86, 87, 88, 89, 90, 91, 92, 93, 94, 95, 96, 97, 98, 99, 100, 101, 102, 103] (by decide +kernel) (by decide +kernel)
set_option maxRecDepth 20000 in
theorem gX4_heaviestRound_X4_heaviestBeside : GoodIn wsX4_heaviestRound (wsV RX4 171 RX4 yX4_heaviestBeside wsX4_heaviestBeside) := goodIn_app (goodIn_of _ (by decide +kernel)) ggX4_heaviestRound_X4_heaviestBeside
set_option maxRecDepth 20000 in
theorem ggX4_heaviestRound_X4_contains : GoodIn wsX4_heaviestRound wsX4_contains := goodIn_r _ [20, 21, 22, 12, 23] (by decide +kernel) (by decide +kernel)
set_option maxRecDepth 20000 in
theorem gX4_heaviestRound_X4_contains : GoodIn wsX4_heaviestRound (va_wsS RX4 154 yX4_contains wsX4_contains) := goodIn_app (goodIn_of _ (by decide +kernel)) ggX4_heaviestRound_X4_contains
set_option maxRecDepth 20000 in
theorem ggX4_heaviestRound_X4_runsPastTurn : GoodIn wsX4_heaviestRound wsX4_runsPastTurn := goodIn_r _ [83, 3, 44, 45, 12, 46, 47, 48, 49, 50, 24, 25, 26, 27, 28, 84, 85, 86, 87, 88, 89, 90, 91, 92, 93, 94, 95] (by decide +kernel) (by decide +kernel)
set_option maxRecDepth 20000 in
theorem gX4_heaviestRound_X4_runsPastTurn : GoodIn wsX4_heaviestRound (wsV RX4 175 RX4 yX4_runsPastTurn wsX4_runsPastTurn) := goodIn_app (goodIn_of _ (by decide +kernel)) ggX4_heaviestRound_X4_runsPastTurn
set_option maxRecDepth 20000 in
theorem ggX4_heaviestRound_X4_lengthOf : GoodIn wsX4_heaviestRound wsX4_lengthOf := goodIn_r _ [27, 28, 3, 84, 85, 86, 87, 88, 89, 90, 91, 92, 93, 94, 95] (by decide +kernel) (by decide +kernel)
set_option maxRecDepth 20000 in
theorem gX4_heaviestRound_X4_lengthOf : GoodIn wsX4_heaviestRound (wsV RX4 84 RX4 yX4_lengthOf wsX4_lengthOf) := goodIn_app (goodIn_of _ (by decide +kernel)) ggX4_heaviestRound_X4_lengthOf
set_option maxRecDepth 20000 in
theorem ggX4_requireThere_X4_contains : GoodIn wsX4_requireThere wsX4_contains := goodIn_r _ [8, 9, 10, 7, 11] (by decide +kernel) (by decide +kernel)
set_option maxRecDepth 20000 in
theorem gX4_requireThere_X4_contains : GoodIn wsX4_requireThere (va_wsS RX4 154 yX4_contains wsX4_contains) := goodIn_app (goodIn_of _ (by decide +kernel)) ggX4_requireThere_X4_contains
set_option maxRecDepth 20000 in
theorem ggX4_requireCircle_X4_contains : GoodIn wsX4_requireCircle wsX4_contains := goodIn_r _ [10, 11, 12, 9, 13] (by decide +kernel) (by decide +kernel)
set_option maxRecDepth 20000 in
theorem gX4_requireCircle_X4_contains : GoodIn wsX4_requireCircle (va_wsS RX4 154 yX4_contains wsX4_contains) := goodIn_app (goodIn_of _ (by decide +kernel)) ggX4_requireCircle_X4_contains
set_option maxRecDepth 20000 in
theorem ggX4_requireCircle_X4_lengthOf : GoodIn wsX4_requireCircle wsX4_lengthOf := goodIn_r _ [17, 18, 19, 20, 21, 22, 23, 24, 25, 26, 27, 28, 29, 30, 31] (by decide +kernel) (by decide +kernel)
set_option maxRecDepth 20000 in
theorem gX4_requireCircle_X4_lengthOf : GoodIn wsX4_requireCircle (wsV RX4 84 RX4 yX4_lengthOf wsX4_lengthOf) := goodIn_app (goodIn_of _ (by decide +kernel)) ggX4_requireCircle_X4_lengthOf
set_option maxRecDepth 20000 in
theorem ggX4_contains_X4_only : GoodIn wsX4_contains wsX4_only := goodIn_r _ [4] (by decide +kernel) (by decide +kernel)
set_option maxRecDepth 20000 in
theorem gX4_contains_X4_only : GoodIn wsX4_contains (va_wsS RX4 65 yX4_only wsX4_only) := goodIn_app (goodIn_of _ (by decide +kernel)) ggX4_contains_X4_only
set_option maxRecDepth 20000 in
theorem ggX4_weightOf_X4_contains : GoodIn wsX4_weightOf wsX4_contains := goodIn_r _ [6, 7, 8, 5, 9] (by decide +kernel) (by decide +kernel)
set_option maxRecDepth 20000 in
theorem gX4_weightOf_X4_contains : GoodIn wsX4_weightOf (va_wsS RX4 154 yX4_contains wsX4_contains) := goodIn_app (goodIn_of _ (by decide +kernel)) ggX4_weightOf_X4_contains
set_option maxRecDepth 20000 in
theorem ggX4_othersMeeting_X4_only : GoodIn wsX4_othersMeeting wsX4_only := goodIn_r _ [9] (by decide +kernel) (by decide +kernel)
set_option maxRecDepth 20000 in
theorem gX4_othersMeeting_X4_only : GoodIn wsX4_othersMeeting (va_wsS RX4 65 yX4_only wsX4_only) := goodIn_app (goodIn_of _ (by decide +kernel)) ggX4_othersMeeting_X4_only
set_option maxRecDepth 20000 in
theorem ggX4_depthAt_X4_contains : GoodIn wsX4_depthAt wsX4_contains := goodIn_r _ [8, 9, 10, 7, 11] (by decide +kernel) (by decide +kernel)
set_option maxRecDepth 20000 in
theorem gX4_depthAt_X4_contains : GoodIn wsX4_depthAt (va_wsS RX4 154 yX4_contains wsX4_contains) := goodIn_app (goodIn_of _ (by decide +kernel)) ggX4_depthAt_X4_contains
set_option maxRecDepth 20000 in
theorem ggX4_leastDeepestTime_X4_contains : GoodIn wsX4_leastDeepestTime wsX4_contains := goodIn_r _ [7, 8, 9, 6, 10] (by decide +kernel) (by decide +kernel)
set_option maxRecDepth 20000 in
theorem gX4_leastDeepestTime_X4_contains : GoodIn wsX4_leastDeepestTime (va_wsS RX4 154 yX4_contains wsX4_contains) := goodIn_app (goodIn_of _ (by decide +kernel)) ggX4_leastDeepestTime_X4_contains
set_option maxRecDepth 20000 in
theorem ggX4_leastDeepestTime_X4_depthAt : GoodIn wsX4_leastDeepestTime wsX4_depthAt := goodIn_r _ [14, 1, 3, 2, 15, 4, 5, 6, 7, 8, 9, 10, 16, 17, 18, 19, 20, 21, 22, 23, 24, 25, 26, 27] (by decide +kernel) (by decide +kernel)
set_option maxRecDepth 20000 in
theorem gX4_leastDeepestTime_X4_depthAt : GoodIn wsX4_leastDeepestTime (wsV RX4 97 RX4 yX4_depthAt wsX4_depthAt) := goodIn_app (goodIn_of _ (by decide +kernel)) ggX4_leastDeepestTime_X4_depthAt
set_option maxRecDepth 20000 in
theorem ggX4_earliestEndThatFits_X4_contains : GoodIn wsX4_earliestEndThatFits wsX4_contains := goodIn_r _ [7, 8, 9, 6, 10] (by decide +kernel) (by decide +kernel)
set_option maxRecDepth 20000 in
theorem gX4_earliestEndThatFits_X4_contains : GoodIn wsX4_earliestEndThatFits (va_wsS RX4 154 yX4_contains wsX4_contains) := goodIn_app (goodIn_of _ (by decide +kernel)) ggX4_earliestEndThatFits_X4_contains
set_option maxRecDepth 20000 in
theorem ggX4_earliestEndThatFits_X4_fits : GoodIn wsX4_earliestEndThatFits wsX4_fits := goodIn_r _ [14, 1, 15, 16, 17, 18, 6, 19, 3, 2, 4, 5, 7, 8, 9, 10, 20, 21, 22, 23, 24, 25, 26, 27, 28, 29, 30, 31] (by decide +kernel) (by decide +kernel)
set_option maxRecDepth 20000 in
theorem gX4_earliestEndThatFits_X4_fits : GoodIn wsX4_earliestEndThatFits (wsV RX4 117 RX4 yX4_fits wsX4_fits) := goodIn_app (goodIn_of _ (by decide +kernel)) ggX4_earliestEndThatFits_X4_fits
set_option maxRecDepth 20000 in
theorem ggX4_fits_X4_depthAt : GoodIn wsX4_fits wsX4_depthAt := goodIn_r _ [7, 1, 8, 2, 9, 10, 11, 6, 12, 13, 14, 15, 16, 17, 18, 19, 20, 21, 22, 23, 24, 25, 26, 27] (by decide +kernel) (by decide +kernel)
set_option maxRecDepth 20000 in
theorem gX4_fits_X4_depthAt : GoodIn wsX4_fits (wsV RX4 97 RX4 yX4_depthAt wsX4_depthAt) := goodIn_app (goodIn_of _ (by decide +kernel)) ggX4_fits_X4_depthAt
set_option maxRecDepth 20000 in
theorem ggX4_fill_X3_clear : GoodIn wsX4_fill wsX3_clear := goodIn_r _ [9, 10, 47, 48, 49, 50, 51, 52] (by decide +kernel) (by decide +kernel)
set_option maxRecDepth 20000 in
theorem gX4_fill_X3_clear : GoodIn wsX4_fill (wsV RX4 188 RX3 yX3_clear wsX3_clear) := goodIn_app (goodIn_of _ (by decide +kernel)) ggX4_fill_X3_clear
set_option maxRecDepth 20000 in
theorem ggX4_fill_X4_contains : GoodIn wsX4_fill wsX4_contains := goodIn_r _ [14, 15, 16, 13, 17] (by decide +kernel) (by decide +kernel)
set_option maxRecDepth 20000 in
theorem gX4_fill_X4_contains : GoodIn wsX4_fill (va_wsS RX4 154 yX4_contains wsX4_contains) := goodIn_app (goodIn_of _ (by decide +kernel)) ggX4_fill_X4_contains
set_option maxRecDepth 20000 in
theorem ggX4_fill_X3_put : GoodIn wsX4_fill wsX3_put := goodIn_r _ [21, 10, 22, 23, 24, 25, 26, 27, 28, 8, 29, 30, 31, 32, 33, 34, 47, 48, 49, 50, 51, 52] (by decide +kernel) (by decide +kernel)
set_option maxRecDepth 20000 in
theorem gX4_fill_X3_put : GoodIn wsX4_fill (wsV RX4 193 RX3 yX3_put wsX3_put) := goodIn_app (goodIn_of _ (by decide +kernel)) ggX4_fill_X3_put
set_option maxRecDepth 20000 in
theorem ggX4_fillBeside_X3_clear : GoodIn wsX4_fillBeside wsX3_clear := goodIn_r _ [10, 11, 62, 63, 64, 65, 66, 67] (by decide +kernel) (by decide +kernel)
set_option maxRecDepth 20000 in
theorem gX4_fillBeside_X3_clear : GoodIn wsX4_fillBeside (wsV RX4 188 RX3 yX3_clear wsX3_clear) := goodIn_app (goodIn_of _ (by decide +kernel)) ggX4_fillBeside_X3_clear
set_option maxRecDepth 20000 in
theorem ggX4_fillBeside_X4_turned : GoodIn wsX4_fillBeside wsX4_turned := goodIn_r _ [15, 16, 17, 18, 19] (by decide +kernel) (by decide +kernel)
set_option maxRecDepth 20000 in
theorem gX4_fillBeside_X4_turned : GoodIn wsX4_fillBeside (va_wsS RX4 197 yX4_turned wsX4_turned) := goodIn_app (goodIn_of _ (by decide +kernel)) ggX4_fillBeside_X4_turned
set_option maxRecDepth 20000 in
theorem ggX4_fillBeside_X4_lengthOf : GoodIn wsX4_fillBeside wsX4_lengthOf := goodIn_r _ [23, 24, 3, 48, 49, 50, 51, 52, 53, 54, 55, 56, 57, 58, 59] (by decide +kernel) (by decide +kernel)
set_option maxRecDepth 20000 in
theorem gX4_fillBeside_X4_lengthOf : GoodIn wsX4_fillBeside (wsV RX4 84 RX4 yX4_lengthOf wsX4_lengthOf) := goodIn_app (goodIn_of _ (by decide +kernel)) ggX4_fillBeside_X4_lengthOf
set_option maxRecDepth 20000 in
theorem ggX4_fillBeside_X4_contains : GoodIn wsX4_fillBeside wsX4_contains := goodIn_r _ [27, 28, 29, 14, 30] (by decide +kernel) (by decide +kernel)
set_option maxRecDepth 20000 in
theorem gX4_fillBeside_X4_contains : GoodIn wsX4_fillBeside (va_wsS RX4 154 yX4_contains wsX4_contains) := goodIn_app (goodIn_of _ (by decide +kernel)) ggX4_fillBeside_X4_contains
set_option maxRecDepth 20000 in
theorem ggX4_fillBeside_X3_put : GoodIn wsX4_fillBeside wsX3_put := goodIn_r _ [34, 11, 35, 36, 37, 38, 39, 40, 41, 9, 42, 43, 44, 45, 46, 47, 62, 63, 64, 65, 66, 67] (by decide +kernel) (by decide +kernel)
set_option maxRecDepth 20000 in
theorem gX4_fillBeside_X3_put : GoodIn wsX4_fillBeside (wsV RX4 193 RX3 yX3_put wsX3_put) := goodIn_app (goodIn_of _ (by decide +kernel)) ggX4_fillBeside_X3_put
set_option maxRecDepth 20000 in
theorem ggX4_heaviestForOne_X4_fill : GoodIn wsX4_heaviestForOne wsX4_fill := goodIn_r _ [6, 7, 8, 9, 10, 11, 12, 13, 14, 15, 16, 17, 18, 5, 19, 20, 21, 22, 23, 24, 25, 26, 27, 28, 29, 30, 31, 32, 33, 34, 35, 36, 37, 38, 39, 55, 56, 57, 58, 59, 60, 61, 62, 63, 64, 65, 66, 69, 70, 71, 72, 73, 74] (by decide +kernel) (by decide +kernel)
set_option maxRecDepth 20000 in
theorem gX4_heaviestForOne_X4_fill : GoodIn wsX4_heaviestForOne (wsV RX4 104 RX4 yX4_fill wsX4_fill) := goodIn_app (goodIn_of _ (by decide +kernel)) ggX4_heaviestForOne_X4_fill
set_option maxRecDepth 20000 in
theorem ggX4_heaviestForOne_X2_greatestWeight : GoodIn wsX4_heaviestForOne wsX2_greatestWeight := goodIn_r _ [44, 45, 46, 47, 48, 49, 50, 51, 52, 53, 43, 54, 67, 68, 69, 70, 71, 72, 73, 74] (by decide +kernel) (by decide +kernel)
set_option maxRecDepth 20000 in
theorem gX4_heaviestForOne_X2_greatestWeight : GoodIn wsX4_heaviestForOne (wsV RX4 200 RX2 yX2_greatestWeight wsX2_greatestWeight) := goodIn_app (goodIn_of _ (by decide +kernel)) ggX4_heaviestForOne_X2_greatestWeight
set_option maxRecDepth 20000 in
theorem ggX4_heaviestForMany_X4_fill : GoodIn wsX4_heaviestForMany wsX4_fill := goodIn_r _ [6, 7, 8, 9, 10, 11, 12, 13, 14, 15, 16, 17, 18, 5, 19, 20, 21, 22, 23, 24, 25, 26, 27, 28, 29, 30, 31, 32, 33, 34, 35, 36, 37, 38, 39, 84, 85, 86, 87, 88, 89, 90, 91, 92, 93, 94, 95, 103, 104, 105, 106, 107, 108] (by decide +kernel) (by decide +kernel)
set_option maxRecDepth 20000 in
theorem gX4_heaviestForMany_X4_fill : GoodIn wsX4_heaviestForMany (wsV RX4 104 RX4 yX4_fill wsX4_fill) := goodIn_app (goodIn_of _ (by decide +kernel)) ggX4_heaviestForMany_X4_fill
set_option maxRecDepth 20000 in
theorem ggX4_heaviestForMany_X1_greatestWeight : GoodIn wsX4_heaviestForMany wsX1_greatestWeight := goodIn_r _ [44, 45, 46, 47, 48, 49, 43, 50, 51, 52, 53, 54, 55, 56, 57, 58, 59, 60, 61, 62, 63, 64, 65, 66, 67, 68, 69, 70, 71, 72, 73, 74, 75, 76, 77, 78, 79, 80, 81, 82, 83, 96, 97, 98, 99, 100, 101, 102, 103, 104, 105, 106, 107, 108] (by decide +kernel) (by decide +kernel)
set_option maxRecDepth 20000 in
theorem gX4_heaviestForMany_X1_greatestWeight : GoodIn wsX4_heaviestForMany (wsV RX4 204 RX1 yX1_greatestWeight wsX1_greatestWeight) := goodIn_app (goodIn_of _ (by decide +kernel)) ggX4_heaviestForMany_X1_greatestWeight
set_option maxRecDepth 20000 in
theorem ggX4_heaviestBeside_X4_fillBeside : GoodIn wsX4_heaviestBeside wsX4_fillBeside := goodIn_r _ [6, 1, 7, 8, 9, 10, 11, 12, 13, 14, 15, 16, 17, 18, 5, 19, 20, 21, 22, 23, 24, 25, 26, 27, 28, 29, 30, 31, 32, 33, 34, 35, 36, 37, 38, 39, 40, 41, 42, 43, 44, 45, 46, 47, 48, 49, 50, 51, 67, 68, 69, 70, 71, 72, 73, 74, 75, 76, 77, 78, 79, 80, 81, 82, 83, 84, 85, 86] (by decide +kernel) (by decide +kernel)
set_option maxRecDepth 20000 in
theorem gX4_heaviestBeside_X4_fillBeside : GoodIn wsX4_heaviestBeside (wsV RX4 206 RX4 yX4_fillBeside wsX4_fillBeside) := goodIn_app (goodIn_of _ (by decide +kernel)) ggX4_heaviestBeside_X4_fillBeside
set_option maxRecDepth 20000 in
theorem ggX4_heaviestBeside_X2_greatestWeight : GoodIn wsX4_heaviestBeside wsX2_greatestWeight := goodIn_r _ [56, 57, 58, 59, 60, 61, 62, 63, 64, 65, 55, 66, 79, 80, 81, 82, 83, 84, 85, 86] (by decide +kernel) (by decide +kernel)
set_option maxRecDepth 20000 in
theorem gX4_heaviestBeside_X2_greatestWeight : GoodIn wsX4_heaviestBeside (wsV RX4 200 RX2 yX2_greatestWeight wsX2_greatestWeight) := goodIn_app (goodIn_of _ (by decide +kernel)) ggX4_heaviestBeside_X2_greatestWeight
set_option maxRecDepth 20000 in
theorem ggX4_runsPastTurn_X4_turned : GoodIn wsX4_runsPastTurn wsX4_turned := goodIn_r _ [5, 6, 7, 8, 9] (by decide +kernel) (by decide +kernel)
set_option maxRecDepth 20000 in
theorem gX4_runsPastTurn_X4_turned : GoodIn wsX4_runsPastTurn (va_wsS RX4 197 yX4_turned wsX4_turned) := goodIn_app (goodIn_of _ (by decide +kernel)) ggX4_runsPastTurn_X4_turned
set_option maxRecDepth 20000 in
theorem ggX4_runsPastTurn_X4_lengthOf : GoodIn wsX4_runsPastTurn wsX4_lengthOf := goodIn_r _ [13, 14, 1, 15, 16, 17, 18, 19, 20, 21, 22, 23, 24, 25, 26] (by decide +kernel) (by decide +kernel)
set_option maxRecDepth 20000 in
theorem gX4_runsPastTurn_X4_lengthOf : GoodIn wsX4_runsPastTurn (wsV RX4 84 RX4 yX4_lengthOf wsX4_lengthOf) := goodIn_app (goodIn_of _ (by decide +kernel)) ggX4_runsPastTurn_X4_lengthOf
set_option maxRecDepth 20000 in
theorem ggX4_depthOnCircle_X4_contains : GoodIn wsX4_depthOnCircle wsX4_contains := goodIn_r _ [7, 8, 9, 6, 10] (by decide +kernel) (by decide +kernel)
set_option maxRecDepth 20000 in
theorem gX4_depthOnCircle_X4_contains : GoodIn wsX4_depthOnCircle (va_wsS RX4 154 yX4_contains wsX4_contains) := goodIn_app (goodIn_of _ (by decide +kernel)) ggX4_depthOnCircle_X4_contains
set_option maxRecDepth 20000 in
theorem ggX4_depthOnCircle_X4_turned : GoodIn wsX4_depthOnCircle wsX4_turned := goodIn_r _ [13, 14, 15, 16, 17] (by decide +kernel) (by decide +kernel)
set_option maxRecDepth 20000 in
theorem gX4_depthOnCircle_X4_turned : GoodIn wsX4_depthOnCircle (va_wsS RX4 197 yX4_turned wsX4_turned) := goodIn_app (goodIn_of _ (by decide +kernel)) ggX4_depthOnCircle_X4_turned
set_option maxRecDepth 20000 in
theorem ggX4_depthOnCircle_X4_lengthOf : GoodIn wsX4_depthOnCircle wsX4_lengthOf := goodIn_r _ [21, 22, 3, 23, 24, 25, 26, 27, 28, 29, 30, 31, 32, 33, 34] (by decide +kernel) (by decide +kernel)
set_option maxRecDepth 20000 in
theorem gX4_depthOnCircle_X4_lengthOf : GoodIn wsX4_depthOnCircle (wsV RX4 84 RX4 yX4_lengthOf wsX4_lengthOf) := goodIn_app (goodIn_of _ (by decide +kernel)) ggX4_depthOnCircle_X4_lengthOf
set_option maxRecDepth 20000 in
theorem ggX4_turned_J9_floorMod_7cf53 : GoodIn wsX4_turned wsJ9_floorMod_7cf53 := goodIn_r _ [4] (by decide +kernel) (by decide +kernel)
set_option maxRecDepth 20000 in
theorem gX4_turned_J9_floorMod_7cf53 : GoodIn wsX4_turned (va_wsS RX4 210 yJ9_floorMod_7cf53 wsJ9_floorMod_7cf53) := goodIn_app (goodIn_of _ (by decide +kernel)) ggX4_turned_J9_floorMod_7cf53
set_option maxRecDepth 20000 in
theorem ggX5_is_X5_in : GoodIn wsX5_is wsX5_in := goodIn_r _ [6] (by decide +kernel) (by decide +kernel)
set_option maxRecDepth 20000 in
theorem gX5_is_X5_in : GoodIn wsX5_is (va_wsS RX5 72 yX5_in wsX5_in) := goodIn_app (goodIn_of _ (by decide +kernel)) ggX5_is_X5_in
set_option maxRecDepth 20000 in
theorem ggX5_add_X5_in : GoodIn wsX5_add wsX5_in := goodIn_r _ [9] (by decide +kernel) (by decide +kernel)
set_option maxRecDepth 20000 in
theorem gX5_add_X5_in : GoodIn wsX5_add (va_wsS RX5 72 yX5_in wsX5_in) := goodIn_app (goodIn_of _ (by decide +kernel)) ggX5_add_X5_in
set_option maxRecDepth 20000 in
theorem ggX5_add_X5_goesWell : GoodIn wsX5_add wsX5_goesWell := goodIn_r _ [13, 14, 15, 16, 17, 18, 19, 20, 21, 22, 23, 24, 25, 26, 27, 28, 29, 30, 31, 32, 33, 34, 35, 36] (by decide +kernel) (by decide +kernel)
set_option maxRecDepth 20000 in
theorem gX5_add_X5_goesWell : GoodIn wsX5_add (wsV RX5 76 RX5 yX5_goesWell wsX5_goesWell) := goodIn_app (goodIn_of _ (by decide +kernel)) ggX5_add_X5_goesWell
set_option maxRecDepth 20000 in
theorem ggX5_remove_X5_is : GoodIn wsX5_remove wsX5_is := goodIn_r _ [7, 8, 1, 9, 10, 6, 11, 21, 22, 23, 24, 25, 26, 27, 28, 29, 30, 31, 32, 33, 34, 35, 36, 37, 38, 39, 40, 41, 42] (by decide +kernel) (by decide +kernel)
set_option maxRecDepth 20000 in
theorem gX5_remove_X5_is : GoodIn wsX5_remove (wsV RX5 80 RX5 yX5_is wsX5_is) := goodIn_app (goodIn_of _ (by decide +kernel)) ggX5_remove_X5_is
set_option maxRecDepth 20000 in
theorem ggX5_remove_X5_goesWell : GoodIn wsX5_remove wsX5_goesWell := goodIn_r _ [15, 16, 21, 22, 23, 24, 25, 26, 27, 28, 29, 30, 31, 32, 33, 34, 35, 36, 37, 38, 39, 40, 41, 42] (by decide +kernel) (by decide +kernel)
set_option maxRecDepth 20000 in
theorem gX5_remove_X5_goesWell : GoodIn wsX5_remove (wsV RX5 76 RX5 yX5_goesWell wsX5_goesWell) := goodIn_app (goodIn_of _ (by decide +kernel)) ggX5_remove_X5_goesWell
set_option maxRecDepth 20000 in
theorem ggX5_remove_X5_count : GoodIn wsX5_remove wsX5_count := goodIn_r _ [20, 8, 1, 21, 22, 23, 24, 25, 26, 27, 28, 29, 30, 31, 32, 33, 34, 35, 36, 37, 38, 39, 40, 41, 42] (by decide +kernel) (by decide +kernel)
set_option maxRecDepth 20000 in
theorem gX5_remove_X5_count : GoodIn wsX5_remove (wsV RX5 83 RX5 yX5_count wsX5_count) := goodIn_app (goodIn_of _ (by decide +kernel)) ggX5_remove_X5_count
set_option maxRecDepth 20000 in
theorem ggX5_move_X5_is : GoodIn wsX5_move wsX5_is := goodIn_r _ [8, 9, 10, 11, 12, 7, 13, 19, 20, 21, 22, 23, 24, 25, 26, 27, 28, 29, 30, 31, 32, 33, 34, 35, 36, 37, 38, 39, 40] (by decide +kernel) (by decide +kernel)
set_option maxRecDepth 20000 in
theorem gX5_move_X5_is : GoodIn wsX5_move (wsV RX5 80 RX5 yX5_is wsX5_is) := goodIn_app (goodIn_of _ (by decide +kernel)) ggX5_move_X5_is
set_option maxRecDepth 20000 in
theorem ggX5_move_X5_in : GoodIn wsX5_move wsX5_in := goodIn_r _ [13] (by decide +kernel) (by decide +kernel)
set_option maxRecDepth 20000 in
theorem gX5_move_X5_in : GoodIn wsX5_move (va_wsS RX5 72 yX5_in wsX5_in) := goodIn_app (goodIn_of _ (by decide +kernel)) ggX5_move_X5_in
set_option maxRecDepth 20000 in
theorem ggX5_move_X5_goesWell : GoodIn wsX5_move wsX5_goesWell := goodIn_r _ [17, 18, 19, 20, 21, 22, 23, 24, 25, 26, 27, 28, 29, 30, 31, 32, 33, 34, 35, 36, 37, 38, 39, 40] (by decide +kernel) (by decide +kernel)
set_option maxRecDepth 20000 in
theorem gX5_move_X5_goesWell : GoodIn wsX5_move (wsV RX5 76 RX5 yX5_goesWell wsX5_goesWell) := goodIn_app (goodIn_of _ (by decide +kernel)) ggX5_move_X5_goesWell
set_option maxRecDepth 20000 in
theorem ggX5_intervals_X5_count : GoodIn wsX5_intervals wsX5_count := goodIn_r _ [6, 7, 8, 9, 10, 11, 12, 13, 14, 15, 16, 17, 18, 19, 20, 21, 22, 23, 24, 25, 26, 27, 28, 29, 30] (by decide +kernel) (by decide +kernel)
set_option maxRecDepth 20000 in
theorem gX5_intervals_X5_count : GoodIn wsX5_intervals (wsV RX5 83 RX5 yX5_count wsX5_count) := goodIn_app (goodIn_of _ (by decide +kernel)) ggX5_intervals_X5_count
set_option maxRecDepth 20000 in
theorem ggX5_overlapping_X5_is : GoodIn wsX5_overlapping wsX5_is := goodIn_r _ [7, 1, 2, 8, 9, 6, 10, 22, 23, 24, 25, 26, 27, 28, 29, 30, 31, 32, 33, 34, 35, 36, 37, 38, 39, 40, 41, 42, 43] (by decide +kernel) (by decide +kernel)
set_option maxRecDepth 20000 in
theorem gX5_overlapping_X5_is : GoodIn wsX5_overlapping (wsV RX5 80 RX5 yX5_is wsX5_is) := goodIn_app (goodIn_of _ (by decide +kernel)) ggX5_overlapping_X5_is
set_option maxRecDepth 20000 in
theorem ggX5_overlapping_X5_goesWell : GoodIn wsX5_overlapping wsX5_goesWell := goodIn_r _ [14, 15, 22, 23, 24, 25, 26, 27, 28, 29, 30, 31, 32, 33, 34, 35, 36, 37, 38, 39, 40, 41, 42, 43] (by decide +kernel) (by decide +kernel)
set_option maxRecDepth 20000 in
theorem gX5_overlapping_X5_goesWell : GoodIn wsX5_overlapping (wsV RX5 76 RX5 yX5_goesWell wsX5_goesWell) := goodIn_app (goodIn_of _ (by decide +kernel)) ggX5_overlapping_X5_goesWell
set_option maxRecDepth 20000 in
theorem ggX5_overlapping_X5_overlap : GoodIn wsX5_overlapping wsX5_overlap := goodIn_r _ [19, 20, 21, 22, 23, 24, 25, 26, 27, 28, 29, 30, 31, 32, 33, 34, 35, 36, 37, 38, 39, 40, 41, 42, 43] (by decide +kernel) (by decide +kernel)
set_option maxRecDepth 20000 in
theorem gX5_overlapping_X5_overlap : GoodIn wsX5_overlapping (wsV RX5 87 RX5 yX5_overlap wsX5_overlap) := goodIn_app (goodIn_of _ (by decide +kernel)) ggX5_overlapping_X5_overlap
set_option maxRecDepth 20000 in
theorem ggX5_deepest_X5_depthAt : GoodIn wsX5_deepest wsX5_depthAt := goodIn_r _ [5, 6, 7, 8, 9, 10, 11, 12, 13, 14, 15, 16, 17, 18, 19, 20, 21, 22, 23, 24, 25, 26, 27, 28, 29, 30, 31] (by decide +kernel) (by decide +kernel)
set_option maxRecDepth 20000 in
theorem gX5_deepest_X5_depthAt : GoodIn wsX5_deepest (wsV RX5 91 RX5 yX5_depthAt wsX5_depthAt) := goodIn_app (goodIn_of _ (by decide +kernel)) ggX5_deepest_X5_depthAt
set_option maxRecDepth 20000 in
theorem ggX5_rooms_X5_deepest : GoodIn wsX5_rooms wsX5_deepest := goodIn_r _ [6, 7, 8, 9, 5, 10, 11, 12, 13, 14, 15, 16, 17, 18, 19, 20, 21, 22, 23, 24, 25, 26, 27, 28, 29, 30, 31, 32, 33, 34, 35, 36] (by decide +kernel) (by decide +kernel)
set_option maxRecDepth 20000 in
theorem gX5_rooms_X5_deepest : GoodIn wsX5_rooms (wsV RX5 95 RX5 yX5_deepest wsX5_deepest) := goodIn_app (goodIn_of _ (by decide +kernel)) ggX5_rooms_X5_deepest
set_option maxRecDepth 20000 in
theorem ggX5_rooms_X5_depthAt : GoodIn wsX5_rooms wsX5_depthAt := goodIn_r _ [10, 11, 12, 13, 14, 15, 16, 17, 18, 19, 20, 21, 22, 23, 24, 25, 26, 27, 28, 29, 30, 31, 32, 33, 34, 35, 36] (by decide +kernel) (by decide +kernel)
set_option maxRecDepth 20000 in
theorem gX5_rooms_X5_depthAt : GoodIn wsX5_rooms (wsV RX5 91 RX5 yX5_depthAt wsX5_depthAt) := goodIn_app (goodIn_of _ (by decide +kernel)) ggX5_rooms_X5_depthAt
set_option maxRecDepth 20000 in
theorem ggX5_isFree_X5_overlap : GoodIn wsX5_isFree wsX5_overlap := goodIn_r _ [8, 9, 10, 11, 12, 13, 14, 15, 16, 17, 18, 19, 20, 21, 22, 23, 24, 25, 26, 27, 28, 29, 30, 31, 32] (by decide +kernel) (by decide +kernel)
set_option maxRecDepth 20000 in
theorem gX5_isFree_X5_overlap : GoodIn wsX5_isFree (wsV RX5 87 RX5 yX5_overlap wsX5_overlap) := goodIn_app (goodIn_of _ (by decide +kernel)) ggX5_isFree_X5_overlap
set_option maxRecDepth 20000 in
theorem ggX5_roomOf_X5_is : GoodIn wsX5_roomOf wsX5_is := goodIn_r _ [9, 1, 3, 10, 11, 8, 12, 27, 28, 29, 30, 31, 32, 33, 34, 35, 36, 37, 38, 39, 40, 41, 42, 43, 44, 45, 46, 47, 48] (by decide +kernel) (by decide +kernel)
set_option maxRecDepth 20000 in
theorem gX5_roomOf_X5_is : GoodIn wsX5_roomOf (wsV RX5 80 RX5 yX5_is wsX5_is) := goodIn_app (goodIn_of _ (by decide +kernel)) ggX5_roomOf_X5_is
set_option maxRecDepth 20000 in
theorem ggX5_roomOf_X5_goesWell : GoodIn wsX5_roomOf wsX5_goesWell := goodIn_r _ [16, 17, 27, 28, 29, 30, 31, 32, 33, 34, 35, 36, 37, 38, 39, 40, 41, 42, 43, 44, 45, 46, 47, 48] (by decide +kernel) (by decide +kernel)
set_option maxRecDepth 20000 in
theorem gX5_roomOf_X5_goesWell : GoodIn wsX5_roomOf (wsV RX5 76 RX5 yX5_goesWell wsX5_goesWell) := goodIn_app (goodIn_of _ (by decide +kernel)) ggX5_roomOf_X5_goesWell
set_option maxRecDepth 20000 in
theorem ggX5_roomOf_X5_isFree : GoodIn wsX5_roomOf wsX5_isFree := goodIn_r _ [21, 1, 3, 2, 22, 23, 24, 8, 25, 4, 26, 27, 28, 29, 30, 31, 32, 33, 34, 35, 36, 37, 38, 39, 40, 41, 42, 43, 44, 45, 46, 47, 48] (by decide +kernel) (by decide +kernel)
set_option maxRecDepth 20000 in
theorem gX5_roomOf_X5_isFree : GoodIn wsX5_roomOf (wsV RX5 98 RX5 yX5_isFree wsX5_isFree) := goodIn_app (goodIn_of _ (by decide +kernel)) ggX5_roomOf_X5_isFree
set_option maxRecDepth 20000 in
theorem ggX5_depth_X5_in : GoodIn wsX5_depth wsX5_in := goodIn_r _ [4] (by decide +kernel) (by decide +kernel)
set_option maxRecDepth 20000 in
theorem gX5_depth_X5_in : GoodIn wsX5_depth (va_wsS RX5 72 yX5_in wsX5_in) := goodIn_app (goodIn_of _ (by decide +kernel)) ggX5_depth_X5_in
set_option maxRecDepth 20000 in
theorem ggX5_depth_X5_goesWell : GoodIn wsX5_depth wsX5_goesWell := goodIn_r _ [8, 9, 18, 19, 20, 21, 22, 23, 24, 25, 26, 27, 28, 29, 30, 31, 32, 33, 34, 35, 36, 37, 38, 39] (by decide +kernel) (by decide +kernel)
set_option maxRecDepth 20000 in
theorem gX5_depth_X5_goesWell : GoodIn wsX5_depth (wsV RX5 76 RX5 yX5_goesWell wsX5_goesWell) := goodIn_app (goodIn_of _ (by decide +kernel)) ggX5_depth_X5_goesWell
set_option maxRecDepth 20000 in
theorem ggX5_depth_X5_depthAt : GoodIn wsX5_depth wsX5_depthAt := goodIn_r _ [13, 14, 15, 16, 17, 18, 19, 20, 21, 22, 23, 24, 25, 26, 27, 28, 29, 30, 31, 32, 33, 34, 35, 36, 37, 38, 39] (by decide +kernel) (by decide +kernel)
set_option maxRecDepth 20000 in
theorem gX5_depth_X5_depthAt : GoodIn wsX5_depth (wsV RX5 91 RX5 yX5_depthAt wsX5_depthAt) := goodIn_app (goodIn_of _ (by decide +kernel)) ggX5_depth_X5_depthAt
set_option maxRecDepth 20000 in
theorem ggX5_busiest_X5_count : GoodIn wsX5_busiest wsX5_count := goodIn_r _ [6, 7, 8, 19, 20, 21, 22, 23, 24, 25, 26, 27, 28, 29, 30, 31, 32, 33, 34, 35, 36, 37, 38, 39, 40] (by decide +kernel) (by decide +kernel)
set_option maxRecDepth 20000 in
theorem gX5_busiest_X5_count : GoodIn wsX5_busiest (wsV RX5 83 RX5 yX5_count wsX5_count) := goodIn_app (goodIn_of _ (by decide +kernel)) ggX5_busiest_X5_count
set_option maxRecDepth 20000 in
theorem ggX5_busiest_X5_deepest : GoodIn wsX5_busiest wsX5_deepest := goodIn_r _ [12, 13, 14, 15, 5, 16, 7, 8, 17, 18, 19, 20, 21, 22, 23, 24, 25, 26, 27, 28, 29, 30, 31, 32, 33, 34, 35, 36, 37, 38, 39, 40] (by decide +kernel) (by decide +kernel)
set_option maxRecDepth 20000 in
theorem gX5_busiest_X5_deepest : GoodIn wsX5_busiest (wsV RX5 95 RX5 yX5_deepest wsX5_deepest) := goodIn_app (goodIn_of _ (by decide +kernel)) ggX5_busiest_X5_deepest
set_option maxRecDepth 20000 in
theorem ggX5_earliest_X5_in : GoodIn wsX5_earliest wsX5_in := goodIn_r _ [4] (by decide +kernel) (by decide +kernel)
set_option maxRecDepth 20000 in
theorem gX5_earliest_X5_in : GoodIn wsX5_earliest (va_wsS RX5 72 yX5_in wsX5_in) := goodIn_app (goodIn_of _ (by decide +kernel)) ggX5_earliest_X5_in
set_option maxRecDepth 20000 in
theorem ggX5_earliest_X5_goesWell : GoodIn wsX5_earliest wsX5_goesWell := goodIn_r _ [8, 9, 18, 19, 20, 21, 22, 23, 24, 25, 26, 27, 28, 29, 30, 31, 32, 33, 34, 35, 36, 37, 38, 39] (by decide +kernel) (by decide +kernel)
set_option maxRecDepth 20000 in
theorem gX5_earliest_X5_goesWell : GoodIn wsX5_earliest (wsV RX5 76 RX5 yX5_goesWell wsX5_goesWell) := goodIn_app (goodIn_of _ (by decide +kernel)) ggX5_earliest_X5_goesWell
set_option maxRecDepth 20000 in
theorem ggX5_earliest_X5_depthAt : GoodIn wsX5_earliest wsX5_depthAt := goodIn_r _ [13, 14, 15, 16, 17, 18, 19, 20, 21, 22, 23, 24, 25, 26, 27, 28, 29, 30, 31, 32, 33, 34, 35, 36, 37, 38, 39] (by decide +kernel) (by decide +kernel)
set_option maxRecDepth 20000 in
theorem gX5_earliest_X5_depthAt : GoodIn wsX5_earliest (wsV RX5 91 RX5 yX5_depthAt wsX5_depthAt) := goodIn_app (goodIn_of _ (by decide +kernel)) ggX5_earliest_X5_depthAt
set_option maxRecDepth 20000 in
theorem ggX5_planOf_X5_plan : GoodIn wsX5_planOf wsX5_plan := goodIn_r _ [13, 14, 1, 2, 7, 5, 15, 16, 17, 18, 19, 20, 21, 22, 23, 24, 25, 26, 27, 28, 29, 30, 31, 32, 33, 34, 35, 36, 37] (by decide +kernel) (by decide +kernel)
set_option maxRecDepth 20000 in
theorem gX5_planOf_X5_plan : GoodIn wsX5_planOf (wsV RX5 101 RX5 yX5_plan wsX5_plan) := goodIn_app (goodIn_of _ (by decide +kernel)) ggX5_planOf_X5_plan
set_option maxRecDepth 20000 in
theorem ggX5_heaviest_X5_planOf : GoodIn wsX5_heaviest wsX5_planOf := goodIn_r _ [6, 7, 8, 9, 10, 11, 12, 13, 14, 15, 16, 17, 5, 18, 19, 20, 21, 22, 23, 24, 25, 26, 27, 28, 29, 30, 31, 32, 33, 34, 35, 36, 37, 38, 39, 40, 41, 42] (by decide +kernel) (by decide +kernel)
set_option maxRecDepth 20000 in
theorem gX5_heaviest_X5_planOf : GoodIn wsX5_heaviest (wsV RX5 104 RX5 yX5_planOf wsX5_planOf) := goodIn_app (goodIn_of _ (by decide +kernel)) ggX5_heaviest_X5_planOf
set_option maxRecDepth 20000 in
theorem ggX5_planOfFirst_X5_plan : GoodIn wsX5_planOfFirst wsX5_plan := goodIn_r _ [12, 13, 1, 2, 6, 4, 14, 15, 16, 17, 18, 19, 20, 21, 22, 23, 24, 25, 26, 27, 28, 29, 30, 31, 32, 33, 34, 35, 36] (by decide +kernel) (by decide +kernel)
set_option maxRecDepth 20000 in
theorem gX5_planOfFirst_X5_plan : GoodIn wsX5_planOfFirst (wsV RX5 101 RX5 yX5_plan wsX5_plan) := goodIn_app (goodIn_of _ (by decide +kernel)) ggX5_planOfFirst_X5_plan
set_option maxRecDepth 20000 in
theorem ggX5_chosen_X5_layOrder : GoodIn wsX5_chosen wsX5_layOrder := goodIn_r _ [11, 3, 4, 5, 2, 25, 26, 27, 28, 29, 30, 31, 32, 33, 34, 35, 36, 37, 38, 39, 40, 41, 42, 43, 44, 45, 46] (by decide +kernel) (by decide +kernel)
set_option maxRecDepth 20000 in
theorem gX5_chosen_X5_layOrder : GoodIn wsX5_chosen (wsV RX5 108 RX5 yX5_layOrder wsX5_layOrder) := goodIn_app (goodIn_of _ (by decide +kernel)) ggX5_chosen_X5_layOrder
set_option maxRecDepth 20000 in
theorem ggX5_chosen_X5_planOfFirst : GoodIn wsX5_chosen wsX5_planOfFirst := goodIn_r _ [15, 3, 16, 2, 17, 6, 18, 5, 19, 20, 21, 10, 22, 23, 24, 25, 26, 27, 28, 29, 30, 31, 32, 33, 34, 35, 36, 37, 38, 39, 40, 41, 42, 43, 44, 45, 46] (by decide +kernel) (by decide +kernel)
set_option maxRecDepth 20000 in
theorem gX5_chosen_X5_planOfFirst : GoodIn wsX5_chosen (wsV RX5 111 RX5 yX5_planOfFirst wsX5_planOfFirst) := goodIn_app (goodIn_of _ (by decide +kernel)) ggX5_chosen_X5_planOfFirst
set_option maxRecDepth 20000 in
theorem ggX5_most_X5_layOrder : GoodIn wsX5_most wsX5_layOrder := goodIn_r _ [9, 10, 11, 4, 3, 12, 13, 14, 15, 16, 17, 18, 19, 20, 21, 22, 23, 24, 25, 26, 27, 28, 29, 30, 31, 32, 33] (by decide +kernel) (by decide +kernel)
set_option maxRecDepth 20000 in
theorem gX5_most_X5_layOrder : GoodIn wsX5_most (wsV RX5 108 RX5 yX5_layOrder wsX5_layOrder) := goodIn_app (goodIn_of _ (by decide +kernel)) ggX5_most_X5_layOrder
set_option maxRecDepth 20000 in
theorem ggX5_find_X5_steps : GoodIn wsX5_find wsX5_steps := goodIn_r _ [15, 2, 3, 16, 22, 23, 24, 25, 26, 27, 28, 29, 30, 31, 32, 33, 34, 35, 36, 37, 38, 39, 40, 41, 42, 43] (by decide +kernel) (by decide +kernel)
set_option maxRecDepth 20000 in
theorem gX5_find_X5_steps : GoodIn wsX5_find (wsV RX5 118 RX5 yX5_steps wsX5_steps) := goodIn_app (goodIn_of _ (by decide +kernel)) ggX5_find_X5_steps
set_option maxRecDepth 20000 in
theorem ggX5_find_X5_pointOf : GoodIn wsX5_find wsX5_pointOf := goodIn_r _ [20, 21, 22, 23, 24, 25, 26, 27, 28, 29, 30, 31, 32, 33, 34, 35, 36, 37, 38, 39, 40, 41, 42, 43] (by decide +kernel) (by decide +kernel)
set_option maxRecDepth 20000 in
theorem gX5_find_X5_pointOf : GoodIn wsX5_find (wsV RX5 122 RX5 yX5_pointOf wsX5_pointOf) := goodIn_app (goodIn_of _ (by decide +kernel)) ggX5_find_X5_pointOf
set_option maxRecDepth 20000 in
theorem ggX5_send_X5_pointOf : GoodIn wsX5_send wsX5_pointOf := goodIn_r _ [11, 12, 13, 14, 15, 16, 17, 18, 19, 20, 21, 22, 23, 24, 25, 26, 27, 28, 29, 30, 31, 32, 33, 34] (by decide +kernel) (by decide +kernel)
set_option maxRecDepth 20000 in
theorem gX5_send_X5_pointOf : GoodIn wsX5_send (wsV RX5 122 RX5 yX5_pointOf wsX5_pointOf) := goodIn_app (goodIn_of _ (by decide +kernel)) ggX5_send_X5_pointOf
set_option maxRecDepth 20000 in
theorem ggX5_planIn_X5_layPoints : GoodIn wsX5_planIn wsX5_layPoints := goodIn_r _ [10, 4, 1, 3, 11, 12, 13, 14, 15, 35, 36, 37, 38, 39, 40, 41, 42, 43, 44, 45, 46, 47, 48, 49, 50, 51, 52, 53, 54, 55, 56] (by decide +kernel) (by decide +kernel)
set_option maxRecDepth 20000 in
theorem gX5_planIn_X5_layPoints : GoodIn wsX5_planIn (wsV RX5 125 RX5 yX5_layPoints wsX5_layPoints) := goodIn_app (goodIn_of _ (by decide +kernel)) ggX5_planIn_X5_layPoints
set_option maxRecDepth 20000 in
theorem ggX5_planIn_X5_find : GoodIn wsX5_planIn wsX5_find := goodIn_r _ [19, 4, 5, 20, 14, 1, 2, 11, 12, 15, 21, 22, 23, 24, 9, 25, 26, 27, 28, 29, 30, 13, 35, 36, 37, 38, 39, 40, 41, 42, 43, 44, 45, 46, 47, 48, 49, 50, 51, 52, 53, 54, 55, 56] (by decide +kernel) (by decide +kernel)
set_option maxRecDepth 20000 in
theorem gX5_planIn_X5_find : GoodIn wsX5_planIn (wsV RX5 128 RX5 yX5_find wsX5_find) := goodIn_app (goodIn_of _ (by decide +kernel)) ggX5_planIn_X5_find
set_option maxRecDepth 20000 in
theorem ggX5_planIn_X5_send : GoodIn wsX5_planIn wsX5_send := goodIn_r _ [34, 4, 26, 14, 15, 11, 12, 27, 28, 29, 9, 30, 13, 35, 36, 37, 38, 39, 40, 41, 42, 43, 44, 45, 46, 47, 48, 49, 50, 51, 52, 53, 54, 55, 56] (by decide +kernel) (by decide +kernel)
set_option maxRecDepth 20000 in
theorem gX5_planIn_X5_send : GoodIn wsX5_planIn (wsV RX5 131 RX5 yX5_send wsX5_send) := goodIn_app (goodIn_of _ (by decide +kernel)) ggX5_planIn_X5_send
set_option maxRecDepth 20000 in
theorem ggX5_heaviestIn_X5_in : GoodIn wsX5_heaviestIn wsX5_in := goodIn_r _ [4] (by decide +kernel) (by decide +kernel)
set_option maxRecDepth 20000 in
theorem gX5_heaviestIn_X5_in : GoodIn wsX5_heaviestIn (va_wsS RX5 72 yX5_in wsX5_in) := goodIn_app (goodIn_of _ (by decide +kernel)) ggX5_heaviestIn_X5_in
set_option maxRecDepth 20000 in
theorem ggX5_heaviestIn_X5_goesWell : GoodIn wsX5_heaviestIn wsX5_goesWell := goodIn_r _ [8, 9, 47, 48, 49, 50, 51, 52, 53, 54, 55, 56, 57, 58, 59, 60, 61, 62, 63, 64, 65, 66, 67, 68] (by decide +kernel) (by decide +kernel)
set_option maxRecDepth 20000 in
theorem gX5_heaviestIn_X5_goesWell : GoodIn wsX5_heaviestIn (wsV RX5 76 RX5 yX5_goesWell wsX5_goesWell) := goodIn_app (goodIn_of _ (by decide +kernel)) ggX5_heaviestIn_X5_goesWell
set_option maxRecDepth 20000 in
theorem ggX5_heaviestIn_X5_planIn : GoodIn wsX5_heaviestIn wsX5_planIn := goodIn_r _ [13, 14, 15, 16, 17, 18, 19, 20, 21, 3, 22, 23, 24, 25, 26, 27, 28, 29, 30, 31, 32, 33, 34, 35, 36, 37, 38, 39, 40, 41, 42, 43, 44, 45, 46, 47, 48, 49, 50, 51, 52, 53, 54, 55, 56, 57, 58, 59, 60, 61, 62, 63, 64, 65, 66, 67, 68] (by decide +kernel) (by decide +kernel)
set_option maxRecDepth 20000 in
theorem gX5_heaviestIn_X5_planIn : GoodIn wsX5_heaviestIn (wsV RX5 134 RX5 yX5_planIn wsX5_planIn) := goodIn_app (goodIn_of _ (by decide +kernel)) ggX5_heaviestIn_X5_planIn
set_option maxRecDepth 20000 in
theorem ggX5_lossWithout_X5_is : GoodIn wsX5_lossWithout wsX5_is := goodIn_r _ [5, 6, 7, 8, 9, 4, 10, 51, 52, 53, 54, 55, 56, 57, 58, 59, 60, 61, 62, 63, 64, 65, 66, 67, 68, 69, 70, 71, 72] (by decide +kernel) (by decide +kernel)
set_option maxRecDepth 20000 in
theorem gX5_lossWithout_X5_is : GoodIn wsX5_lossWithout (wsV RX5 80 RX5 yX5_is wsX5_is) := goodIn_app (goodIn_of _ (by decide +kernel)) ggX5_lossWithout_X5_is
set_option maxRecDepth 20000 in
theorem ggX5_lossWithout_X5_in : GoodIn wsX5_lossWithout wsX5_in := goodIn_r _ [10] (by decide +kernel) (by decide +kernel)
set_option maxRecDepth 20000 in
theorem gX5_lossWithout_X5_in : GoodIn wsX5_lossWithout (va_wsS RX5 72 yX5_in wsX5_in) := goodIn_app (goodIn_of _ (by decide +kernel)) ggX5_lossWithout_X5_in
set_option maxRecDepth 20000 in
theorem ggX5_lossWithout_X5_goesWell : GoodIn wsX5_lossWithout wsX5_goesWell := goodIn_r _ [14, 15, 51, 52, 53, 54, 55, 56, 57, 58, 59, 60, 61, 62, 63, 64, 65, 66, 67, 68, 69, 70, 71, 72] (by decide +kernel) (by decide +kernel)
set_option maxRecDepth 20000 in
theorem gX5_lossWithout_X5_goesWell : GoodIn wsX5_lossWithout (wsV RX5 76 RX5 yX5_goesWell wsX5_goesWell) := goodIn_app (goodIn_of _ (by decide +kernel)) ggX5_lossWithout_X5_goesWell
set_option maxRecDepth 20000 in
theorem ggX5_lossWithout_X5_planIn : GoodIn wsX5_lossWithout wsX5_planIn := goodIn_r _ [19, 6, 20, 7, 21, 22, 23, 24, 25, 4, 26, 27, 28, 29, 30, 31, 32, 33, 34, 35, 36, 37, 38, 39, 40, 41, 42, 43, 44, 45, 46, 47, 48, 49, 50, 51, 52, 53, 54, 55, 56, 57, 58, 59, 60, 61, 62, 63, 64, 65, 66, 67, 68, 69, 70, 71, 72] (by decide +kernel) (by decide +kernel)
set_option maxRecDepth 20000 in
theorem gX5_lossWithout_X5_planIn : GoodIn wsX5_lossWithout (wsV RX5 134 RX5 yX5_planIn wsX5_planIn) := goodIn_app (goodIn_of _ (by decide +kernel)) ggX5_lossWithout_X5_planIn
set_option maxRecDepth 20000 in
theorem ggX5_openDesk_X5_in : GoodIn wsX5_openDesk wsX5_in := goodIn_r _ [8] (by decide +kernel) (by decide +kernel)
set_option maxRecDepth 20000 in
theorem gX5_openDesk_X5_in : GoodIn wsX5_openDesk (va_wsS RX5 72 yX5_in wsX5_in) := goodIn_app (goodIn_of _ (by decide +kernel)) ggX5_openDesk_X5_in
set_option maxRecDepth 20000 in
theorem ggX5_openDesk_X5_goesWell : GoodIn wsX5_openDesk wsX5_goesWell := goodIn_r _ [12, 13, 20, 21, 22, 23, 24, 25, 26, 27, 28, 29, 30, 31, 32, 33, 34, 35, 36, 37, 38, 39, 40, 41] (by decide +kernel) (by decide +kernel)
set_option maxRecDepth 20000 in
theorem gX5_openDesk_X5_goesWell : GoodIn wsX5_openDesk (wsV RX5 76 RX5 yX5_goesWell wsX5_goesWell) := goodIn_app (goodIn_of _ (by decide +kernel)) ggX5_openDesk_X5_goesWell
set_option maxRecDepth 20000 in
theorem ggX5_openDesk_X5_weightAccepted : GoodIn wsX5_openDesk wsX5_weightAccepted := goodIn_r _ [17, 18, 3, 19, 20, 21, 22, 23, 24, 25, 26, 27, 28, 29, 30, 31, 32, 33, 34, 35, 36, 37, 38, 39, 40, 41] (by decide +kernel) (by decide +kernel)
set_option maxRecDepth 20000 in
theorem gX5_openDesk_X5_weightAccepted : GoodIn wsX5_openDesk (wsV RX5 138 RX5 yX5_weightAccepted wsX5_weightAccepted) := goodIn_app (goodIn_of _ (by decide +kernel)) ggX5_openDesk_X5_weightAccepted
set_option maxRecDepth 20000 in
theorem ggX5_offer_X5_is : GoodIn wsX5_offer wsX5_is := goodIn_r _ [11, 2, 12, 13, 14, 10, 15, 27, 28, 29, 30, 31, 32, 33, 34, 35, 36, 37, 38, 39, 40, 41, 42, 43, 44, 45, 46, 47, 48] (by decide +kernel) (by decide +kernel)
set_option maxRecDepth 20000 in
theorem gX5_offer_X5_is : GoodIn wsX5_offer (wsV RX5 80 RX5 yX5_is wsX5_is) := goodIn_app (goodIn_of _ (by decide +kernel)) ggX5_offer_X5_is
set_option maxRecDepth 20000 in
theorem ggX5_offer_X5_goesWell : GoodIn wsX5_offer wsX5_goesWell := goodIn_r _ [19, 20, 27, 28, 29, 30, 31, 32, 33, 34, 35, 36, 37, 38, 39, 40, 41, 42, 43, 44, 45, 46, 47, 48] (by decide +kernel) (by decide +kernel)
set_option maxRecDepth 20000 in
theorem gX5_offer_X5_goesWell : GoodIn wsX5_offer (wsV RX5 76 RX5 yX5_goesWell wsX5_goesWell) := goodIn_app (goodIn_of _ (by decide +kernel)) ggX5_offer_X5_goesWell
set_option maxRecDepth 20000 in
theorem ggX5_offer_X5_overlap : GoodIn wsX5_offer wsX5_overlap := goodIn_r _ [24, 25, 26, 27, 28, 29, 30, 31, 32, 33, 34, 35, 36, 37, 38, 39, 40, 41, 42, 43, 44, 45, 46, 47, 48] (by decide +kernel) (by decide +kernel)
set_option maxRecDepth 20000 in
theorem gX5_offer_X5_overlap : GoodIn wsX5_offer (wsV RX5 87 RX5 yX5_overlap wsX5_overlap) := goodIn_app (goodIn_of _ (by decide +kernel)) ggX5_offer_X5_overlap
set_option maxRecDepth 20000 in
theorem ggX5_acceptedWeight_X5_weightAccepted : GoodIn wsX5_acceptedWeight wsX5_weightAccepted := goodIn_r _ [6, 7, 8, 9, 10, 11, 12, 13, 14, 15, 16, 17, 18, 19, 20, 21, 22, 23, 24, 25, 26, 27, 28, 29, 30, 31] (by decide +kernel) (by decide +kernel)
set_option maxRecDepth 20000 in
theorem gX5_acceptedWeight_X5_weightAccepted : GoodIn wsX5_acceptedWeight (wsV RX5 138 RX5 yX5_weightAccepted wsX5_weightAccepted) := goodIn_app (goodIn_of _ (by decide +kernel)) ggX5_acceptedWeight_X5_weightAccepted
set_option maxRecDepth 20000 in
theorem ggX5_bestOfOffered_X5_planOf : GoodIn wsX5_bestOfOffered wsX5_planOf := goodIn_r _ [6, 7, 8, 9, 10, 11, 12, 13, 14, 15, 16, 17, 5, 18, 19, 20, 21, 22, 23, 24, 25, 26, 27, 28, 29, 30, 31, 32, 33, 34, 35, 36, 37, 38, 39, 40, 41, 42] (by decide +kernel) (by decide +kernel)
set_option maxRecDepth 20000 in
theorem gX5_bestOfOffered_X5_planOf : GoodIn wsX5_bestOfOffered (wsV RX5 104 RX5 yX5_planOf wsX5_planOf) := goodIn_app (goodIn_of _ (by decide +kernel)) ggX5_bestOfOffered_X5_planOf
set_option maxRecDepth 20000 in
theorem ggX5_faultRound_X5_in : GoodIn wsX5_faultRound wsX5_in := goodIn_r _ [8] (by decide +kernel) (by decide +kernel)
set_option maxRecDepth 20000 in
theorem gX5_faultRound_X5_in : GoodIn wsX5_faultRound (va_wsS RX5 72 yX5_in wsX5_in) := goodIn_app (goodIn_of _ (by decide +kernel)) ggX5_faultRound_X5_in
set_option maxRecDepth 20000 in
theorem ggX5_depthRound_X5_faultRound : GoodIn wsX5_depthRound wsX5_faultRound := goodIn_r _ [7, 1, 2, 8, 9, 10, 11, 6, 12, 22, 23, 24, 25, 26, 27, 28, 29, 30, 31, 32, 33, 34, 35, 36, 37, 38, 39, 40, 41, 42, 43] (by decide +kernel) (by decide +kernel)
set_option maxRecDepth 20000 in
theorem gX5_depthRound_X5_faultRound : GoodIn wsX5_depthRound (wsV RX5 144 RX5 yX5_faultRound wsX5_faultRound) := goodIn_app (goodIn_of _ (by decide +kernel)) ggX5_depthRound_X5_faultRound
set_option maxRecDepth 20000 in
theorem ggX5_depthRound_X5_goesWell : GoodIn wsX5_depthRound wsX5_goesWell := goodIn_r _ [16, 17, 22, 23, 24, 25, 26, 27, 28, 29, 30, 31, 32, 33, 34, 35, 36, 37, 38, 39, 40, 41, 42, 43] (by decide +kernel) (by decide +kernel)
set_option maxRecDepth 20000 in
theorem gX5_depthRound_X5_goesWell : GoodIn wsX5_depthRound (wsV RX5 76 RX5 yX5_goesWell wsX5_goesWell) := goodIn_app (goodIn_of _ (by decide +kernel)) ggX5_depthRound_X5_goesWell
set_option maxRecDepth 20000 in
theorem ggX5_depthRound_X5_takes : GoodIn wsX5_depthRound wsX5_takes := goodIn_r _ [21, 9, 8, 22, 23, 24, 25, 26, 27, 28, 29, 30, 31, 32, 33, 34, 35, 36, 37, 38, 39, 40, 41, 42, 43] (by decide +kernel) (by decide +kernel)
set_option maxRecDepth 20000 in
theorem gX5_depthRound_X5_takes : GoodIn wsX5_depthRound (wsV RX5 147 RX5 yX5_takes wsX5_takes) := goodIn_app (goodIn_of _ (by decide +kernel)) ggX5_depthRound_X5_takes
set_option maxRecDepth 20000 in
theorem ggX5_planBeside_X5_takes : GoodIn wsX5_planBeside wsX5_takes := goodIn_r _ [13, 3, 5, 19, 20, 21, 22, 23, 24, 25, 26, 27, 28, 29, 30, 31, 32, 33, 34, 35, 36, 37, 38, 39, 40] (by decide +kernel) (by decide +kernel)
set_option maxRecDepth 20000 in
theorem gX5_planBeside_X5_takes : GoodIn wsX5_planBeside (wsV RX5 147 RX5 yX5_takes wsX5_takes) := goodIn_app (goodIn_of _ (by decide +kernel)) ggX5_planBeside_X5_takes
set_option maxRecDepth 20000 in
theorem ggX5_planBeside_X5_plan : GoodIn wsX5_planBeside wsX5_plan := goodIn_r _ [17, 18, 1, 6, 4, 2, 8, 19, 20, 21, 22, 23, 24, 25, 26, 27, 28, 29, 30, 31, 32, 33, 34, 35, 36, 37, 38, 39, 40] (by decide +kernel) (by decide +kernel)
set_option maxRecDepth 20000 in
theorem gX5_planBeside_X5_plan : GoodIn wsX5_planBeside (wsV RX5 101 RX5 yX5_plan wsX5_plan) := goodIn_app (goodIn_of _ (by decide +kernel)) ggX5_planBeside_X5_plan
set_option maxRecDepth 20000 in
theorem ggX5_heaviestRound_X5_faultRound : GoodIn wsX5_heaviestRound wsX5_faultRound := goodIn_r _ [7, 1, 2, 8, 9, 10, 11, 6, 12, 35, 36, 37, 38, 39, 40, 41, 42, 43, 44, 45, 46, 47, 48, 49, 50, 51, 52, 53, 54, 55, 56] (by decide +kernel) (by decide +kernel)
set_option maxRecDepth 20000 in
theorem gX5_heaviestRound_X5_faultRound : GoodIn wsX5_heaviestRound (wsV RX5 144 RX5 yX5_faultRound wsX5_faultRound) := goodIn_app (goodIn_of _ (by decide +kernel)) ggX5_heaviestRound_X5_faultRound
set_option maxRecDepth 20000 in
theorem ggX5_heaviestRound_X5_goesWell : GoodIn wsX5_heaviestRound wsX5_goesWell := goodIn_r _ [16, 17, 35, 36, 37, 38, 39, 40, 41, 42, 43, 44, 45, 46, 47, 48, 49, 50, 51, 52, 53, 54, 55, 56] (by decide +kernel) (by decide +kernel)
set_option maxRecDepth 20000 in
theorem gX5_heaviestRound_X5_goesWell : GoodIn wsX5_heaviestRound (wsV RX5 76 RX5 yX5_goesWell wsX5_goesWell) := goodIn_app (goodIn_of _ (by decide +kernel)) ggX5_heaviestRound_X5_goesWell
set_option maxRecDepth 20000 in
theorem ggX5_heaviestRound_X5_planBeside : GoodIn wsX5_heaviestRound wsX5_planBeside := goodIn_r _ [21, 1, 22, 9, 23, 8, 24, 2, 25, 26, 27, 28, 6, 29, 30, 31, 32, 33, 34, 35, 36, 37, 38, 39, 40, 41, 42, 43, 44, 45, 46, 47, 48, 49, 50, 51, 52, 53, 54, 55, 56] (by decide +kernel) (by decide +kernel)
set_option maxRecDepth 20000 in
theorem gX5_heaviestRound_X5_planBeside : GoodIn wsX5_heaviestRound (wsV RX5 150 RX5 yX5_planBeside wsX5_planBeside) := goodIn_app (goodIn_of _ (by decide +kernel)) ggX5_heaviestRound_X5_planBeside
set_option maxRecDepth 20000 in
theorem ggX5_heaviestRound_X5_takes : GoodIn wsX5_heaviestRound wsX5_takes := goodIn_r _ [29, 9, 8, 35, 36, 37, 38, 39, 40, 41, 42, 43, 44, 45, 46, 47, 48, 49, 50, 51, 52, 53, 54, 55, 56] (by decide +kernel) (by decide +kernel)
set_option maxRecDepth 20000 in
theorem gX5_heaviestRound_X5_takes : GoodIn wsX5_heaviestRound (wsV RX5 147 RX5 yX5_takes wsX5_takes) := goodIn_app (goodIn_of _ (by decide +kernel)) ggX5_heaviestRound_X5_takes
set_option maxRecDepth 20000 in
theorem ggL_add_X4_add : GoodIn wsL_add wsX4_add := goodIn_ca (goodIn_ca (goodIn_r _ [7, 8, 9, 10, 11, 12, 13, 14, 15, 16, 17, 18, 6, 19, 20, 21, 22, 23, 24, 25, 26, 27, 28, 29, 30, 31] (by decide +kernel) (by decide +kernel)) (goodIn_sub (fun _ h => List.mem_cons_of_mem _ (List.mem_append_left _ (List.mem_append_right _ h))) (by decide +kernel))) (goodIn_sub (fun _ h => List.mem_cons_of_mem _ (List.mem_append_right _ h)) (by decide +kernel))
set_option maxRecDepth 20000 in
theorem gL_add_X4_add : GoodIn wsL_add (wsV RL 7 RX4 yX4_add wsX4_add) := goodIn_app (goodIn_of _ (by decide +kernel)) ggL_add_X4_add
set_option maxRecDepth 20000 in
theorem ggL_remove_X4_remove : GoodIn wsL_remove wsX4_remove := goodIn_ca (goodIn_r _ [6, 7, 8, 9, 10, 11, 12, 5, 13, 14, 15, 16, 17, 18, 19, 20, 21, 22, 23, 24, 25, 26, 27, 28, 29, 30, 31, 32, 33, 34, 35, 36, 37, 38, 39, 40, 41] (by decide +kernel) (by decide +kernel)) (goodIn_sub (fun _ h => List.mem_cons_of_mem _ (List.mem_append_right _ h)) (by decide +kernel))
set_option maxRecDepth 20000 in
theorem gL_remove_X4_remove : GoodIn wsL_remove (wsV RL 17 RX4 yX4_remove wsX4_remove) := goodIn_app (goodIn_of _ (by decide +kernel)) ggL_remove_X4_remove
set_option maxRecDepth 20000 in
theorem ggL_move_X4_move : GoodIn wsL_move wsX4_move := goodIn_ca (goodIn_ca (goodIn_r _ [7, 8, 9, 10, 11, 12, 13, 14, 15, 16, 6, 17, 18, 19, 20, 21, 22, 23, 24, 25, 26, 27, 28, 29, 30, 31, 32, 33, 34, 35, 36, 37, 38, 39, 40, 41, 42, 43] (by decide +kernel) (by decide +kernel)) (goodIn_sub (fun _ h => List.mem_cons_of_mem _ (List.mem_append_left _ (List.mem_append_right _ h))) (by decide +kernel))) (goodIn_sub (fun _ h => List.mem_cons_of_mem _ (List.mem_append_right _ h)) (by decide +kernel))
set_option maxRecDepth 20000 in
theorem gL_move_X4_move : GoodIn wsL_move (wsV RL 23 RX4 yX4_move wsX4_move) := goodIn_app (goodIn_of _ (by decide +kernel)) ggL_move_X4_move
set_option maxRecDepth 20000 in
theorem ggL_overlapping_X4_overlapping : GoodIn wsL_overlapping wsX4_overlapping := goodIn_ca (goodIn_r _ [6, 7, 8, 9, 5, 10, 11, 12, 13, 14, 15, 16, 17, 18, 19, 20, 21, 22, 23, 24, 25, 26, 27, 28, 29, 30, 31, 32, 33, 34, 35, 36, 37, 38, 39] (by decide +kernel) (by decide +kernel)) (goodIn_sub (fun _ h => List.mem_cons_of_mem _ (List.mem_append_right _ h)) (by decide +kernel))
set_option maxRecDepth 20000 in
theorem gL_overlapping_X4_overlapping : GoodIn wsL_overlapping (wsV RL 27 RX4 yX4_overlapping wsX4_overlapping) := goodIn_app (goodIn_of _ (by decide +kernel)) ggL_overlapping_X4_overlapping
set_option maxRecDepth 20000 in
theorem ggL_roomOf_X4_roomOf : GoodIn wsL_roomOf wsX4_roomOf := goodIn_ca (goodIn_r _ [6, 7, 8, 9, 10, 11, 5, 12, 13, 14, 15, 16, 17, 18, 19, 20, 21, 22, 23, 24, 25, 26, 27, 28, 29, 30, 31, 32, 33, 34, 35, 36, 37, 38, 39, 40, 41, 42, 43, 44, 45, 46, 47, 48, 49, 50, 51, 52, 53, 54, 55, 56, 57, 58, 59, 60, 61, 62, 63, 64, 65, 66, 67, 68, 69, 70, 71, 72, 73, 74, 75, 76, 77, 78, 79, 80, 81, 82, 83, 84, 85, 86] (by decide +kernel) (by decide +kernel)) (goodIn_sub (fun _ h => List.mem_cons_of_mem _ (List.mem_append_right _ h)) (by decide +kernel))
set_option maxRecDepth 20000 in
theorem gL_roomOf_X4_roomOf : GoodIn wsL_roomOf (wsV RL 31 RX4 yX4_roomOf wsX4_roomOf) := goodIn_app (goodIn_of _ (by decide +kernel)) ggL_roomOf_X4_roomOf
set_option maxRecDepth 20000 in
theorem ggL_depth_X4_depth : GoodIn wsL_depth wsX4_depth := goodIn_ca (goodIn_r _ [6, 7, 8, 9, 10, 11, 5, 12, 13, 14, 15, 16, 17, 18, 19, 20, 21, 22, 23, 24, 25, 26, 27, 28, 29, 30, 31, 32, 33, 34] (by decide +kernel) (by decide +kernel)) (goodIn_sub (fun _ h => List.mem_cons_of_mem _ (List.mem_append_right _ h)) (by decide +kernel))
set_option maxRecDepth 20000 in
theorem gL_depth_X4_depth : GoodIn wsL_depth (wsV RL 34 RX4 yX4_depth wsX4_depth) := goodIn_app (goodIn_of _ (by decide +kernel)) ggL_depth_X4_depth
set_option maxRecDepth 20000 in
theorem ggL_earliest_X4_earliest : GoodIn wsL_earliest wsX4_earliest := goodIn_ca (goodIn_r _ [6, 7, 8, 9, 10, 11, 5, 12, 13, 14, 15, 16, 17, 18, 19, 20, 21, 22, 23, 24, 25, 26, 27, 28, 29, 30, 31, 32, 33, 34, 35, 36, 37, 38, 39, 40, 41, 42] (by decide +kernel) (by decide +kernel)) (goodIn_sub (fun _ h => List.mem_cons_of_mem _ (List.mem_append_right _ h)) (by decide +kernel))
set_option maxRecDepth 20000 in
theorem gL_earliest_X4_earliest : GoodIn wsL_earliest (wsV RL 37 RX4 yX4_earliest wsX4_earliest) := goodIn_app (goodIn_of _ (by decide +kernel)) ggL_earliest_X4_earliest
set_option maxRecDepth 20000 in
theorem ggL_heaviestIn_X4_heaviestIn : GoodIn wsL_heaviestIn wsX4_heaviestIn := goodIn_ca (goodIn_r _ [6, 7, 8, 9, 5, 10, 11, 12, 13, 14, 15, 16, 17, 18, 19, 20, 21, 22, 23, 24, 25, 26, 27, 28, 29, 30, 31, 32, 33, 34, 35, 36, 37, 38, 39, 40, 41, 42, 43, 44, 45, 46, 47, 48, 49, 50, 51, 52, 53, 54, 55, 56, 57, 58, 59, 60, 61, 62, 63, 64, 65, 66, 67, 68, 69, 70, 71, 72, 73, 74, 75, 76, 77, 78, 79, 80, 81, 82, 83, 84, 85, 86, 87, 88, 89, 90, 91, 92, 93, 94, 95, 96, 97, 98, 99, 100, 101, 102, 103, 104, 105, 106, 107, 108, 109, 110, 111, 112, 113, 114, 115, 116, 117, 118, 119, 120, 121, 122, 123] (by decide +kernel) (by decide +kernel)) (goodIn_sub (fun _ h => List.mem_cons_of_mem _ (List.mem_append_right _ h)) (by decide +kernel))
set_option maxRecDepth 20000 in
theorem gL_heaviestIn_X4_heaviestIn : GoodIn wsL_heaviestIn (wsV RL 40 RX4 yX4_heaviestIn wsX4_heaviestIn) := goodIn_app (goodIn_of _ (by decide +kernel)) ggL_heaviestIn_X4_heaviestIn
set_option maxRecDepth 20000 in
theorem ggL_lossWithout_X4_lossWithout : GoodIn wsL_lossWithout wsX4_lossWithout := goodIn_ca (goodIn_ca (goodIn_r _ [7, 8, 9, 10, 11, 12, 6, 13, 14, 15, 16, 17, 18, 19, 20, 21, 22, 23, 24, 25, 26, 27, 28, 29, 30, 31, 32, 33, 34, 35, 36, 37, 38, 39, 40, 41, 42, 43, 44, 45, 46, 47, 48, 49, 50, 51, 52, 53, 54, 55, 56, 57, 58, 59, 60, 61, 62, 63, 64, 65, 66, 67, 68, 69, 70, 71, 72, 73, 74, 75, 76, 77, 78, 79, 80, 81, 82, 83, 84, 85, 86, 87, 88, 89, 90, 91, 92, 93, 94, 95, 96, 97, 98, 99, 100, 101, 102, 103, 104, 105, 106, 107, 108, 109, 110, 111, 112, 113, 114, 115, 116, 117, 118, 119, 120, 121, 122, 123, 124, 125, 126, 127, 128, 129, 130, 131] (by decide +kernel) (by decide +kernel)) (goodIn_sub (fun _ h => List.mem_cons_of_mem _ (List.mem_append_left _ (List.mem_append_right _ h))) (by decide +kernel))) (goodIn_sub (fun _ h => List.mem_cons_of_mem _ (List.mem_append_right _ h)) (by decide +kernel))
set_option maxRecDepth 20000 in
theorem gL_lossWithout_X4_lossWithout : GoodIn wsL_lossWithout (wsV RL 43 RX4 yX4_lossWithout wsX4_lossWithout) := goodIn_app (goodIn_of _ (by decide +kernel)) ggL_lossWithout_X4_lossWithout
set_option maxRecDepth 20000 in
theorem ggL_openDesk_X4_openDesk : GoodIn wsL_openDesk wsX4_openDesk := goodIn_ca (goodIn_r _ [6, 7, 8, 9, 10, 11, 12, 13, 14, 15, 5, 16, 17, 18, 19, 20, 21, 22, 23, 24, 25, 26, 27, 28, 29, 30, 31, 32, 33, 34, 35, 36] (by decide +kernel) (by decide +kernel)) (goodIn_sub (fun _ h => List.mem_cons_of_mem _ (List.mem_append_right _ h)) (by decide +kernel))
set_option maxRecDepth 20000 in
theorem gL_openDesk_X4_openDesk : GoodIn wsL_openDesk (wsV RL 46 RX4 yX4_openDesk wsX4_openDesk) := goodIn_app (goodIn_of _ (by decide +kernel)) ggL_openDesk_X4_openDesk
set_option maxRecDepth 20000 in
theorem ggL_offer_X4_offer : GoodIn wsL_offer wsX4_offer := goodIn_ca (goodIn_ca (goodIn_r _ [7, 8, 9, 10, 11, 12, 13, 14, 15, 16, 17, 18, 6, 19, 20, 21, 22, 23, 24, 25, 26, 27, 28, 29, 30, 31, 32, 33, 34, 35, 36, 37, 38, 39, 40, 41, 42, 43, 44, 45, 46, 47, 48, 49, 50, 51] (by decide +kernel) (by decide +kernel)) (goodIn_sub (fun _ h => List.mem_cons_of_mem _ (List.mem_append_left _ (List.mem_append_right _ h))) (by decide +kernel))) (goodIn_sub (fun _ h => List.mem_cons_of_mem _ (List.mem_append_right _ h)) (by decide +kernel))
set_option maxRecDepth 20000 in
theorem gL_offer_X4_offer : GoodIn wsL_offer (wsV RL 49 RX4 yX4_offer wsX4_offer) := goodIn_app (goodIn_of _ (by decide +kernel)) ggL_offer_X4_offer
set_option maxRecDepth 20000 in
theorem ggL_depthRound_X4_depthRound : GoodIn wsL_depthRound wsX4_depthRound := goodIn_ca (goodIn_ca (goodIn_r _ [7, 8, 9, 10, 11, 12, 13, 14, 15, 16, 17, 6, 18, 19, 20, 21, 22, 23, 24, 25, 26, 27, 28, 29, 30, 31, 32, 33, 34, 35, 36, 37, 38, 39, 40, 41, 42, 43, 44, 45, 46, 47, 48, 49, 50, 51, 52, 53, 54, 55, 56] (by decide +kernel) (by decide +kernel)) (goodIn_sub (fun _ h => List.mem_cons_of_mem _ (List.mem_append_left _ (List.mem_append_right _ h))) (by decide +kernel))) (goodIn_sub (fun _ h => List.mem_cons_of_mem _ (List.mem_append_right _ h)) (by decide +kernel))
set_option maxRecDepth 20000 in
theorem gL_depthRound_X4_depthRound : GoodIn wsL_depthRound (wsV RL 52 RX4 yX4_depthRound wsX4_depthRound) := goodIn_app (goodIn_of _ (by decide +kernel)) ggL_depthRound_X4_depthRound
set_option maxRecDepth 20000 in
theorem ggL_heaviestRound_X4_heaviestRound : GoodIn wsL_heaviestRound wsX4_heaviestRound := goodIn_ca (goodIn_ca (goodIn_r _ [7, 8, 9, 10, 11, 12, 13, 14, 15, 16, 17, 18, 6, 19, 20, 21, 22, 23, 24, 25, 26, 27, 28, 29, 30, 31, 32, 33, 34, 35, 36, 37, 38, 39, 40, 41, 42, 43, 44, 45, 46, 47, 48, 49, 50, 51, 52, 53, 54, 55, 56, 57, 58, 59, 60, 61, 62, 63, 64, 65, 66, 67, 68, 69, 70, 71, 72, 73, 74, 75, 76, 77, 78, 79, 80, 81, 82, 83, 84, 85, 86, 87, 88, 89, 90, 91, 92, 93, 94, 95, 96, 97, 98, 99, 100, 101, 102, 103, 104, 105, 106, 107, 108, 109] (by decide +kernel) (by decide +kernel)) (goodIn_sub (fun _ h => List.mem_cons_of_mem _ (List.mem_append_left _ (List.mem_append_right _ h))) (by decide +kernel))) (goodIn_sub (fun _ h => List.mem_cons_of_mem _ (List.mem_append_right _ h)) (by decide +kernel))
set_option maxRecDepth 20000 in
theorem gL_heaviestRound_X4_heaviestRound : GoodIn wsL_heaviestRound (wsV RL 55 RX4 yX4_heaviestRound wsX4_heaviestRound) := goodIn_app (goodIn_of _ (by decide +kernel)) ggL_heaviestRound_X4_heaviestRound
set_option maxRecDepth 20000 in
theorem ggL_law_X4_init : GoodIn wsL_law wsX4_init := goodIn_r _ [9, 10, 11, 12, 13, 14, 15, 16, 17, 18, 19, 20, 21, 22, 23, 24, 25, 26, 27, 28, 29, 30, 31, 32, 33, 34, 35, 36, 37, 38, 39, 40, 41, 42, 43, 44, 45, 46, 47, 48, 49, 50, 51, 52, 53, 54, 55, 56, 57, 58, 59, 60, 61, 62, 63, 64, 65, 66, 67, 68, 69, 608, 609, 610, 611, 612, 613, 614, 615, 616, 617, 618, 619, 642, 643, 644, 645, 646, 647, 648, 649, 650, 651, 652, 653, 654, 655, 656, 657, 658] (by decide +kernel) (by decide +kernel)
set_option maxRecDepth 20000 in
theorem gL_law_X4_init : GoodIn wsL_law (wsX4_init) := ggL_law_X4_init
set_option maxRecDepth 20000 in
theorem ggL_law_X5_init : GoodIn wsL_law wsX5_init := goodIn_r _ [72, 73, 11, 12, 13, 74, 75, 76, 63, 77, 78, 79, 80, 81, 82, 83, 84, 85, 86, 87, 88, 89, 90, 91, 620, 621, 622, 623, 624, 625, 626, 627, 628, 629, 630, 631, 632, 633, 634, 635, 636, 637, 638, 639, 640, 641] (by decide +kernel) (by decide +kernel)
set_option maxRecDepth 20000 in
theorem gL_law_X5_init : GoodIn wsL_law (wsX5_init) := ggL_law_X5_init
set_option maxRecDepth 20000 in
theorem ggL_law_L_add : GoodIn wsL_law wsL_add := goodIn_ca (goodIn_ca (goodIn_r _ [95, 96, 97, 98, 99, 100, 2, 101, 102, 103, 104, 105, 106, 14, 15, 16, 107, 108, 109, 110, 608, 609, 610, 611, 612, 613, 614, 615, 616, 617, 618, 619] (by decide +kernel) (by decide +kernel)) (goodIn_sub (fun _ h => List.mem_append_left _ (List.mem_append_left _ (List.mem_append_right _ h))) (by decide +kernel))) (goodIn_sub (fun _ h => List.mem_append_left _ (List.mem_append_right _ h)) (by decide +kernel))
set_option maxRecDepth 20000 in
theorem gL_law_L_add : GoodIn wsL_law (va_wsS RL 62 yL_add wsL_add) := goodIn_app (goodIn_of _ (by decide +kernel)) ggL_law_L_add
set_option maxRecDepth 20000 in
theorem ggL_law_X5_add : GoodIn wsL_law wsX5_add := goodIn_r _ [114, 115, 74, 75, 76, 77, 116, 117, 5, 118, 119, 120, 121, 122, 123, 620, 621, 622, 623, 624, 625, 626, 627, 628, 629, 630, 631, 632, 633, 634, 635, 636, 637, 638, 639, 640, 641] (by decide +kernel) (by decide +kernel)
set_option maxRecDepth 20000 in
theorem gL_law_X5_add : GoodIn wsL_law (wsV RL 67 RX5 yX5_add wsX5_add) := goodIn_app (goodIn_of _ (by decide +kernel)) ggL_law_X5_add
set_option maxRecDepth 20000 in
theorem ggL_law_X5_thrown : GoodIn wsL_law wsX5_thrown := goodIn_r _ [127, 123, 620, 621, 622, 623, 624, 625, 626, 627, 628, 629, 630, 631, 632, 633, 634, 635, 636, 637, 638, 639, 640, 641] (by decide +kernel) (by decide +kernel)
set_option maxRecDepth 20000 in
theorem gL_law_X5_thrown : GoodIn wsL_law (wsV RL 68 RX5 yX5_thrown wsX5_thrown) := goodIn_app (goodIn_of _ (by decide +kernel)) ggL_law_X5_thrown
set_option maxRecDepth 20000 in
theorem ggL_law_L_remove : GoodIn wsL_law wsL_remove := goodIn_ca (goodIn_r _ [130, 131, 132, 133, 134, 2, 135, 107, 136, 137, 138, 139, 140, 141, 142, 143, 106, 144, 145, 146, 108, 109, 110, 147, 148, 149, 150, 151, 152, 153, 608, 609, 610, 611, 612, 613, 614, 615, 616, 617, 618, 619] (by decide +kernel) (by decide +kernel)) (goodIn_sub (fun _ h => List.mem_append_right _ h) (by decide +kernel))
set_option maxRecDepth 20000 in
theorem gL_law_L_remove : GoodIn wsL_law (va_wsS RL 72 yL_remove wsL_remove) := goodIn_app (goodIn_of _ (by decide +kernel)) ggL_law_L_remove
set_option maxRecDepth 20000 in
theorem ggL_law_X5_remove : GoodIn wsL_law wsX5_remove := goodIn_r _ [157, 77, 81, 158, 159, 160, 5, 161, 115, 116, 117, 118, 119, 120, 121, 122, 123, 162, 163, 164, 165, 620, 621, 622, 623, 624, 625, 626, 627, 628, 629, 630, 631, 632, 633, 634, 635, 636, 637, 638, 639, 640, 641] (by decide +kernel) (by decide +kernel)
set_option maxRecDepth 20000 in
theorem gL_law_X5_remove : GoodIn wsL_law (wsV RL 75 RX5 yX5_remove wsX5_remove) := goodIn_app (goodIn_of _ (by decide +kernel)) ggL_law_X5_remove
set_option maxRecDepth 20000 in
theorem ggL_law_L_move : GoodIn wsL_law wsL_move := goodIn_ca (goodIn_ca (goodIn_r _ [168, 131, 96, 169, 170, 171, 2, 172, 102, 103, 14, 15, 137, 136, 138, 139, 140, 141, 142, 143, 106, 107, 144, 145, 146, 108, 109, 110, 173, 174, 175, 176, 608, 609, 610, 611, 612, 613, 614, 615, 616, 617, 618, 619] (by decide +kernel) (by decide +kernel)) (goodIn_sub (fun _ h => List.mem_append_left _ (List.mem_append_left _ (List.mem_append_right _ h))) (by decide +kernel))) (goodIn_sub (fun _ h => List.mem_append_right _ h) (by decide +kernel))
set_option maxRecDepth 20000 in
theorem gL_law_L_move : GoodIn wsL_law (va_wsS RL 76 yL_move wsL_move) := goodIn_app (goodIn_of _ (by decide +kernel)) ggL_law_L_move
set_option maxRecDepth 20000 in
theorem ggL_law_X5_move : GoodIn wsL_law wsX5_move := goodIn_r _ [180, 75, 74, 81, 158, 159, 160, 5, 161, 115, 77, 116, 117, 118, 119, 120, 121, 122, 123, 620, 621, 622, 623, 624, 625, 626, 627, 628, 629, 630, 631, 632, 633, 634, 635, 636, 637, 638, 639, 640, 641] (by decide +kernel) (by decide +kernel)
set_option maxRecDepth 20000 in
theorem gL_law_X5_move : GoodIn wsL_law (wsV RL 79 RX5 yX5_move wsX5_move) := goodIn_app (goodIn_of _ (by decide +kernel)) ggL_law_X5_move
set_option maxRecDepth 20000 in
theorem ggL_law_X4_intervals : GoodIn wsL_law wsX4_intervals := goodIn_r _ [184, 107, 147, 148, 149, 150, 151, 152, 153, 608, 609, 610, 611, 612, 613, 614, 615, 616, 617, 618, 619] (by decide +kernel) (by decide +kernel)
set_option maxRecDepth 20000 in
theorem gL_law_X4_intervals : GoodIn wsL_law (wsV RL 80 RX4 yX4_intervals wsX4_intervals) := goodIn_app (goodIn_of _ (by decide +kernel)) ggL_law_X4_intervals
set_option maxRecDepth 20000 in
theorem ggL_law_X5_intervals : GoodIn wsL_law wsX5_intervals := goodIn_r _ [188, 123, 162, 163, 164, 5, 165, 115, 77, 620, 621, 622, 623, 624, 625, 626, 627, 628, 629, 630, 631, 632, 633, 634, 635, 636, 637, 638, 639, 640, 641] (by decide +kernel) (by decide +kernel)
set_option maxRecDepth 20000 in
theorem gL_law_X5_intervals : GoodIn wsL_law (wsV RL 83 RX5 yX5_intervals wsX5_intervals) := goodIn_app (goodIn_of _ (by decide +kernel)) ggL_law_X5_intervals
set_option maxRecDepth 20000 in
theorem ggL_law_X4_present : GoodIn wsL_law wsX4_present := goodIn_r _ [192, 107, 608, 609, 610, 611, 612, 613, 614, 615, 616, 617, 618, 619] (by decide +kernel) (by decide +kernel)
set_option maxRecDepth 20000 in
theorem gL_law_X4_present : GoodIn wsL_law (wsV RL 84 RX4 yX4_present wsX4_present) := goodIn_app (goodIn_of _ (by decide +kernel)) ggL_law_X4_present
set_option maxRecDepth 20000 in
theorem ggL_law_X5_present : GoodIn wsL_law wsX5_present := goodIn_r _ [196, 123, 115, 77, 620, 621, 622, 623, 624, 625, 626, 627, 628, 629, 630, 631, 632, 633, 634, 635, 636, 637, 638, 639, 640, 641] (by decide +kernel) (by decide +kernel)
set_option maxRecDepth 20000 in
theorem gL_law_X5_present : GoodIn wsL_law (wsV RL 88 RX5 yX5_present wsX5_present) := goodIn_app (goodIn_of _ (by decide +kernel)) ggL_law_X5_present
set_option maxRecDepth 20000 in
theorem ggL_law_L_overlapping : GoodIn wsL_law wsL_overlapping := goodIn_ca (goodIn_r _ [199, 131, 200, 201, 202, 2, 203, 138, 139, 140, 141, 142, 143, 106, 107, 144, 145, 146, 108, 109, 110, 204, 205, 206, 207, 14, 15, 136, 608, 609, 610, 611, 612, 613, 614, 615, 616, 617, 618, 619] (by decide +kernel) (by decide +kernel)) (goodIn_sub (fun _ h => List.mem_append_right _ h) (by decide +kernel))
set_option maxRecDepth 20000 in
theorem gL_law_L_overlapping : GoodIn wsL_law (va_wsS RL 89 yL_overlapping wsL_overlapping) := goodIn_app (goodIn_of _ (by decide +kernel)) ggL_law_L_overlapping
set_option maxRecDepth 20000 in
theorem ggL_law_X5_overlapping : GoodIn wsL_law wsX5_overlapping := goodIn_r _ [211, 115, 77, 158, 159, 160, 5, 161, 116, 117, 118, 119, 120, 121, 122, 123, 212, 213, 214, 215, 74, 75, 620, 621, 622, 623, 624, 625, 626, 627, 628, 629, 630, 631, 632, 633, 634, 635, 636, 637, 638, 639, 640, 641] (by decide +kernel) (by decide +kernel)
set_option maxRecDepth 20000 in
theorem gL_law_X5_overlapping : GoodIn wsL_law (wsV RL 91 RX5 yX5_overlapping wsX5_overlapping) := goodIn_app (goodIn_of _ (by decide +kernel)) ggL_law_X5_overlapping
set_option maxRecDepth 20000 in
theorem ggL_law_X4_rooms : GoodIn wsL_law wsX4_rooms := goodIn_r _ [219, 220, 221, 222, 2, 223, 106, 14, 107, 144, 145, 146, 108, 109, 110, 224, 225, 226, 227, 15, 608, 609, 610, 611, 612, 613, 614, 615, 616, 617, 618, 619] (by decide +kernel) (by decide +kernel)
set_option maxRecDepth 20000 in
theorem gL_law_X4_rooms : GoodIn wsL_law (wsV RL 92 RX4 yX4_rooms wsX4_rooms) := goodIn_app (goodIn_of _ (by decide +kernel)) ggL_law_X4_rooms
set_option maxRecDepth 20000 in
theorem ggL_law_X5_rooms : GoodIn wsL_law wsX5_rooms := goodIn_r _ [231, 123, 232, 233, 234, 5, 235, 236, 237, 238, 239, 115, 77, 74, 75, 620, 621, 622, 623, 624, 625, 626, 627, 628, 629, 630, 631, 632, 633, 634, 635, 636, 637, 638, 639, 640, 641] (by decide +kernel) (by decide +kernel)
set_option maxRecDepth 20000 in
theorem gL_law_X5_rooms : GoodIn wsL_law (wsV RL 95 RX5 yX5_rooms wsX5_rooms) := goodIn_app (goodIn_of _ (by decide +kernel)) ggL_law_X5_rooms
set_option maxRecDepth 20000 in
theorem ggL_law_L_roomOf : GoodIn wsL_law wsL_roomOf := goodIn_ca (goodIn_r _ [242, 131, 243, 244, 245, 2, 246, 21, 107, 138, 139, 140, 141, 142, 143, 106, 144, 145, 146, 108, 109, 110, 247, 248, 249, 250, 14, 15, 16, 251, 252, 253, 36, 254, 255, 256, 257, 258, 259, 44, 45, 46, 47, 260, 261, 262, 263, 43, 264, 265, 266, 267, 268, 269, 270, 20, 271, 37, 38, 272, 273, 274, 275, 276, 277, 278, 279, 608, 609, 610, 611, 612, 613, 614, 615, 616, 617, 618, 619, 642, 643, 653, 654, 655, 656, 657, 658] (by decide +kernel) (by decide +kernel)) (goodIn_sub (fun _ h => List.mem_append_right _ h) (by decide +kernel))
set_option maxRecDepth 20000 in
theorem gL_law_L_roomOf : GoodIn wsL_law (va_wsS RL 96 yL_roomOf wsL_roomOf) := goodIn_app (goodIn_of _ (by decide +kernel)) ggL_law_L_roomOf
set_option maxRecDepth 20000 in
theorem ggL_law_X5_roomOf : GoodIn wsL_law wsX5_roomOf := goodIn_r _ [283, 115, 78, 77, 74, 158, 159, 160, 5, 161, 116, 117, 118, 119, 120, 121, 122, 123, 284, 285, 286, 287, 212, 213, 214, 215, 75, 620, 621, 622, 623, 624, 625, 626, 627, 628, 629, 630, 631, 632, 633, 634, 635, 636, 637, 638, 639, 640, 641] (by decide +kernel) (by decide +kernel)
set_option maxRecDepth 20000 in
theorem gL_law_X5_roomOf : GoodIn wsL_law (wsV RL 98 RX5 yX5_roomOf wsX5_roomOf) := goodIn_app (goodIn_of _ (by decide +kernel)) ggL_law_X5_roomOf
set_option maxRecDepth 20000 in
theorem ggL_law_L_depth : GoodIn wsL_law wsL_depth := goodIn_ca (goodIn_r _ [290, 96, 291, 292, 293, 2, 294, 102, 103, 224, 225, 226, 227, 106, 107, 14, 15, 144, 145, 146, 108, 109, 110, 608, 609, 610, 611, 612, 613, 614, 615, 616, 617, 618, 619] (by decide +kernel) (by decide +kernel)) (goodIn_sub (fun _ h => List.mem_append_left _ (List.mem_append_left _ (List.mem_append_right _ h))) (by decide +kernel))
set_option maxRecDepth 20000 in
theorem gL_law_L_depth : GoodIn wsL_law (va_wsS RL 99 yL_depth wsL_depth) := goodIn_app (goodIn_of _ (by decide +kernel)) ggL_law_L_depth
set_option maxRecDepth 20000 in
theorem ggL_law_X5_depth : GoodIn wsL_law wsX5_depth := goodIn_r _ [298, 116, 117, 5, 118, 119, 120, 121, 122, 123, 236, 237, 238, 239, 115, 77, 74, 75, 620, 621, 622, 623, 624, 625, 626, 627, 628, 629, 630, 631, 632, 633, 634, 635, 636, 637, 638, 639, 640, 641] (by decide +kernel) (by decide +kernel)
set_option maxRecDepth 20000 in
theorem gL_law_X5_depth : GoodIn wsL_law (wsV RL 101 RX5 yX5_depth wsX5_depth) := goodIn_app (goodIn_of _ (by decide +kernel)) ggL_law_X5_depth
set_option maxRecDepth 20000 in
theorem ggL_law_X4_busiest : GoodIn wsL_law wsX4_busiest := goodIn_r _ [302, 220, 221, 222, 2, 223, 106, 14, 107, 144, 145, 146, 108, 109, 110, 224, 225, 226, 227, 15, 608, 609, 610, 611, 612, 613, 614, 615, 616, 617, 618, 619] (by decide +kernel) (by decide +kernel)
set_option maxRecDepth 20000 in
theorem gL_law_X4_busiest : GoodIn wsL_law (wsV RL 102 RX4 yX4_busiest wsX4_busiest) := goodIn_app (goodIn_of _ (by decide +kernel)) ggL_law_X4_busiest
set_option maxRecDepth 20000 in
theorem ggL_law_X5_busiest : GoodIn wsL_law wsX5_busiest := goodIn_r _ [306, 123, 162, 163, 164, 5, 165, 115, 77, 232, 233, 234, 235, 236, 237, 238, 239, 74, 75, 620, 621, 622, 623, 624, 625, 626, 627, 628, 629, 630, 631, 632, 633, 634, 635, 636, 637, 638, 639, 640, 641] (by decide +kernel) (by decide +kernel)
set_option maxRecDepth 20000 in
theorem gL_law_X5_busiest : GoodIn wsL_law (wsV RL 105 RX5 yX5_busiest wsX5_busiest) := goodIn_app (goodIn_of _ (by decide +kernel)) ggL_law_X5_busiest
set_option maxRecDepth 20000 in
theorem ggL_law_L_earliest : GoodIn wsL_law wsL_earliest := goodIn_ca (goodIn_r _ [309, 96, 310, 311, 312, 2, 313, 102, 103, 314, 315, 316, 317, 106, 14, 224, 225, 226, 227, 107, 15, 144, 145, 146, 108, 109, 110, 318, 319, 320, 321, 608, 609, 610, 611, 612, 613, 614, 615, 616, 617, 618, 619] (by decide +kernel) (by decide +kernel)) (goodIn_sub (fun _ h => List.mem_append_left _ (List.mem_append_left _ (List.mem_append_right _ h))) (by decide +kernel))
set_option maxRecDepth 20000 in
theorem gL_law_L_earliest : GoodIn wsL_law (va_wsS RL 106 yL_earliest wsL_earliest) := goodIn_app (goodIn_of _ (by decide +kernel)) ggL_law_L_earliest
set_option maxRecDepth 20000 in
theorem ggL_law_X5_earliest : GoodIn wsL_law wsX5_earliest := goodIn_r _ [325, 116, 117, 5, 118, 119, 120, 121, 122, 123, 236, 237, 238, 239, 115, 77, 74, 75, 620, 621, 622, 623, 624, 625, 626, 627, 628, 629, 630, 631, 632, 633, 634, 635, 636, 637, 638, 639, 640, 641] (by decide +kernel) (by decide +kernel)
set_option maxRecDepth 20000 in
theorem gL_law_X5_earliest : GoodIn wsL_law (wsV RL 108 RX5 yX5_earliest wsX5_earliest) := goodIn_app (goodIn_of _ (by decide +kernel)) ggL_law_X5_earliest
set_option maxRecDepth 20000 in
theorem ggL_law_X4_heaviest : GoodIn wsL_law wsX4_heaviest := goodIn_r _ [329, 107, 330, 331, 332, 2, 333, 25, 247, 248, 249, 250, 106, 14, 15, 16, 251, 252, 253, 36, 254, 255, 144, 145, 146, 108, 109, 110, 256, 257, 258, 259, 44, 45, 46, 47, 260, 261, 262, 263, 43, 264, 265, 266, 267, 334, 335, 336, 24, 337, 54, 53, 338, 339, 340, 341, 342, 343, 344, 345, 608, 609, 610, 611, 612, 613, 614, 615, 616, 617, 618, 619, 644, 645, 653, 654, 655, 656, 657, 658] (by decide +kernel) (by decide +kernel)
set_option maxRecDepth 20000 in
theorem gL_law_X4_heaviest : GoodIn wsL_law (wsV RL 109 RX4 yX4_heaviest wsX4_heaviest) := goodIn_app (goodIn_of _ (by decide +kernel)) ggL_law_X4_heaviest
set_option maxRecDepth 20000 in
theorem ggL_law_X5_heaviest : GoodIn wsL_law wsX5_heaviest := goodIn_r _ [349, 123, 350, 351, 352, 5, 353, 115, 86, 77, 80, 84, 74, 85, 75, 354, 355, 356, 357, 82, 76, 620, 621, 622, 623, 624, 625, 626, 627, 628, 629, 630, 631, 632, 633, 634, 635, 636, 637, 638, 639, 640, 641] (by decide +kernel) (by decide +kernel)
set_option maxRecDepth 20000 in
theorem gL_law_X5_heaviest : GoodIn wsL_law (wsV RL 112 RX5 yX5_heaviest wsX5_heaviest) := goodIn_app (goodIn_of _ (by decide +kernel)) ggL_law_X5_heaviest
set_option maxRecDepth 20000 in
theorem ggL_law_X4_chosen : GoodIn wsL_law wsX4_chosen := goodIn_r _ [361, 25, 107, 247, 248, 249, 2, 250, 106, 14, 15, 16, 251, 252, 253, 36, 254, 255, 144, 145, 146, 108, 109, 110, 256, 257, 258, 259, 44, 45, 46, 47, 260, 261, 262, 263, 43, 264, 265, 266, 267, 362, 363, 364, 24, 365, 53, 54, 366, 335, 336, 337, 338, 339, 340, 341, 342, 343, 344, 345, 608, 609, 610, 611, 612, 613, 614, 615, 616, 617, 618, 619, 644, 645, 653, 654, 655, 656, 657, 658] (by decide +kernel) (by decide +kernel)
set_option maxRecDepth 20000 in
theorem gL_law_X4_chosen : GoodIn wsL_law (wsV RL 113 RX4 yX4_chosen wsX4_chosen) := goodIn_app (goodIn_of _ (by decide +kernel)) ggL_law_X4_chosen
set_option maxRecDepth 20000 in
theorem ggL_law_X5_chosen : GoodIn wsL_law wsX5_chosen := goodIn_r _ [370, 123, 83, 115, 77, 75, 74, 371, 372, 373, 5, 374, 375, 376, 377, 378, 86, 84, 85, 354, 355, 356, 357, 82, 76, 620, 621, 622, 623, 624, 625, 626, 627, 628, 629, 630, 631, 632, 633, 634, 635, 636, 637, 638, 639, 640, 641] (by decide +kernel) (by decide +kernel)
set_option maxRecDepth 20000 in
theorem gL_law_X5_chosen : GoodIn wsL_law (wsV RL 116 RX5 yX5_chosen wsX5_chosen) := goodIn_app (goodIn_of _ (by decide +kernel)) ggL_law_X5_chosen
set_option maxRecDepth 20000 in
theorem ggL_law_X4_most : GoodIn wsL_law wsX4_most := goodIn_r _ [382, 25, 107, 247, 248, 249, 2, 250, 106, 14, 15, 16, 251, 252, 253, 36, 254, 255, 144, 145, 146, 108, 109, 110, 256, 257, 258, 259, 44, 45, 46, 47, 260, 261, 262, 263, 43, 264, 265, 266, 267, 383, 384, 385, 24, 386, 53, 608, 609, 610, 611, 612, 613, 614, 615, 616, 617, 618, 619, 644, 645, 653, 654, 655, 656, 657, 658] (by decide +kernel) (by decide +kernel)
set_option maxRecDepth 20000 in
theorem gL_law_X4_most : GoodIn wsL_law (wsV RL 117 RX4 yX4_most wsX4_most) := goodIn_app (goodIn_of _ (by decide +kernel)) ggL_law_X4_most
set_option maxRecDepth 20000 in
theorem ggL_law_X5_most : GoodIn wsL_law wsX5_most := goodIn_r _ [390, 123, 74, 83, 75, 371, 372, 373, 5, 374, 115, 77, 620, 621, 622, 623, 624, 625, 626, 627, 628, 629, 630, 631, 632, 633, 634, 635, 636, 637, 638, 639, 640, 641] (by decide +kernel) (by decide +kernel)
set_option maxRecDepth 20000 in
theorem gL_law_X5_most : GoodIn wsL_law (wsV RL 120 RX5 yX5_most wsX5_most) := goodIn_app (goodIn_of _ (by decide +kernel)) ggL_law_X5_most
set_option maxRecDepth 20000 in
theorem ggL_law_L_heaviestIn : GoodIn wsL_law wsL_heaviestIn := goodIn_ca (goodIn_r _ [393, 96, 394, 395, 396, 2, 397, 107, 398, 399, 400, 102, 103, 401, 402, 403, 404, 29, 247, 248, 249, 250, 106, 14, 15, 16, 251, 252, 253, 36, 254, 255, 144, 145, 146, 108, 109, 110, 256, 257, 258, 259, 44, 45, 46, 47, 260, 261, 262, 263, 43, 264, 265, 266, 267, 405, 406, 407, 28, 408, 66, 61, 409, 410, 411, 412, 64, 65, 62, 413, 414, 415, 416, 417, 418, 419, 420, 67, 68, 421, 422, 423, 424, 425, 426, 427, 428, 429, 430, 431, 432, 433, 434, 435, 436, 437, 438, 340, 439, 608, 609, 610, 611, 612, 613, 614, 615, 616, 617, 618, 619, 646, 647, 648, 649, 650, 651, 652, 653, 654, 655, 656, 657, 658] (by decide +kernel) (by decide +kernel)) (goodIn_sub (fun _ h => List.mem_append_left _ (List.mem_append_left _ (List.mem_append_right _ h))) (by decide +kernel))
set_option maxRecDepth 20000 in
theorem gL_law_L_heaviestIn : GoodIn wsL_law (va_wsS RL 121 yL_heaviestIn wsL_heaviestIn) := goodIn_app (goodIn_of _ (by decide +kernel)) ggL_law_L_heaviestIn
set_option maxRecDepth 20000 in
theorem ggL_law_X5_heaviestIn : GoodIn wsL_law wsX5_heaviestIn := goodIn_r _ [443, 116, 117, 5, 118, 119, 120, 121, 122, 123, 444, 445, 446, 447, 115, 86, 77, 448, 90, 449, 450, 451, 452, 74, 75, 87, 88, 89, 453, 454, 455, 456, 457, 76, 458, 459, 460, 461, 91, 462, 463, 464, 465, 466, 467, 468, 469, 620, 621, 622, 623, 624, 625, 626, 627, 628, 629, 630, 631, 632, 633, 634, 635, 636, 637, 638, 639, 640, 641] (by decide +kernel) (by decide +kernel)
set_option maxRecDepth 20000 in
theorem gL_law_X5_heaviestIn : GoodIn wsL_law (wsV RL 123 RX5 yX5_heaviestIn wsX5_heaviestIn) := goodIn_app (goodIn_of _ (by decide +kernel)) ggL_law_X5_heaviestIn
set_option maxRecDepth 20000 in
theorem ggL_law_L_lossWithout : GoodIn wsL_law wsL_lossWithout := goodIn_ca (goodIn_ca (goodIn_r _ [472, 131, 96, 473, 474, 475, 2, 476, 107, 136, 138, 139, 140, 141, 142, 143, 106, 144, 145, 146, 108, 109, 110, 398, 399, 400, 102, 103, 401, 402, 403, 404, 29, 247, 248, 249, 250, 14, 15, 16, 251, 252, 253, 36, 254, 255, 256, 257, 258, 259, 44, 45, 46, 47, 260, 261, 262, 263, 43, 264, 265, 266, 267, 405, 406, 407, 28, 408, 66, 61, 409, 410, 411, 412, 64, 65, 62, 413, 414, 415, 416, 417, 418, 419, 420, 67, 68, 421, 422, 423, 424, 425, 426, 427, 428, 429, 430, 431, 432, 433, 434, 435, 436, 437, 438, 340, 439, 608, 609, 610, 611, 612, 613, 614, 615, 616, 617, 618, 619, 646, 647, 648, 649, 650, 651, 652, 653, 654, 655, 656, 657, 658] (by decide +kernel) (by decide +kernel)) (goodIn_sub (fun _ h => List.mem_append_right _ h) (by decide +kernel))) (goodIn_sub (fun _ h => List.mem_append_left _ (List.mem_append_left _ (List.mem_append_right _ h))) (by decide +kernel))
set_option maxRecDepth 20000 in
theorem gL_law_L_lossWithout : GoodIn wsL_law (va_wsS RL 124 yL_lossWithout wsL_lossWithout) := goodIn_app (goodIn_of _ (by decide +kernel)) ggL_law_L_lossWithout
set_option maxRecDepth 20000 in
theorem ggL_law_X5_lossWithout : GoodIn wsL_law wsX5_lossWithout := goodIn_r _ [480, 158, 159, 160, 5, 161, 115, 77, 116, 117, 118, 119, 120, 121, 122, 123, 444, 445, 446, 447, 86, 448, 90, 449, 450, 451, 452, 74, 75, 87, 88, 89, 453, 454, 455, 456, 457, 76, 458, 459, 460, 461, 91, 462, 463, 464, 465, 466, 467, 468, 469, 620, 621, 622, 623, 624, 625, 626, 627, 628, 629, 630, 631, 632, 633, 634, 635, 636, 637, 638, 639, 640, 641] (by decide +kernel) (by decide +kernel)
set_option maxRecDepth 20000 in
theorem gL_law_X5_lossWithout : GoodIn wsL_law (wsV RL 126 RX5 yX5_lossWithout wsX5_lossWithout) := goodIn_app (goodIn_of _ (by decide +kernel)) ggL_law_X5_lossWithout
set_option maxRecDepth 20000 in
theorem ggL_law_L_openDesk : GoodIn wsL_law wsL_openDesk := goodIn_ca (goodIn_r _ [483, 96, 484, 485, 486, 2, 487, 102, 103, 137, 17, 488, 489, 490, 491, 492, 493, 106, 16, 144, 145, 146, 108, 109, 110, 608, 609, 610, 611, 612, 613, 614, 615, 616, 617, 618, 619] (by decide +kernel) (by decide +kernel)) (goodIn_sub (fun _ h => List.mem_append_left _ (List.mem_append_left _ (List.mem_append_right _ h))) (by decide +kernel))
set_option maxRecDepth 20000 in
theorem gL_law_L_openDesk : GoodIn wsL_law (va_wsS RL 127 yL_openDesk wsL_openDesk) := goodIn_app (goodIn_of _ (by decide +kernel)) ggL_law_L_openDesk
set_option maxRecDepth 20000 in
theorem ggL_law_X5_openDesk : GoodIn wsL_law wsX5_openDesk := goodIn_r _ [497, 79, 498, 81, 80, 116, 117, 5, 118, 119, 120, 121, 122, 123, 499, 500, 501, 502, 115, 76, 620, 621, 622, 623, 624, 625, 626, 627, 628, 629, 630, 631, 632, 633, 634, 635, 636, 637, 638, 639, 640, 641] (by decide +kernel) (by decide +kernel)
set_option maxRecDepth 20000 in
theorem gL_law_X5_openDesk : GoodIn wsL_law (wsV RL 129 RX5 yX5_openDesk wsX5_openDesk) := goodIn_app (goodIn_of _ (by decide +kernel)) ggL_law_X5_openDesk
set_option maxRecDepth 20000 in
theorem ggL_law_L_offer : GoodIn wsL_law wsL_offer := goodIn_ca (goodIn_ca (goodIn_r _ [505, 131, 97, 506, 507, 508, 2, 509, 104, 105, 488, 137, 16, 17, 136, 489, 138, 139, 140, 141, 142, 143, 106, 107, 144, 145, 146, 108, 109, 110, 204, 205, 206, 207, 14, 15, 490, 491, 492, 493, 608, 609, 610, 611, 612, 613, 614, 615, 616, 617, 618, 619] (by decide +kernel) (by decide +kernel)) (goodIn_sub (fun _ h => List.mem_append_left _ (List.mem_append_right _ h)) (by decide +kernel))) (goodIn_sub (fun _ h => List.mem_append_right _ h) (by decide +kernel))
set_option maxRecDepth 20000 in
theorem gL_law_L_offer : GoodIn wsL_law (va_wsS RL 130 yL_offer wsL_offer) := goodIn_app (goodIn_of _ (by decide +kernel)) ggL_law_L_offer
set_option maxRecDepth 20000 in
theorem ggL_law_X5_offer : GoodIn wsL_law wsX5_offer := goodIn_r _ [513, 80, 115, 81, 76, 79, 498, 158, 159, 160, 5, 161, 77, 116, 117, 118, 119, 120, 121, 122, 123, 212, 213, 214, 215, 74, 75, 620, 621, 622, 623, 624, 625, 626, 627, 628, 629, 630, 631, 632, 633, 634, 635, 636, 637, 638, 639, 640, 641] (by decide +kernel) (by decide +kernel)
set_option maxRecDepth 20000 in
theorem gL_law_X5_offer : GoodIn wsL_law (wsV RL 132 RX5 yX5_offer wsX5_offer) := goodIn_app (goodIn_of _ (by decide +kernel)) ggL_law_X5_offer
set_option maxRecDepth 20000 in
theorem ggL_law_X4_accepted : GoodIn wsL_law wsX4_accepted := goodIn_r _ [517, 137, 608, 609, 610, 611, 612, 613, 614, 615, 616, 617, 618, 619] (by decide +kernel) (by decide +kernel)
set_option maxRecDepth 20000 in
theorem gL_law_X4_accepted : GoodIn wsL_law (wsV RL 133 RX4 yX4_accepted wsX4_accepted) := goodIn_app (goodIn_of _ (by decide +kernel)) ggL_law_X4_accepted
set_option maxRecDepth 20000 in
theorem ggL_law_X5_accepted : GoodIn wsL_law wsX5_accepted := goodIn_r _ [521, 123, 115, 81, 620, 621, 622, 623, 624, 625, 626, 627, 628, 629, 630, 631, 632, 633, 634, 635, 636, 637, 638, 639, 640, 641] (by decide +kernel) (by decide +kernel)
set_option maxRecDepth 20000 in
theorem gL_law_X5_accepted : GoodIn wsL_law (wsV RL 136 RX5 yX5_accepted wsX5_accepted) := goodIn_app (goodIn_of _ (by decide +kernel)) ggL_law_X5_accepted
set_option maxRecDepth 20000 in
theorem ggL_law_X4_acceptedWeight : GoodIn wsL_law wsX4_acceptedWeight := goodIn_r _ [525, 137, 490, 491, 492, 2, 493, 106, 16, 144, 145, 146, 108, 109, 110, 608, 609, 610, 611, 612, 613, 614, 615, 616, 617, 618, 619] (by decide +kernel) (by decide +kernel)
set_option maxRecDepth 20000 in
theorem gL_law_X4_acceptedWeight : GoodIn wsL_law (wsV RL 137 RX4 yX4_acceptedWeight wsX4_acceptedWeight) := goodIn_app (goodIn_of _ (by decide +kernel)) ggL_law_X4_acceptedWeight
set_option maxRecDepth 20000 in
theorem ggL_law_X5_acceptedWeight : GoodIn wsL_law wsX5_acceptedWeight := goodIn_r _ [529, 123, 499, 500, 501, 5, 502, 115, 81, 76, 620, 621, 622, 623, 624, 625, 626, 627, 628, 629, 630, 631, 632, 633, 634, 635, 636, 637, 638, 639, 640, 641] (by decide +kernel) (by decide +kernel)
set_option maxRecDepth 20000 in
theorem gL_law_X5_acceptedWeight : GoodIn wsL_law (wsV RL 140 RX5 yX5_acceptedWeight wsX5_acceptedWeight) := goodIn_app (goodIn_of _ (by decide +kernel)) ggL_law_X5_acceptedWeight
set_option maxRecDepth 20000 in
theorem ggL_law_X4_droppedWeight : GoodIn wsL_law wsX4_droppedWeight := goodIn_r _ [533, 489, 608, 609, 610, 611, 612, 613, 614, 615, 616, 617, 618, 619] (by decide +kernel) (by decide +kernel)
set_option maxRecDepth 20000 in
theorem gL_law_X4_droppedWeight : GoodIn wsL_law (wsV RL 141 RX4 yX4_droppedWeight wsX4_droppedWeight) := goodIn_app (goodIn_of _ (by decide +kernel)) ggL_law_X4_droppedWeight
set_option maxRecDepth 20000 in
theorem ggL_law_X5_droppedWeight : GoodIn wsL_law wsX5_droppedWeight := goodIn_r _ [537, 123, 498, 620, 621, 622, 623, 624, 625, 626, 627, 628, 629, 630, 631, 632, 633, 634, 635, 636, 637, 638, 639, 640, 641] (by decide +kernel) (by decide +kernel)
set_option maxRecDepth 20000 in
theorem gL_law_X5_droppedWeight : GoodIn wsL_law (wsV RL 144 RX5 yX5_droppedWeight wsX5_droppedWeight) := goodIn_app (goodIn_of _ (by decide +kernel)) ggL_law_X5_droppedWeight
set_option maxRecDepth 20000 in
theorem ggL_law_X4_bestOfOffered : GoodIn wsL_law wsX4_bestOfOffered := goodIn_r _ [541, 107, 488, 330, 331, 332, 2, 333, 25, 247, 248, 249, 250, 106, 14, 15, 16, 251, 252, 253, 36, 254, 255, 144, 145, 146, 108, 109, 110, 256, 257, 258, 259, 44, 45, 46, 47, 260, 261, 262, 263, 43, 264, 265, 266, 267, 334, 335, 336, 24, 337, 54, 53, 338, 339, 340, 341, 342, 343, 344, 345, 608, 609, 610, 611, 612, 613, 614, 615, 616, 617, 618, 619, 644, 645, 653, 654, 655, 656, 657, 658] (by decide +kernel) (by decide +kernel)
set_option maxRecDepth 20000 in
theorem gL_law_X4_bestOfOffered : GoodIn wsL_law (wsV RL 145 RX4 yX4_bestOfOffered wsX4_bestOfOffered) := goodIn_app (goodIn_of _ (by decide +kernel)) ggL_law_X4_bestOfOffered
set_option maxRecDepth 20000 in
theorem ggL_law_X5_bestOfOffered : GoodIn wsL_law wsX5_bestOfOffered := goodIn_r _ [545, 123, 350, 351, 352, 5, 353, 115, 86, 77, 80, 84, 74, 85, 75, 354, 355, 356, 357, 82, 76, 620, 621, 622, 623, 624, 625, 626, 627, 628, 629, 630, 631, 632, 633, 634, 635, 636, 637, 638, 639, 640, 641] (by decide +kernel) (by decide +kernel)
set_option maxRecDepth 20000 in
theorem gL_law_X5_bestOfOffered : GoodIn wsL_law (wsV RL 148 RX5 yX5_bestOfOffered wsX5_bestOfOffered) := goodIn_app (goodIn_of _ (by decide +kernel)) ggL_law_X5_bestOfOffered
set_option maxRecDepth 20000 in
theorem ggL_law_L_depthRound : GoodIn wsL_law wsL_depthRound := goodIn_ca (goodIn_ca (goodIn_r _ [548, 96, 97, 549, 550, 551, 2, 552, 106, 107, 14, 553, 339, 340, 341, 554, 555, 556, 557, 102, 103, 104, 105, 144, 145, 146, 108, 109, 110, 173, 174, 175, 176, 15, 558, 559, 560, 561, 562, 563, 564, 565, 566, 567, 568, 608, 609, 610, 611, 612, 613, 614, 615, 616, 617, 618, 619] (by decide +kernel) (by decide +kernel)) (goodIn_sub (fun _ h => List.mem_append_left _ (List.mem_append_left _ (List.mem_append_right _ h))) (by decide +kernel))) (goodIn_sub (fun _ h => List.mem_append_left _ (List.mem_append_right _ h)) (by decide +kernel))
set_option maxRecDepth 20000 in
theorem gL_law_L_depthRound : GoodIn wsL_law (va_wsS RL 149 yL_depthRound wsL_depthRound) := goodIn_app (goodIn_of _ (by decide +kernel)) ggL_law_L_depthRound
set_option maxRecDepth 20000 in
theorem ggL_law_X5_depthRound : GoodIn wsL_law wsX5_depthRound := goodIn_r _ [572, 115, 77, 573, 574, 575, 5, 576, 75, 74, 116, 117, 118, 119, 120, 121, 122, 123, 577, 578, 579, 580, 620, 621, 622, 623, 624, 625, 626, 627, 628, 629, 630, 631, 632, 633, 634, 635, 636, 637, 638, 639, 640, 641] (by decide +kernel) (by decide +kernel)
set_option maxRecDepth 20000 in
theorem gL_law_X5_depthRound : GoodIn wsL_law (wsV RL 151 RX5 yX5_depthRound wsX5_depthRound) := goodIn_app (goodIn_of _ (by decide +kernel)) ggL_law_X5_depthRound
set_option maxRecDepth 20000 in
theorem ggL_law_L_heaviestRound : GoodIn wsL_law wsL_heaviestRound := goodIn_ca (goodIn_ca (goodIn_r _ [583, 96, 97, 584, 585, 586, 2, 587, 106, 107, 14, 16, 553, 339, 340, 341, 554, 555, 556, 557, 102, 103, 104, 105, 144, 145, 146, 108, 109, 110, 173, 174, 175, 176, 15, 588, 589, 590, 591, 25, 592, 593, 594, 595, 251, 252, 253, 36, 254, 255, 562, 563, 564, 565, 566, 567, 568, 256, 257, 258, 259, 44, 45, 46, 47, 260, 261, 262, 263, 43, 264, 265, 266, 267, 334, 335, 336, 24, 337, 54, 53, 338, 342, 343, 344, 345, 596, 597, 598, 599, 608, 609, 610, 611, 612, 613, 614, 615, 616, 617, 618, 619, 644, 645, 653, 654, 655, 656, 657, 658] (by decide +kernel) (by decide +kernel)) (goodIn_sub (fun _ h => List.mem_append_left _ (List.mem_append_left _ (List.mem_append_right _ h))) (by decide +kernel))) (goodIn_sub (fun _ h => List.mem_append_left _ (List.mem_append_right _ h)) (by decide +kernel))
set_option maxRecDepth 20000 in
theorem gL_law_L_heaviestRound : GoodIn wsL_law (va_wsS RL 152 yL_heaviestRound wsL_heaviestRound) := goodIn_app (goodIn_of _ (by decide +kernel)) ggL_law_L_heaviestRound
set_option maxRecDepth 20000 in
theorem ggL_law_X5_heaviestRound : GoodIn wsL_law wsX5_heaviestRound := goodIn_r _ [603, 115, 77, 573, 574, 575, 5, 576, 75, 74, 116, 117, 118, 119, 120, 121, 122, 123, 604, 605, 606, 607, 84, 85, 86, 76, 577, 578, 579, 580, 354, 355, 356, 357, 82, 620, 621, 622, 623, 624, 625, 626, 627, 628, 629, 630, 631, 632, 633, 634, 635, 636, 637, 638, 639, 640, 641] (by decide +kernel) (by decide +kernel)
set_option maxRecDepth 20000 in
theorem gL_law_X5_heaviestRound : GoodIn wsL_law (wsV RL 154 RX5 yX5_heaviestRound wsX5_heaviestRound) := goodIn_app (goodIn_of _ (by decide +kernel)) ggL_law_X5_heaviestRound

