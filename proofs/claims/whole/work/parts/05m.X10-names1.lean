set_option maxRecDepth 100000 in
theorem gX10_forged_X10_greatestOfPairs : GoodIn wsX10_forged (wsV RX10 241 RX10 yX10_greatestOfPairs wsX10_greatestOfPairs) := goodIn_app (goodIn_of _ (by decide +kernel)) ggX10_forged_X10_greatestOfPairs
set_option maxRecDepth 100000 in
theorem ggX10_forged_X10_nearestOf : GoodIn wsX10_forged wsX10_nearestOf := goodIn_r _ [113, 109, 8, 23, 24, 4, 25, 26, 27, 28, 29, 30, 31, 32, 33, 34, 35, 36, 37, 38, 39, 40, 41, 42, 43, 44, 45, 46, 47, 48, 49, 50, 51, 52, 12, 53, 54, 55, 56, 57, 58, 59, 60, 61, 62, 20, 21, 22, 63, 64, 65, 66, 67, 68, 69, 70, 71, 72, 73, 74, 75, 76, 77, 78, 79, 80, 81, 82, 83, 84, 85, 86, 87, 88, 89, 90, 91, 92, 93, 94, 95, 96, 97, 98, 99, 100, 101, 102, 103, 104, 105, 106, 107, 108, 114, 115, 116, 117, 118, 119, 120, 121, 122, 123, 124, 125, 126, 127, 128, 129, 130, 131, 132, 133, 134, 135, 136, 137, 138, 139, 140, 141, 142, 143, 144] rfl (by decide +kernel)
set_option maxRecDepth 100000 in
theorem gX10_forged_X10_nearestOf : GoodIn wsX10_forged (wsV RX10 221 RX10 yX10_nearestOf wsX10_nearestOf) := goodIn_app (goodIn_of _ (by decide +kernel)) ggX10_forged_X10_nearestOf
set_option maxRecDepth 100000 in
theorem ggX10_forged_X10_shortest : GoodIn wsX10_forged wsX10_shortest := goodIn_r _ [29, 30, 8, 31, 32, 33, 34, 35, 36, 37, 38, 39, 40, 41, 42, 43, 44, 45, 46, 47, 48, 49, 50, 51, 52, 12, 53, 54, 55, 56, 57, 58, 59, 60, 61, 62, 20, 21, 22, 63, 64, 65, 66, 67, 68, 69, 70, 71, 72, 73, 74, 75, 76, 77, 78, 79, 80, 81, 82, 83, 84, 85, 86, 87, 88, 89, 90, 91, 92, 93, 94, 95, 96, 97, 98, 99, 100, 101, 102, 103, 104, 105, 106, 107, 4, 108, 109, 114, 115, 116, 117, 118, 119, 120, 121, 122, 123, 124, 137, 138, 139, 140, 125, 126, 127, 128, 129, 130, 131, 132, 133, 134, 135, 136, 141, 142, 143, 144] rfl (by decide +kernel)
set_option maxRecDepth 100000 in
theorem gX10_forged_X10_shortest : GoodIn wsX10_forged (wsV RX10 164 RX10 yX10_shortest wsX10_shortest) := goodIn_app (goodIn_of _ (by decide +kernel)) ggX10_forged_X10_shortest
set_option maxRecDepth 100000 in
theorem ggX10_mark_X10_isOutside : GoodIn wsX10_mark wsX10_isOutside := goodIn_r _ [9] rfl (by decide +kernel)
set_option maxRecDepth 100000 in
theorem gX10_mark_X10_isOutside : GoodIn wsX10_mark (va_wsS RX10 244 yX10_isOutside wsX10_isOutside) := goodIn_app (goodIn_of _ (by decide +kernel)) ggX10_mark_X10_isOutside
set_option maxRecDepth 100000 in
theorem ggX10_mark_X3_add : GoodIn wsX10_mark wsX3_add := goodIn_r _ [14, 15, 16, 17, 18, 19, 36, 37, 38, 39, 40] rfl (by decide +kernel)
set_option maxRecDepth 100000 in
theorem gX10_mark_X3_add : GoodIn wsX10_mark (wsV RX10 258 RX3 yX3_add wsX3_add) := goodIn_app (goodIn_of _ (by decide +kernel)) ggX10_mark_X3_add
set_option maxRecDepth 100000 in
theorem ggX10_needed_X3_greatestOfOneMinute : GoodIn wsX10_needed wsX3_greatestOfOneMinute := goodIn_r _ [6, 7, 8, 9, 10, 11, 12, 13, 14, 15, 16, 5, 17, 18, 19, 36, 37, 38, 39, 40] rfl (by decide +kernel)
set_option maxRecDepth 100000 in
theorem gX10_needed_X3_greatestOfOneMinute : GoodIn wsX10_needed (wsV RX10 262 RX3 yX3_greatestOfOneMinute wsX3_greatestOfOneMinute) := goodIn_app (goodIn_of _ (by decide +kernel)) ggX10_needed_X3_greatestOfOneMinute
set_option maxRecDepth 100000 in
theorem ggX10_fits_X10_isOutside : GoodIn wsX10_fits wsX10_isOutside := goodIn_r _ [7] rfl (by decide +kernel)
set_option maxRecDepth 100000 in
theorem gX10_fits_X10_isOutside : GoodIn wsX10_fits (va_wsS RX10 244 yX10_isOutside wsX10_isOutside) := goodIn_app (goodIn_of _ (by decide +kernel)) ggX10_fits_X10_isOutside
set_option maxRecDepth 100000 in
theorem ggX10_fits_X3_firstMisfit : GoodIn wsX10_fits wsX3_firstMisfit := goodIn_r _ [12, 13, 14, 15, 16, 11, 17, 18, 19, 20, 21, 22, 23, 24, 25, 26, 27, 28, 29, 50, 51, 52, 53, 54] rfl (by decide +kernel)
set_option maxRecDepth 100000 in
theorem gX10_fits_X3_firstMisfit : GoodIn wsX10_fits (wsV RX10 267 RX3 yX3_firstMisfit wsX3_firstMisfit) := goodIn_app (goodIn_of _ (by decide +kernel)) ggX10_fits_X3_firstMisfit
set_option maxRecDepth 100000 in
theorem ggX10_fits_X3_countMisfits : GoodIn wsX10_fits wsX3_countMisfits := goodIn_r _ [33, 13, 14, 15, 16, 11, 17, 18, 19, 20, 21, 22, 23, 24, 25, 26, 27, 28, 29, 50, 51, 52, 53, 54] rfl (by decide +kernel)
set_option maxRecDepth 100000 in
theorem gX10_fits_X3_countMisfits : GoodIn wsX10_fits (wsV RX10 270 RX3 yX3_countMisfits wsX3_countMisfits) := goodIn_app (goodIn_of _ (by decide +kernel)) ggX10_fits_X3_countMisfits
set_option maxRecDepth 100000 in
theorem ggX10_begin_X10_needWay : GoodIn wsX10_begin wsX10_needWay := goodIn_ca (goodIn_r _ [8, 9, 10, 3, 11, 12, 13, 14, 15, 16, 93, 94, 95, 96, 97, 98, 99, 100, 101, 102, 103, 104, 105, 106, 107, 108, 109, 110, 111, 112, 113, 114, 115] rfl (by decide +kernel)) (goodIn_sub (fun _ h => List.mem_cons_of_mem _ (List.mem_append_right _ h)) (by decide +kernel))
set_option maxRecDepth 100000 in
theorem gX10_begin_X10_needWay : GoodIn wsX10_begin (wsV RX10 149 RX10 yX10_needWay wsX10_needWay) := goodIn_app (goodIn_of _ (by decide +kernel)) ggX10_begin_X10_needWay
set_option maxRecDepth 100000 in
theorem ggX10_begin_X6_allows : GoodIn wsX10_begin wsX6_allows := goodIn_r _ [21, 22, 23, 24, 25, 14, 26, 27, 28, 12, 13, 15, 16, 29, 30, 31, 32, 33, 34, 35, 36, 37, 20, 38, 39, 40, 41, 42, 43, 44, 45, 46, 47, 48, 49, 50, 51, 52, 53, 54, 55, 56, 57, 58, 59, 60, 61, 62, 63, 64, 65, 66, 67, 68, 69, 70, 71, 72, 73, 74, 75, 76, 77, 104, 105, 106, 107, 108, 109, 110, 111, 112, 113, 114, 115, 116, 117, 118, 119] rfl (by decide +kernel)
set_option maxRecDepth 100000 in
theorem gX10_begin_X6_allows : GoodIn wsX10_begin (wsV RX10 182 RX6 yX6_allows wsX6_allows) := goodIn_app (goodIn_of _ (by decide +kernel)) ggX10_begin_X6_allows
set_option maxRecDepth 100000 in
theorem ggX10_begin_X1_distance : GoodIn wsX10_begin wsX1_distance := goodIn_r _ [32, 33, 34, 109, 110, 111, 112, 113, 114, 115] rfl (by decide +kernel)
set_option maxRecDepth 100000 in
theorem gX10_begin_X1_distance : GoodIn wsX10_begin (wsV RX10 156 RX1 yX1_distance wsX1_distance) := goodIn_app (goodIn_of _ (by decide +kernel)) ggX10_begin_X1_distance
set_option maxRecDepth 100000 in
theorem ggX10_begin_X7_start : GoodIn wsX10_begin wsX7_start := goodIn_r _ [83, 84, 85, 86, 87, 88, 89, 90, 91, 92, 120, 121, 122, 123, 124, 125, 126, 127, 128, 129, 130] rfl (by decide +kernel)
set_option maxRecDepth 100000 in
theorem gX10_begin_X7_start : GoodIn wsX10_begin (wsV RX10 273 RX7 yX7_start wsX7_start) := goodIn_app (goodIn_of _ (by decide +kernel)) ggX10_begin_X7_start
set_option maxRecDepth 100000 in
theorem ggX10_step_X6_canGo : GoodIn wsX10_step wsX6_canGo := goodIn_r _ [8, 9, 10, 11, 12, 13, 14, 15, 16, 17, 7, 18, 19, 20, 21, 22, 23, 24, 25, 26, 27, 28, 29, 30, 31, 32, 33, 34, 35, 36, 37, 38, 39, 40, 41, 42, 43, 44, 45, 46, 47, 48, 49, 50, 51, 52, 53, 54, 55, 56, 57, 58, 59, 60, 61, 62, 63, 64, 65, 66, 67, 68, 69, 70, 71, 72, 73, 74, 75, 76, 77, 78, 79, 109, 110, 111, 112, 113, 114, 115, 116, 117, 118, 119, 120, 121, 122, 123, 124, 125, 126, 127, 128, 129, 130, 131, 132, 133, 134, 135] rfl (by decide +kernel)
set_option maxRecDepth 100000 in
theorem gX10_step_X6_canGo : GoodIn wsX10_step (wsV RX10 277 RX6 yX6_canGo wsX6_canGo) := goodIn_app (goodIn_of _ (by decide +kernel)) ggX10_step_X6_canGo
set_option maxRecDepth 100000 in
theorem ggX10_step_X6_go : GoodIn wsX10_step wsX6_go := goodIn_r _ [83, 19, 9, 10, 11, 12, 13, 14, 31, 32, 33, 23, 34, 35, 36, 84, 85, 86, 87, 88, 89, 90, 91, 92, 93, 94, 95, 53, 54, 55, 96, 97, 57, 58, 109, 110, 111, 112, 113, 114, 115, 116, 117, 118, 119, 120, 121, 122, 123, 124, 125, 126, 127, 128, 129, 130, 131] rfl (by decide +kernel)
set_option maxRecDepth 100000 in
theorem gX10_step_X6_go : GoodIn wsX10_step (wsV RX10 280 RX6 yX6_go wsX6_go) := goodIn_app (goodIn_of _ (by decide +kernel)) ggX10_step_X6_go
set_option maxRecDepth 100000 in
theorem ggX10_undo_X7_takeBack : GoodIn wsX10_undo wsX7_takeBack := goodIn_r _ [6, 7, 8, 9, 10, 11, 12, 13, 14, 15, 16, 17, 18, 19, 36, 37, 38, 39, 40, 41, 42, 43, 44, 45, 46] rfl (by decide +kernel)
set_option maxRecDepth 100000 in
theorem gX10_undo_X7_takeBack : GoodIn wsX10_undo (wsV RX10 283 RX7 yX7_takeBack wsX7_takeBack) := goodIn_app (goodIn_of _ (by decide +kernel)) ggX10_undo_X7_takeBack
set_option maxRecDepth 100000 in
theorem ggX10_live_X6_drawStep : GoodIn wsX10_live wsX6_drawStep := goodIn_r _ [8, 9, 10, 11, 7, 12, 13, 14, 15, 16, 17, 18, 19, 20, 21, 22, 23, 24, 25, 26, 27, 28, 29, 30, 31, 32, 33, 34, 35, 36, 37, 38, 39, 40, 41, 42, 43, 44, 45, 46, 47, 48, 49, 50, 51, 52, 53, 54, 55, 56, 57, 58, 59, 60, 61, 62, 63, 64, 65, 66, 67, 68, 69, 70, 71, 72, 73, 74, 75, 76, 77, 78, 79, 80, 81, 82, 83, 84, 85, 86, 87, 88, 89, 119, 120, 121, 122, 123, 124, 125, 126, 127, 128, 129, 130, 131, 132, 133, 134, 135, 136, 137, 138, 139, 140, 141, 142, 143, 144, 145] rfl (by decide +kernel)
set_option maxRecDepth 100000 in
theorem gX10_live_X6_drawStep : GoodIn wsX10_live (wsV RX10 288 RX6 yX6_drawStep wsX6_drawStep) := goodIn_app (goodIn_of _ (by decide +kernel)) ggX10_live_X6_drawStep
set_option maxRecDepth 100000 in
theorem ggX10_live_X6_go : GoodIn wsX10_live wsX6_go := goodIn_r _ [93, 23, 13, 14, 15, 16, 17, 18, 35, 36, 37, 27, 38, 39, 40, 94, 95, 96, 97, 98, 99, 100, 101, 102, 103, 104, 105, 57, 58, 59, 106, 107, 61, 62, 119, 120, 121, 122, 123, 124, 125, 126, 127, 128, 129, 130, 131, 132, 133, 134, 135, 136, 137, 138, 139, 140, 141] rfl (by decide +kernel)
set_option maxRecDepth 100000 in
theorem gX10_live_X6_go : GoodIn wsX10_live (wsV RX10 280 RX6 yX6_go wsX6_go) := goodIn_app (goodIn_of _ (by decide +kernel)) ggX10_live_X6_go
set_option maxRecDepth 100000 in
theorem ggX10_on_X10_toldOfStroll : GoodIn wsX10_on wsX10_toldOfStroll := goodIn_r _ [8, 3, 9, 10, 11, 12, 13, 14, 15, 16, 17, 18, 19, 20, 21, 22, 23, 24, 25, 26, 27, 28, 29, 30, 31, 32, 33, 34, 35, 36, 37, 38, 39, 40, 41, 42, 43, 44, 45, 46, 47, 48, 49, 50, 51, 52, 53, 54, 55, 56, 57, 58, 59, 60] rfl (by decide +kernel)
set_option maxRecDepth 100000 in
theorem gX10_on_X10_toldOfStroll : GoodIn wsX10_on (wsV RX10 296 RX10 yX10_toldOfStroll wsX10_toldOfStroll) := goodIn_app (goodIn_of _ (by decide +kernel)) ggX10_on_X10_toldOfStroll
set_option maxRecDepth 100000 in
theorem ggX10_image_X6_copyFrom : GoodIn wsX10_image wsX6_copyFrom := goodIn_r _ [8, 9, 10, 11, 12, 13, 14, 15, 16, 17, 18, 19, 20, 21, 22, 23, 24, 25, 26, 27, 28, 29, 30, 31, 32, 33, 34, 35, 36, 37, 38, 39, 40, 41, 42, 43, 44, 45, 46, 47, 48, 49, 50, 51, 52, 53, 54, 55, 56, 57, 58, 59, 60, 61, 62, 63, 75, 76, 77, 78, 79, 80, 81, 82, 83, 84, 85, 86, 87, 88, 89, 90, 91, 92, 93, 94, 95, 96, 97, 98, 99, 100, 101, 102, 103, 104, 105, 106] rfl (by decide +kernel)
set_option maxRecDepth 100000 in
theorem gX10_image_X6_copyFrom : GoodIn wsX10_image (wsV RX10 302 RX6 yX6_copyFrom wsX6_copyFrom) := goodIn_app (goodIn_of _ (by decide +kernel)) ggX10_image_X6_copyFrom
set_option maxRecDepth 100000 in
theorem ggX10_again_X6_copyFrom : GoodIn wsX10_again wsX6_copyFrom := goodIn_r _ [8, 9, 10, 11, 12, 13, 14, 15, 16, 17, 18, 19, 20, 21, 22, 23, 24, 25, 26, 27, 28, 29, 30, 31, 32, 33, 34, 35, 36, 37, 38, 39, 40, 41, 42, 43, 44, 45, 46, 47, 48, 49, 50, 51, 52, 53, 54, 55, 56, 57, 58, 59, 60, 61, 62, 63, 75, 76, 77, 78, 79, 80, 81, 82, 83, 84, 85, 86, 87, 88, 89, 90, 91, 92, 93, 94, 95, 96, 97, 98, 99, 100, 101, 102, 103, 104, 105, 106] rfl (by decide +kernel)
set_option maxRecDepth 100000 in
theorem gX10_again_X6_copyFrom : GoodIn wsX10_again (wsV RX10 302 RX6 yX6_copyFrom wsX6_copyFrom) := goodIn_app (goodIn_of _ (by decide +kernel)) ggX10_again_X6_copyFrom
set_option maxRecDepth 100000 in
theorem ggX10_count_X1_allCorners : GoodIn wsX10_count wsX1_allCorners := goodIn_r _ [6, 7, 8, 25, 26, 27, 28, 29, 30, 31] rfl (by decide +kernel)
set_option maxRecDepth 100000 in
theorem gX10_count_X1_allCorners : GoodIn wsX10_count (wsV RX10 308 RX1 yX1_allCorners wsX1_allCorners) := goodIn_app (goodIn_of _ (by decide +kernel)) ggX10_count_X1_allCorners
set_option maxRecDepth 100000 in
theorem ggX10_needWay_X1_hasWay : GoodIn wsX10_needWay wsX1_hasWay := goodIn_r _ [8, 9, 26, 27, 28, 29, 30, 31, 32] rfl (by decide +kernel)
set_option maxRecDepth 100000 in
theorem gX10_needWay_X1_hasWay : GoodIn wsX10_needWay (wsV RX10 314 RX1 yX1_hasWay wsX1_hasWay) := goodIn_app (goodIn_of _ (by decide +kernel)) ggX10_needWay_X1_hasWay
set_option maxRecDepth 100000 in
theorem ggX10_needCorner_X1_hasCorner : GoodIn wsX10_needCorner wsX1_hasCorner := goodIn_r _ [8, 9, 10, 11, 12, 7, 13, 14, 31, 32, 33, 34, 35, 36, 37] rfl (by decide +kernel)
set_option maxRecDepth 100000 in
theorem gX10_needCorner_X1_hasCorner : GoodIn wsX10_needCorner (wsV RX10 322 RX1 yX1_hasCorner wsX1_hasCorner) := goodIn_app (goodIn_of _ (by decide +kernel)) ggX10_needCorner_X1_hasCorner
set_option maxRecDepth 100000 in
theorem ggX10_shortest_X0_lay : GoodIn wsX10_shortest wsX0_lay := goodIn_r _ [7, 8, 9, 10, 11, 12, 13, 6, 14, 15, 16, 17, 18, 19, 20, 21, 22, 23, 24, 25, 26, 27, 28, 29, 30, 31, 32, 33, 34, 35, 36, 37, 38, 39, 40, 41, 42, 43, 44, 45, 46, 47, 48, 49, 50, 51, 52, 53, 54, 55, 56, 57, 58, 59, 60, 61, 62, 63, 64, 65, 66, 102, 103, 104, 105, 106, 107, 108, 109, 110, 111, 112, 113, 98, 99, 100, 101, 114, 115, 116, 117] rfl (by decide +kernel)
set_option maxRecDepth 100000 in
theorem gX10_shortest_X0_lay : GoodIn wsX10_shortest (wsV RX10 201 RX0 yX0_lay wsX0_lay) := goodIn_app (goodIn_of _ (by decide +kernel)) ggX10_shortest_X0_lay
set_option maxRecDepth 100000 in
theorem ggX10_shortest_X0_settle : GoodIn wsX10_shortest wsX0_settle := goodIn_r _ [70, 8, 9, 71, 10, 72, 36, 37, 38, 73, 74, 75, 6, 76, 11, 12, 13, 14, 77, 78, 79, 80, 81, 40, 41, 98, 99, 100, 101] rfl (by decide +kernel)
set_option maxRecDepth 100000 in
theorem gX10_shortest_X0_settle : GoodIn wsX10_shortest (wsV RX10 333 RX0 yX0_settle wsX0_settle) := goodIn_app (goodIn_of _ (by decide +kernel)) ggX10_shortest_X0_settle
set_option maxRecDepth 100000 in
theorem ggX10_shortest_X10_orNone : GoodIn wsX10_shortest wsX10_orNone := goodIn_r _ [85, 86] rfl (by decide +kernel)
set_option maxRecDepth 100000 in
theorem gX10_shortest_X10_orNone : GoodIn wsX10_shortest (va_wsS RX10 208 yX10_orNone wsX10_orNone) := goodIn_app (goodIn_of _ (by decide +kernel)) ggX10_shortest_X10_orNone
set_option maxRecDepth 100000 in
theorem ggX10_nearestOf_X10_isIn : GoodIn wsX10_nearestOf wsX10_isIn := goodIn_r _ [6] rfl (by decide +kernel)
set_option maxRecDepth 100000 in
theorem gX10_nearestOf_X10_isIn : GoodIn wsX10_nearestOf (va_wsS RX10 228 yX10_isIn wsX10_isIn) := goodIn_app (goodIn_of _ (by decide +kernel)) ggX10_nearestOf_X10_isIn
set_option maxRecDepth 100000 in
theorem ggX10_nearestOf_X10_shortest : GoodIn wsX10_nearestOf wsX10_shortest := goodIn_r _ [10, 11, 2, 12, 13, 14, 15, 16, 17, 18, 19, 20, 21, 22, 23, 24, 25, 26, 27, 28, 29, 30, 31, 32, 33, 34, 35, 36, 37, 38, 39, 40, 41, 42, 43, 44, 45, 46, 47, 48, 49, 50, 51, 52, 53, 54, 55, 56, 57, 58, 59, 60, 61, 62, 63, 64, 65, 66, 67, 68, 69, 70, 71, 72, 73, 74, 75, 76, 77, 78, 79, 80, 81, 82, 83, 84, 85, 86, 87, 88, 89, 90, 91, 92, 5, 93, 1, 94, 95, 96, 97, 98, 99, 100, 101, 102, 103, 104, 117, 118, 119, 120, 105, 106, 107, 108, 109, 110, 111, 112, 113, 114, 115, 116, 121, 122, 123, 124] rfl (by decide +kernel)
set_option maxRecDepth 100000 in
theorem gX10_nearestOf_X10_shortest : GoodIn wsX10_nearestOf (wsV RX10 164 RX10 yX10_shortest wsX10_shortest) := goodIn_app (goodIn_of _ (by decide +kernel)) ggX10_nearestOf_X10_shortest
set_option maxRecDepth 100000 in
theorem ggX10_greatestToOthers_X10_isIn : GoodIn wsX10_greatestToOthers wsX10_isIn := goodIn_r _ [9] rfl (by decide +kernel)
set_option maxRecDepth 100000 in
theorem gX10_greatestToOthers_X10_isIn : GoodIn wsX10_greatestToOthers (va_wsS RX10 228 yX10_isIn wsX10_isIn) := goodIn_app (goodIn_of _ (by decide +kernel)) ggX10_greatestToOthers_X10_isIn
set_option maxRecDepth 100000 in
theorem ggX10_greatestToOthers_X10_shortest : GoodIn wsX10_greatestToOthers wsX10_shortest := goodIn_r _ [13, 14, 1, 15, 16, 17, 18, 19, 20, 21, 22, 23, 24, 25, 26, 27, 28, 29, 30, 31, 32, 33, 34, 35, 36, 37, 38, 39, 40, 41, 42, 43, 44, 45, 46, 47, 3, 4, 5, 48, 49, 50, 51, 52, 53, 54, 55, 56, 57, 58, 59, 60, 61, 62, 63, 64, 65, 66, 67, 68, 69, 70, 71, 72, 73, 74, 75, 76, 77, 78, 79, 80, 81, 82, 83, 84, 85, 86, 87, 88, 89, 90, 91, 92, 8, 93, 94, 95, 96, 97, 98, 99, 100, 101, 102, 103, 104, 105, 118, 119, 120, 121, 106, 107, 108, 109, 110, 111, 112, 113, 114, 115, 116, 117, 122, 123, 124, 125] rfl (by decide +kernel)
set_option maxRecDepth 100000 in
theorem gX10_greatestToOthers_X10_shortest : GoodIn wsX10_greatestToOthers (wsV RX10 164 RX10 yX10_shortest wsX10_shortest) := goodIn_app (goodIn_of _ (by decide +kernel)) ggX10_greatestToOthers_X10_shortest
set_option maxRecDepth 100000 in
theorem ggX10_greatestOfPairs_X10_isIn : GoodIn wsX10_greatestOfPairs wsX10_isIn := goodIn_r _ [9] rfl (by decide +kernel)
set_option maxRecDepth 100000 in
theorem gX10_greatestOfPairs_X10_isIn : GoodIn wsX10_greatestOfPairs (va_wsS RX10 228 yX10_isIn wsX10_isIn) := goodIn_app (goodIn_of _ (by decide +kernel)) ggX10_greatestOfPairs_X10_isIn
set_option maxRecDepth 100000 in
theorem ggX10_greatestOfPairs_X10_shortest : GoodIn wsX10_greatestOfPairs wsX10_shortest := goodIn_r _ [13, 14, 1, 15, 16, 17, 18, 19, 20, 21, 22, 23, 24, 25, 26, 27, 28, 29, 30, 31, 32, 33, 34, 35, 36, 37, 38, 39, 40, 41, 42, 43, 44, 45, 46, 47, 3, 4, 5, 48, 49, 50, 51, 52, 53, 54, 55, 56, 57, 58, 59, 60, 61, 62, 63, 64, 65, 66, 67, 68, 69, 70, 71, 72, 73, 74, 75, 76, 77, 78, 79, 80, 81, 82, 83, 84, 85, 86, 87, 88, 89, 90, 91, 92, 8, 93, 94, 95, 96, 97, 98, 99, 100, 101, 102, 103, 104, 105, 118, 119, 120, 121, 106, 107, 108, 109, 110, 111, 112, 113, 114, 115, 116, 117, 122, 123, 124, 125] rfl (by decide +kernel)
set_option maxRecDepth 100000 in
theorem gX10_greatestOfPairs_X10_shortest : GoodIn wsX10_greatestOfPairs (wsV RX10 164 RX10 yX10_shortest wsX10_shortest) := goodIn_app (goodIn_of _ (by decide +kernel)) ggX10_greatestOfPairs_X10_shortest
set_option maxRecDepth 100000 in
theorem ggX10_toldOfStroll_X6_isStrollOver : GoodIn wsX10_toldOfStroll wsX6_isStrollOver := goodIn_r _ [6, 7, 8, 9, 10, 11, 12, 13, 14, 15, 16, 17, 18, 19, 31, 32, 33, 34, 35, 36, 37, 38, 39, 40, 41, 42, 43, 44, 45, 46, 47, 48, 49, 50, 51, 52, 53] rfl (by decide +kernel)
set_option maxRecDepth 100000 in
theorem gX10_toldOfStroll_X6_isStrollOver : GoodIn wsX10_toldOfStroll (wsV RX10 354 RX6 yX6_isStrollOver wsX6_isStrollOver) := goodIn_app (goodIn_of _ (by decide +kernel)) ggX10_toldOfStroll_X6_isStrollOver
