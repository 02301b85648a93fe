set_option maxRecDepth 20000 in
theorem ggX4_row_X4_in : GoodIn wsX4_row wsX4_in := goodIn_r _ [9] (by decide +kernel) (by decide +kernel)
set_option maxRecDepth 20000 in
theorem gX4_row_X4_in : GoodIn wsX4_row (va_wsS RX4 72 yX4_in wsX4_in) := goodIn_app (goodIn_of _ (by decide +kernel)) ggX4_row_X4_in
set_option maxRecDepth 20000 in
theorem ggX4_family_X4_in : GoodIn wsX4_family wsX4_in := goodIn_r _ [13] (by decide +kernel) (by decide +kernel)
set_option maxRecDepth 20000 in
theorem gX4_family_X4_in : GoodIn wsX4_family (va_wsS RX4 72 yX4_in wsX4_in) := goodIn_app (goodIn_of _ (by decide +kernel)) ggX4_family_X4_in
set_option maxRecDepth 20000 in
theorem ggX4_family_X4_leftOf : GoodIn wsX4_family wsX4_leftOf := goodIn_r _ [16] (by decide +kernel) (by decide +kernel)
set_option maxRecDepth 20000 in
theorem gX4_family_X4_leftOf : GoodIn wsX4_family (va_wsS RX4 82 yX4_leftOf wsX4_leftOf) := goodIn_app (goodIn_of _ (by decide +kernel)) ggX4_family_X4_leftOf
set_option maxRecDepth 20000 in
theorem ggX4_family_X4_rightOf : GoodIn wsX4_family wsX4_rightOf := goodIn_r _ [19] (by decide +kernel) (by decide +kernel)
set_option maxRecDepth 20000 in
theorem gX4_family_X4_rightOf : GoodIn wsX4_family (va_wsS RX4 86 yX4_rightOf wsX4_rightOf) := goodIn_app (goodIn_of _ (by decide +kernel)) ggX4_family_X4_rightOf
set_option maxRecDepth 20000 in
theorem ggX4_isBad_X4_in : GoodIn wsX4_isBad wsX4_in := goodIn_r _ [10] (by decide +kernel) (by decide +kernel)
set_option maxRecDepth 20000 in
theorem gX4_isBad_X4_in : GoodIn wsX4_isBad (va_wsS RX4 72 yX4_in wsX4_in) := goodIn_app (goodIn_of _ (by decide +kernel)) ggX4_isBad_X4_in
set_option maxRecDepth 20000 in
theorem ggX4_build_X4_in : GoodIn wsX4_build wsX4_in := goodIn_r _ [21] (by decide +kernel) (by decide +kernel)
set_option maxRecDepth 20000 in
theorem gX4_build_X4_in : GoodIn wsX4_build (va_wsS RX4 72 yX4_in wsX4_in) := goodIn_app (goodIn_of _ (by decide +kernel)) ggX4_build_X4_in
set_option maxRecDepth 20000 in
theorem ggX4_build_X4_isBad : GoodIn wsX4_build wsX4_isBad := goodIn_r _ [25, 8, 26, 27, 4, 5, 1, 18, 19, 20, 21, 31, 32, 33, 34, 35, 36, 37, 38, 39, 40, 41, 42, 43, 44, 45, 46, 47, 48, 49, 50, 51, 52, 53, 54, 55, 56, 57, 58, 59] (by decide +kernel) (by decide +kernel)
set_option maxRecDepth 20000 in
theorem gX4_build_X4_isBad : GoodIn wsX4_build (wsV RX4 89 RX4 yX4_isBad wsX4_isBad) := goodIn_app (goodIn_of _ (by decide +kernel)) ggX4_build_X4_isBad
set_option maxRecDepth 20000 in
theorem ggX4_build_X4_nodeOf : GoodIn wsX4_build wsX4_nodeOf := goodIn_r _ [30] (by decide +kernel) (by decide +kernel)
set_option maxRecDepth 20000 in
theorem gX4_build_X4_nodeOf : GoodIn wsX4_build (va_wsS RX4 99 yX4_nodeOf wsX4_nodeOf) := goodIn_app (goodIn_of _ (by decide +kernel)) ggX4_build_X4_nodeOf
set_option maxRecDepth 20000 in
theorem ggX4_isPair_X4_depth : GoodIn wsX4_isPair wsX4_depth := goodIn_r _ [6, 7, 8, 14, 15, 16, 17, 18, 19, 20, 21, 22, 23, 24, 25, 26, 27, 28, 29, 30, 31, 32, 33, 34, 35, 36, 37, 38, 39, 40, 41, 42] (by decide +kernel) (by decide +kernel)
set_option maxRecDepth 20000 in
theorem gX4_isPair_X4_depth : GoodIn wsX4_isPair (wsV RX4 116 RX4 yX4_depth wsX4_depth) := goodIn_app (goodIn_of _ (by decide +kernel)) ggX4_isPair_X4_depth
set_option maxRecDepth 20000 in
theorem ggX4_isPair_X4_sides : GoodIn wsX4_isPair wsX4_sides := goodIn_r _ [12, 7, 13, 14, 15, 16, 17, 18, 19, 20, 21, 22, 23, 24, 25, 26, 27, 28, 29, 30, 31, 32, 33, 34, 35, 36, 37, 38, 39, 40, 41, 42] (by decide +kernel) (by decide +kernel)
set_option maxRecDepth 20000 in
theorem gX4_isPair_X4_sides : GoodIn wsX4_isPair (wsV RX4 120 RX4 yX4_sides wsX4_sides) := goodIn_app (goodIn_of _ (by decide +kernel)) ggX4_isPair_X4_sides
set_option maxRecDepth 20000 in
theorem ggX4_joinAt_X4_depth : GoodIn wsX4_joinAt wsX4_depth := goodIn_r _ [8, 1, 9, 29, 30, 31, 32, 33, 34, 35, 36, 37, 38, 39, 40, 41, 42, 43, 44, 45, 46, 47, 48, 49, 50, 51, 52, 53, 54, 55, 56, 57] (by decide +kernel) (by decide +kernel)
set_option maxRecDepth 20000 in
theorem gX4_joinAt_X4_depth : GoodIn wsX4_joinAt (wsV RX4 116 RX4 yX4_depth wsX4_depth) := goodIn_app (goodIn_of _ (by decide +kernel)) ggX4_joinAt_X4_depth
set_option maxRecDepth 20000 in
theorem ggX4_joinAt_X4_sides : GoodIn wsX4_joinAt wsX4_sides := goodIn_r _ [13, 1, 14, 29, 30, 31, 32, 33, 34, 35, 36, 37, 38, 39, 40, 41, 42, 43, 44, 45, 46, 47, 48, 49, 50, 51, 52, 53, 54, 55, 56, 57] (by decide +kernel) (by decide +kernel)
set_option maxRecDepth 20000 in
theorem gX4_joinAt_X4_sides : GoodIn wsX4_joinAt (wsV RX4 120 RX4 yX4_sides wsX4_sides) := goodIn_app (goodIn_of _ (by decide +kernel)) ggX4_joinAt_X4_sides
set_option maxRecDepth 20000 in
theorem ggX4_joinAt_X4_address : GoodIn wsX4_joinAt wsX4_address := goodIn_r _ [18, 1, 29, 30, 31, 32, 33, 34, 35, 36, 37, 38, 39, 40, 41, 42, 43, 44, 45, 46, 47, 48, 49, 50, 51, 52, 53, 54, 55, 56, 57] (by decide +kernel) (by decide +kernel)
set_option maxRecDepth 20000 in
theorem gX4_joinAt_X4_address : GoodIn wsX4_joinAt (wsV RX4 123 RX4 yX4_address wsX4_address) := goodIn_app (goodIn_of _ (by decide +kernel)) ggX4_joinAt_X4_address
set_option maxRecDepth 20000 in
theorem ggX4_joinAt_X4_classAt : GoodIn wsX4_joinAt wsX4_classAt := goodIn_r _ [22, 23, 24, 25, 29, 30, 31, 32, 33, 34, 35, 36, 37, 38, 39, 40, 41, 42, 43, 44, 45, 46, 47, 48, 49, 50, 51, 52, 53, 54, 55, 56, 57] (by decide +kernel) (by decide +kernel)
set_option maxRecDepth 20000 in
theorem gX4_joinAt_X4_classAt : GoodIn wsX4_joinAt (wsV RX4 126 RX4 yX4_classAt wsX4_classAt) := goodIn_app (goodIn_of _ (by decide +kernel)) ggX4_joinAt_X4_classAt
set_option maxRecDepth 20000 in
theorem ggX4_joinAt_X4_nodeOf : GoodIn wsX4_joinAt wsX4_nodeOf := goodIn_r _ [28] (by decide +kernel) (by decide +kernel)
set_option maxRecDepth 20000 in
theorem gX4_joinAt_X4_nodeOf : GoodIn wsX4_joinAt (va_wsS RX4 99 yX4_nodeOf wsX4_nodeOf) := goodIn_app (goodIn_of _ (by decide +kernel)) ggX4_joinAt_X4_nodeOf
set_option maxRecDepth 20000 in
theorem ggX4_joinAll_X4_isPair : GoodIn wsX4_joinAll wsX4_isPair := goodIn_r _ [7, 2, 8, 9, 10, 6, 11, 12, 13, 14, 15, 16, 17, 18, 41, 42, 43, 44, 45, 46, 47, 48, 49, 50, 51, 52, 53, 54, 55, 56, 57, 58, 59, 60, 61, 62, 63, 64, 65, 66, 67, 68, 69] (by decide +kernel) (by decide +kernel)
set_option maxRecDepth 20000 in
theorem gX4_joinAll_X4_isPair : GoodIn wsX4_joinAll (wsV RX4 129 RX4 yX4_isPair wsX4_isPair) := goodIn_app (goodIn_of _ (by decide +kernel)) ggX4_joinAll_X4_isPair
set_option maxRecDepth 20000 in
theorem ggX4_joinAll_X4_isLive : GoodIn wsX4_joinAll wsX4_isLive := goodIn_r _ [22, 12, 41, 42, 43, 44, 45, 46, 47, 48, 49, 50, 51, 52, 53, 54, 55, 56, 57, 58, 59, 60, 61, 62, 63, 64, 65, 66, 67, 68, 69] (by decide +kernel) (by decide +kernel)
set_option maxRecDepth 20000 in
theorem gX4_joinAll_X4_isLive : GoodIn wsX4_joinAll (wsV RX4 132 RX4 yX4_isLive wsX4_isLive) := goodIn_app (goodIn_of _ (by decide +kernel)) ggX4_joinAll_X4_isLive
set_option maxRecDepth 20000 in
theorem ggX4_joinAll_X4_joinAt : GoodIn wsX4_joinAll wsX4_joinAt := goodIn_r _ [26, 12, 2, 1, 8, 9, 10, 6, 11, 13, 14, 15, 16, 17, 18, 27, 28, 29, 30, 31, 32, 33, 34, 35, 36, 37, 38, 39, 40, 41, 42, 43, 44, 45, 46, 47, 48, 49, 50, 51, 52, 53, 54, 55, 56, 57, 58, 59, 60, 61, 62, 63, 64, 65, 66, 67, 68, 69] (by decide +kernel) (by decide +kernel)
set_option maxRecDepth 20000 in
theorem gX4_joinAll_X4_joinAt : GoodIn wsX4_joinAll (wsV RX4 135 RX4 yX4_joinAt wsX4_joinAt) := goodIn_app (goodIn_of _ (by decide +kernel)) ggX4_joinAll_X4_joinAt
set_option maxRecDepth 20000 in
theorem ggX4_freeOf_X4_isLive : GoodIn wsX4_freeOf wsX4_isLive := goodIn_r _ [6, 7, 13, 14, 15, 16, 17, 18, 19, 20, 21, 22, 23, 24, 25, 26, 27, 28, 29, 30, 31, 32, 33, 34, 35, 36, 37, 38, 39, 40, 41] (by decide +kernel) (by decide +kernel)
set_option maxRecDepth 20000 in
theorem gX4_freeOf_X4_isLive : GoodIn wsX4_freeOf (wsV RX4 132 RX4 yX4_isLive wsX4_isLive) := goodIn_app (goodIn_of _ (by decide +kernel)) ggX4_freeOf_X4_isLive
set_option maxRecDepth 20000 in
theorem ggX4_freeOf_X4_classOf : GoodIn wsX4_freeOf wsX4_classOf := goodIn_r _ [11, 7, 12, 13, 14, 15, 16, 17, 18, 19, 20, 21, 22, 23, 24, 25, 26, 27, 28, 29, 30, 31, 32, 33, 34, 35, 36, 37, 38, 39, 40, 41] (by decide +kernel) (by decide +kernel)
set_option maxRecDepth 20000 in
theorem gX4_freeOf_X4_classOf : GoodIn wsX4_freeOf (wsV RX4 139 RX4 yX4_classOf wsX4_classOf) := goodIn_app (goodIn_of _ (by decide +kernel)) ggX4_freeOf_X4_classOf
set_option maxRecDepth 20000 in
theorem ggX4_best_X4_isLive : GoodIn wsX4_best wsX4_isLive := goodIn_r _ [7, 8, 14, 15, 16, 17, 18, 19, 20, 21, 22, 23, 24, 25, 26, 27, 28, 29, 30, 31, 32, 33, 34, 35, 36, 37, 38, 39, 40, 41, 42] (by decide +kernel) (by decide +kernel)
set_option maxRecDepth 20000 in
theorem gX4_best_X4_isLive : GoodIn wsX4_best (wsV RX4 132 RX4 yX4_isLive wsX4_isLive) := goodIn_app (goodIn_of _ (by decide +kernel)) ggX4_best_X4_isLive
set_option maxRecDepth 20000 in
theorem ggX4_best_X4_classOf : GoodIn wsX4_best wsX4_classOf := goodIn_r _ [12, 8, 13, 14, 15, 16, 17, 18, 19, 20, 21, 22, 23, 24, 25, 26, 27, 28, 29, 30, 31, 32, 33, 34, 35, 36, 37, 38, 39, 40, 41, 42] (by decide +kernel) (by decide +kernel)
set_option maxRecDepth 20000 in
theorem gX4_best_X4_classOf : GoodIn wsX4_best (wsV RX4 139 RX4 yX4_classOf wsX4_classOf) := goodIn_app (goodIn_of _ (by decide +kernel)) ggX4_best_X4_classOf
set_option maxRecDepth 20000 in
theorem ggX4_giveWords_X4_best : GoodIn wsX4_giveWords wsX4_best := goodIn_r _ [15, 4, 3, 16, 17, 18, 14, 19, 5, 20, 21, 22, 23, 24, 59, 60, 61, 62, 63, 64, 65, 66, 67, 68, 69, 70, 71, 72, 73, 74, 75, 76, 77, 78, 79, 80, 81, 82, 83, 84, 85, 86, 87] (by decide +kernel) (by decide +kernel)
set_option maxRecDepth 20000 in
theorem gX4_giveWords_X4_best : GoodIn wsX4_giveWords (wsV RX4 142 RX4 yX4_best wsX4_best) := goodIn_app (goodIn_of _ (by decide +kernel)) ggX4_giveWords_X4_best
set_option maxRecDepth 20000 in
theorem ggX4_giveWords_X4_joinAll : GoodIn wsX4_giveWords wsX4_joinAll := goodIn_r _ [28, 29, 4, 30, 31, 32, 14, 33, 34, 35, 36, 37, 5, 24, 38, 39, 40, 41, 42, 16, 17, 18, 19, 43, 44, 45, 46, 47, 48, 49, 50, 51, 52, 53, 54, 55, 1, 2, 56, 57, 58, 59, 60, 61, 62, 63, 64, 65, 66, 67, 68, 69, 70, 71, 72, 73, 74, 75, 76, 77, 78, 79, 80, 81, 82, 83, 84, 85, 86, 87] (by decide +kernel) (by decide +kernel)
set_option maxRecDepth 20000 in
theorem gX4_giveWords_X4_joinAll : GoodIn wsX4_giveWords (wsV RX4 145 RX4 yX4_joinAll wsX4_joinAll) := goodIn_app (goodIn_of _ (by decide +kernel)) ggX4_giveWords_X4_joinAll
set_option maxRecDepth 20000 in
theorem ggX4_giveWords_X4_classOf : GoodIn wsX4_giveWords wsX4_classOf := goodIn_r _ [23, 5, 24, 59, 60, 61, 62, 63, 64, 65, 66, 67, 68, 69, 70, 71, 72, 73, 74, 75, 76, 77, 78, 79, 80, 81, 82, 83, 84, 85, 86, 87] (by decide +kernel) (by decide +kernel)
set_option maxRecDepth 20000 in
theorem gX4_giveWords_X4_classOf : GoodIn wsX4_giveWords (wsV RX4 139 RX4 yX4_classOf wsX4_classOf) := goodIn_app (goodIn_of _ (by decide +kernel)) ggX4_giveWords_X4_classOf
set_option maxRecDepth 20000 in
theorem ggX4_giveWords_X4_address : GoodIn wsX4_giveWords wsX4_address := goodIn_r _ [50, 5, 59, 60, 61, 62, 63, 64, 65, 66, 67, 68, 69, 70, 71, 72, 73, 74, 75, 76, 77, 78, 79, 80, 81, 82, 83, 84, 85, 86, 87] (by decide +kernel) (by decide +kernel)
set_option maxRecDepth 20000 in
theorem gX4_giveWords_X4_address : GoodIn wsX4_giveWords (wsV RX4 123 RX4 yX4_address wsX4_address) := goodIn_app (goodIn_of _ (by decide +kernel)) ggX4_giveWords_X4_address
set_option maxRecDepth 20000 in
theorem ggX4_giveWords_X4_depth : GoodIn wsX4_giveWords wsX4_depth := goodIn_r _ [37, 5, 24, 59, 60, 61, 62, 63, 64, 65, 66, 67, 68, 69, 70, 71, 72, 73, 74, 75, 76, 77, 78, 79, 80, 81, 82, 83, 84, 85, 86, 87] (by decide +kernel) (by decide +kernel)
set_option maxRecDepth 20000 in
theorem gX4_giveWords_X4_depth : GoodIn wsX4_giveWords (wsV RX4 116 RX4 yX4_depth wsX4_depth) := goodIn_app (goodIn_of _ (by decide +kernel)) ggX4_giveWords_X4_depth
set_option maxRecDepth 20000 in
theorem ggX4_giveWords_X4_sides : GoodIn wsX4_giveWords wsX4_sides := goodIn_r _ [41, 5, 42, 59, 60, 61, 62, 63, 64, 65, 66, 67, 68, 69, 70, 71, 72, 73, 74, 75, 76, 77, 78, 79, 80, 81, 82, 83, 84, 85, 86, 87] (by decide +kernel) (by decide +kernel)
set_option maxRecDepth 20000 in
theorem gX4_giveWords_X4_sides : GoodIn wsX4_giveWords (wsV RX4 120 RX4 yX4_sides wsX4_sides) := goodIn_app (goodIn_of _ (by decide +kernel)) ggX4_giveWords_X4_sides
set_option maxRecDepth 20000 in
theorem ggX4_giveWords_X4_nodeOf : GoodIn wsX4_giveWords wsX4_nodeOf := goodIn_r _ [58] (by decide +kernel) (by decide +kernel)
set_option maxRecDepth 20000 in
theorem gX4_giveWords_X4_nodeOf : GoodIn wsX4_giveWords (va_wsS RX4 99 yX4_nodeOf wsX4_nodeOf) := goodIn_app (goodIn_of _ (by decide +kernel)) ggX4_giveWords_X4_nodeOf
set_option maxRecDepth 20000 in
theorem ggX4_nodeAt_X4_address : GoodIn wsX4_nodeAt wsX4_address := goodIn_r _ [5, 6, 7, 8, 9, 10, 11, 12, 13, 14, 15, 16, 17, 18, 19, 20, 21, 22, 23, 24, 25, 26, 27, 28, 29, 30, 31, 32, 33, 34, 35] (by decide +kernel) (by decide +kernel)
set_option maxRecDepth 20000 in
theorem gX4_nodeAt_X4_address : GoodIn wsX4_nodeAt (wsV RX4 123 RX4 yX4_address wsX4_address) := goodIn_app (goodIn_of _ (by decide +kernel)) ggX4_nodeAt_X4_address
set_option maxRecDepth 20000 in
theorem ggX4_freeBlock_X4_nodeAt : GoodIn wsX4_freeBlock wsX4_nodeAt := goodIn_r _ [11, 12, 13, 14, 10, 15, 4, 58, 59, 60, 61, 62, 63, 64, 65, 66, 67, 68, 69, 70, 71, 72, 73, 74, 75, 76, 77, 78, 79, 80, 81, 82, 83, 84, 85, 86] (by decide +kernel) (by decide +kernel)
set_option maxRecDepth 20000 in
theorem gX4_freeBlock_X4_nodeAt : GoodIn wsX4_freeBlock (wsV RX4 151 RX4 yX4_nodeAt wsX4_nodeAt) := goodIn_app (goodIn_of _ (by decide +kernel)) ggX4_freeBlock_X4_nodeAt
set_option maxRecDepth 20000 in
theorem ggX4_freeBlock_X4_classOf : GoodIn wsX4_freeBlock wsX4_classOf := goodIn_r _ [19, 4, 20, 58, 59, 60, 61, 62, 63, 64, 65, 66, 67, 68, 69, 70, 71, 72, 73, 74, 75, 76, 77, 78, 79, 80, 81, 82, 83, 84, 85, 86] (by decide +kernel) (by decide +kernel)
set_option maxRecDepth 20000 in
theorem gX4_freeBlock_X4_classOf : GoodIn wsX4_freeBlock (wsV RX4 139 RX4 yX4_classOf wsX4_classOf) := goodIn_app (goodIn_of _ (by decide +kernel)) ggX4_freeBlock_X4_classOf
set_option maxRecDepth 20000 in
theorem ggX4_freeBlock_X4_isPair : GoodIn wsX4_freeBlock wsX4_isPair := goodIn_r _ [24, 25, 26, 27, 28, 10, 29, 4, 20, 30, 31, 32, 33, 34, 58, 59, 60, 61, 62, 63, 64, 65, 66, 67, 68, 69, 70, 71, 72, 73, 74, 75, 76, 77, 78, 79, 80, 81, 82, 83, 84, 85, 86] (by decide +kernel) (by decide +kernel)
set_option maxRecDepth 20000 in
theorem gX4_freeBlock_X4_isPair : GoodIn wsX4_freeBlock (wsV RX4 129 RX4 yX4_isPair wsX4_isPair) := goodIn_app (goodIn_of _ (by decide +kernel)) ggX4_freeBlock_X4_isPair
set_option maxRecDepth 20000 in
theorem ggX4_freeBlock_X4_isLive : GoodIn wsX4_freeBlock wsX4_isLive := goodIn_r _ [38, 4, 58, 59, 60, 61, 62, 63, 64, 65, 66, 67, 68, 69, 70, 71, 72, 73, 74, 75, 76, 77, 78, 79, 80, 81, 82, 83, 84, 85, 86] (by decide +kernel) (by decide +kernel)
set_option maxRecDepth 20000 in
theorem gX4_freeBlock_X4_isLive : GoodIn wsX4_freeBlock (wsV RX4 132 RX4 yX4_isLive wsX4_isLive) := goodIn_app (goodIn_of _ (by decide +kernel)) ggX4_freeBlock_X4_isLive
set_option maxRecDepth 20000 in
theorem ggX4_freeBlock_X4_freeOf : GoodIn wsX4_freeBlock wsX4_freeOf := goodIn_r _ [42, 25, 35, 36, 37, 10, 38, 4, 16, 17, 18, 19, 20, 58, 59, 60, 61, 62, 63, 64, 65, 66, 67, 68, 69, 70, 71, 72, 73, 74, 75, 76, 77, 78, 79, 80, 81, 82, 83, 84, 85, 86] (by decide +kernel) (by decide +kernel)
set_option maxRecDepth 20000 in
theorem gX4_freeBlock_X4_freeOf : GoodIn wsX4_freeBlock (wsV RX4 156 RX4 yX4_freeOf wsX4_freeOf) := goodIn_app (goodIn_of _ (by decide +kernel)) ggX4_freeBlock_X4_freeOf
set_option maxRecDepth 20000 in
theorem ggX4_freeBlock_X4_joinAt : GoodIn wsX4_freeBlock wsX4_joinAt := goodIn_r _ [46, 4, 25, 47, 26, 27, 28, 10, 29, 20, 30, 31, 32, 33, 34, 12, 13, 14, 15, 48, 49, 50, 51, 52, 53, 54, 55, 56, 57, 58, 59, 60, 61, 62, 63, 64, 65, 66, 67, 68, 69, 70, 71, 72, 73, 74, 75, 76, 77, 78, 79, 80, 81, 82, 83, 84, 85, 86] (by decide +kernel) (by decide +kernel)
set_option maxRecDepth 20000 in
theorem gX4_freeBlock_X4_joinAt : GoodIn wsX4_freeBlock (wsV RX4 135 RX4 yX4_joinAt wsX4_joinAt) := goodIn_app (goodIn_of _ (by decide +kernel)) ggX4_freeBlock_X4_joinAt
set_option maxRecDepth 20000 in
theorem ggX4_give_X4_isThere : GoodIn wsX4_give wsX4_isThere := goodIn_r _ [6, 7, 8, 72, 73, 74, 75, 76, 77, 78, 79, 80, 81, 82, 83, 84, 85, 86, 87, 88, 89, 90, 91, 92, 93, 94, 95, 96, 97, 98, 99, 100] (by decide +kernel) (by decide +kernel)
set_option maxRecDepth 20000 in
theorem gX4_give_X4_isThere : GoodIn wsX4_give (wsV RX4 159 RX4 yX4_isThere wsX4_isThere) := goodIn_app (goodIn_of _ (by decide +kernel)) ggX4_give_X4_isThere
set_option maxRecDepth 20000 in
theorem ggX4_give_X4_raise : GoodIn wsX4_give wsX4_raise := goodIn_r _ [12, 8, 72, 73, 74, 75, 76, 77, 78, 79, 80, 81, 82, 83, 84, 85, 86, 87, 88, 89, 90, 91, 92, 93, 94, 95, 96, 97, 98, 99, 100] (by decide +kernel) (by decide +kernel)
set_option maxRecDepth 20000 in
theorem gX4_give_X4_raise : GoodIn wsX4_give (wsV RX4 163 RX4 yX4_raise wsX4_raise) := goodIn_app (goodIn_of _ (by decide +kernel)) ggX4_give_X4_raise
set_option maxRecDepth 20000 in
theorem ggX4_give_X4_giveWords : GoodIn wsX4_give wsX4_giveWords := goodIn_r _ [16, 17, 18, 19, 20, 21, 22, 23, 24, 1, 25, 26, 27, 28, 5, 29, 30, 31, 32, 33, 34, 35, 36, 37, 38, 39, 40, 41, 42, 43, 44, 45, 46, 47, 48, 49, 50, 51, 52, 53, 54, 55, 56, 57, 58, 59, 60, 61, 62, 63, 64, 65, 66, 67, 68, 7, 69, 70, 71, 72, 73, 74, 75, 76, 77, 78, 79, 80, 81, 82, 83, 84, 85, 86, 87, 88, 89, 90, 91, 92, 93, 94, 95, 96, 97, 98, 99, 100] (by decide +kernel) (by decide +kernel)
set_option maxRecDepth 20000 in
theorem gX4_give_X4_giveWords : GoodIn wsX4_give (wsV RX4 166 RX4 yX4_giveWords wsX4_giveWords) := goodIn_app (goodIn_of _ (by decide +kernel)) ggX4_give_X4_giveWords
set_option maxRecDepth 20000 in
theorem ggX4_free_X4_isThere : GoodIn wsX4_free wsX4_isThere := goodIn_r _ [6, 7, 1, 71, 72, 73, 74, 75, 76, 77, 78, 79, 80, 81, 82, 83, 84, 85, 86, 87, 88, 89, 90, 91, 92, 93, 94, 95, 96, 97, 98, 99] (by decide +kernel) (by decide +kernel)
set_option maxRecDepth 20000 in
theorem gX4_free_X4_isThere : GoodIn wsX4_free (wsV RX4 159 RX4 yX4_isThere wsX4_isThere) := goodIn_app (goodIn_of _ (by decide +kernel)) ggX4_free_X4_isThere
set_option maxRecDepth 20000 in
theorem ggX4_free_X4_blockOf : GoodIn wsX4_free wsX4_blockOf := goodIn_r _ [11, 12, 13, 71, 72, 73, 74, 75, 76, 77, 78, 79, 80, 81, 82, 83, 84, 85, 86, 87, 88, 89, 90, 91, 92, 93, 94, 95, 96, 97, 98, 99] (by decide +kernel) (by decide +kernel)
set_option maxRecDepth 20000 in
theorem gX4_free_X4_blockOf : GoodIn wsX4_free (wsV RX4 169 RX4 yX4_blockOf wsX4_blockOf) := goodIn_app (goodIn_of _ (by decide +kernel)) ggX4_free_X4_blockOf
set_option maxRecDepth 20000 in
theorem ggX4_free_X4_freeBlock : GoodIn wsX4_free wsX4_freeBlock := goodIn_r _ [17, 13, 12, 18, 19, 20, 21, 22, 23, 24, 5, 25, 26, 27, 28, 29, 30, 31, 32, 33, 34, 35, 36, 37, 38, 39, 40, 41, 42, 43, 44, 45, 46, 47, 48, 49, 50, 51, 52, 53, 54, 55, 56, 57, 58, 59, 60, 61, 62, 63, 64, 65, 7, 66, 67, 68, 69, 70, 71, 72, 73, 74, 75, 76, 77, 78, 79, 80, 81, 82, 83, 84, 85, 86, 87, 88, 89, 90, 91, 92, 93, 94, 95, 96, 97, 98, 99] (by decide +kernel) (by decide +kernel)
set_option maxRecDepth 20000 in
theorem gX4_free_X4_freeBlock : GoodIn wsX4_free (wsV RX4 172 RX4 yX4_freeBlock wsX4_freeBlock) := goodIn_app (goodIn_of _ (by decide +kernel)) ggX4_free_X4_freeBlock
set_option maxRecDepth 20000 in
theorem ggX4_change_X4_isThere : GoodIn wsX4_change wsX4_isThere := goodIn_r _ [8, 9, 10, 90, 91, 92, 93, 94, 95, 96, 97, 98, 99, 100, 101, 102, 103, 104, 105, 106, 107, 108, 109, 110, 111, 112, 113, 114, 115, 116, 117, 118] (by decide +kernel) (by decide +kernel)
set_option maxRecDepth 20000 in
theorem gX4_change_X4_isThere : GoodIn wsX4_change (wsV RX4 159 RX4 yX4_isThere wsX4_isThere) := goodIn_app (goodIn_of _ (by decide +kernel)) ggX4_change_X4_isThere
set_option maxRecDepth 20000 in
theorem ggX4_change_X4_blockOf : GoodIn wsX4_change wsX4_blockOf := goodIn_r _ [14, 3, 15, 90, 91, 92, 93, 94, 95, 96, 97, 98, 99, 100, 101, 102, 103, 104, 105, 106, 107, 108, 109, 110, 111, 112, 113, 114, 115, 116, 117, 118] (by decide +kernel) (by decide +kernel)
set_option maxRecDepth 20000 in
theorem gX4_change_X4_blockOf : GoodIn wsX4_change (wsV RX4 169 RX4 yX4_blockOf wsX4_blockOf) := goodIn_app (goodIn_of _ (by decide +kernel)) ggX4_change_X4_blockOf
set_option maxRecDepth 20000 in
theorem ggX4_change_X4_raise : GoodIn wsX4_change wsX4_raise := goodIn_r _ [19, 10, 90, 91, 92, 93, 94, 95, 96, 97, 98, 99, 100, 101, 102, 103, 104, 105, 106, 107, 108, 109, 110, 111, 112, 113, 114, 115, 116, 117, 118] (by decide +kernel) (by decide +kernel)
set_option maxRecDepth 20000 in
theorem gX4_change_X4_raise : GoodIn wsX4_change (wsV RX4 163 RX4 yX4_raise wsX4_raise) := goodIn_app (goodIn_of _ (by decide +kernel)) ggX4_change_X4_raise
set_option maxRecDepth 20000 in
theorem ggX4_change_X4_nodeAt : GoodIn wsX4_change wsX4_nodeAt := goodIn_r _ [23, 24, 25, 26, 7, 27, 28, 90, 91, 92, 93, 94, 95, 96, 97, 98, 99, 100, 101, 102, 103, 104, 105, 106, 107, 108, 109, 110, 111, 112, 113, 114, 115, 116, 117, 118] (by decide +kernel) (by decide +kernel)
set_option maxRecDepth 20000 in
theorem gX4_change_X4_nodeAt : GoodIn wsX4_change (wsV RX4 151 RX4 yX4_nodeAt wsX4_nodeAt) := goodIn_app (goodIn_of _ (by decide +kernel)) ggX4_change_X4_nodeAt
set_option maxRecDepth 20000 in
theorem ggX4_change_X4_classOf : GoodIn wsX4_change wsX4_classOf := goodIn_r _ [32, 28, 33, 90, 91, 92, 93, 94, 95, 96, 97, 98, 99, 100, 101, 102, 103, 104, 105, 106, 107, 108, 109, 110, 111, 112, 113, 114, 115, 116, 117, 118] (by decide +kernel) (by decide +kernel)
set_option maxRecDepth 20000 in
theorem gX4_change_X4_classOf : GoodIn wsX4_change (wsV RX4 139 RX4 yX4_classOf wsX4_classOf) := goodIn_app (goodIn_of _ (by decide +kernel)) ggX4_change_X4_classOf
set_option maxRecDepth 20000 in
theorem ggX4_change_X4_giveWords : GoodIn wsX4_change wsX4_giveWords := goodIn_r _ [37, 38, 39, 1, 40, 28, 41, 42, 15, 3, 2, 43, 44, 45, 7, 46, 47, 48, 49, 50, 29, 30, 31, 32, 33, 51, 52, 53, 54, 55, 56, 57, 58, 59, 60, 61, 62, 63, 64, 65, 66, 67, 68, 69, 70, 71, 72, 24, 25, 26, 27, 73, 74, 75, 76, 9, 77, 78, 79, 90, 91, 92, 93, 94, 95, 96, 97, 98, 99, 100, 101, 102, 103, 104, 105, 106, 107, 108, 109, 110, 111, 112, 113, 114, 115, 116, 117, 118] (by decide +kernel) (by decide +kernel)
set_option maxRecDepth 20000 in
theorem gX4_change_X4_giveWords : GoodIn wsX4_change (wsV RX4 166 RX4 yX4_giveWords wsX4_giveWords) := goodIn_app (goodIn_of _ (by decide +kernel)) ggX4_change_X4_giveWords
set_option maxRecDepth 20000 in
theorem ggX4_change_X4_freeBlock : GoodIn wsX4_change wsX4_freeBlock := goodIn_r _ [83, 15, 3, 2, 28, 84, 85, 20, 21, 22, 7, 23, 24, 25, 26, 27, 29, 30, 31, 32, 33, 56, 57, 58, 59, 40, 60, 61, 62, 63, 64, 65, 66, 67, 68, 47, 48, 49, 50, 86, 87, 88, 89, 69, 70, 71, 72, 55, 73, 74, 75, 76, 9, 38, 39, 77, 78, 79, 90, 91, 92, 93, 94, 95, 96, 97, 98, 99, 100, 101, 102, 103, 104, 105, 106, 107, 108, 109, 110, 111, 112, 113, 114, 115, 116, 117, 118] (by decide +kernel) (by decide +kernel)
set_option maxRecDepth 20000 in
theorem gX4_change_X4_freeBlock : GoodIn wsX4_change (wsV RX4 172 RX4 yX4_freeBlock wsX4_freeBlock) := goodIn_app (goodIn_of _ (by decide +kernel)) ggX4_change_X4_freeBlock
set_option maxRecDepth 20000 in
theorem ggX4_block_X4_isThere : GoodIn wsX4_block wsX4_isThere := goodIn_r _ [7, 8, 9, 41, 42, 43, 44, 45, 46, 47, 48, 49, 50, 51, 52, 53, 54, 55, 56, 57, 58, 59, 60, 61, 62, 63, 64, 65, 66, 67, 68, 69] (by decide +kernel) (by decide +kernel)
set_option maxRecDepth 20000 in
theorem gX4_block_X4_isThere : GoodIn wsX4_block (wsV RX4 159 RX4 yX4_isThere wsX4_isThere) := goodIn_app (goodIn_of _ (by decide +kernel)) ggX4_block_X4_isThere
set_option maxRecDepth 20000 in
theorem ggX4_block_X4_blockOf : GoodIn wsX4_block wsX4_blockOf := goodIn_r _ [13, 14, 15, 41, 42, 43, 44, 45, 46, 47, 48, 49, 50, 51, 52, 53, 54, 55, 56, 57, 58, 59, 60, 61, 62, 63, 64, 65, 66, 67, 68, 69] (by decide +kernel) (by decide +kernel)
set_option maxRecDepth 20000 in
theorem gX4_block_X4_blockOf : GoodIn wsX4_block (wsV RX4 169 RX4 yX4_blockOf wsX4_blockOf) := goodIn_app (goodIn_of _ (by decide +kernel)) ggX4_block_X4_blockOf
set_option maxRecDepth 20000 in
theorem ggX4_block_X4_in : GoodIn wsX4_block wsX4_in := goodIn_r _ [18] (by decide +kernel) (by decide +kernel)
set_option maxRecDepth 20000 in
theorem gX4_block_X4_in : GoodIn wsX4_block (va_wsS RX4 72 yX4_in wsX4_in) := goodIn_app (goodIn_of _ (by decide +kernel)) ggX4_block_X4_in
set_option maxRecDepth 20000 in
theorem ggX4_block_X4_raise : GoodIn wsX4_block wsX4_raise := goodIn_r _ [22, 9, 41, 42, 43, 44, 45, 46, 47, 48, 49, 50, 51, 52, 53, 54, 55, 56, 57, 58, 59, 60, 61, 62, 63, 64, 65, 66, 67, 68, 69] (by decide +kernel) (by decide +kernel)
set_option maxRecDepth 20000 in
theorem gX4_block_X4_raise : GoodIn wsX4_block (wsV RX4 163 RX4 yX4_raise wsX4_raise) := goodIn_app (goodIn_of _ (by decide +kernel)) ggX4_block_X4_raise
set_option maxRecDepth 20000 in
theorem ggX4_block_X4_nodeAt : GoodIn wsX4_block wsX4_nodeAt := goodIn_r _ [26, 27, 28, 29, 6, 30, 31, 41, 42, 43, 44, 45, 46, 47, 48, 49, 50, 51, 52, 53, 54, 55, 56, 57, 58, 59, 60, 61, 62, 63, 64, 65, 66, 67, 68, 69] (by decide +kernel) (by decide +kernel)
set_option maxRecDepth 20000 in
theorem gX4_block_X4_nodeAt : GoodIn wsX4_block (wsV RX4 151 RX4 yX4_nodeAt wsX4_nodeAt) := goodIn_app (goodIn_of _ (by decide +kernel)) ggX4_block_X4_nodeAt
set_option maxRecDepth 20000 in
theorem ggX4_block_X4_classOf : GoodIn wsX4_block wsX4_classOf := goodIn_r _ [35, 31, 36, 41, 42, 43, 44, 45, 46, 47, 48, 49, 50, 51, 52, 53, 54, 55, 56, 57, 58, 59, 60, 61, 62, 63, 64, 65, 66, 67, 68, 69] (by decide +kernel) (by decide +kernel)
set_option maxRecDepth 20000 in
theorem gX4_block_X4_classOf : GoodIn wsX4_block (wsV RX4 139 RX4 yX4_classOf wsX4_classOf) := goodIn_app (goodIn_of _ (by decide +kernel)) ggX4_block_X4_classOf
set_option maxRecDepth 20000 in
theorem ggX4_block_X4_depth : GoodIn wsX4_block wsX4_depth := goodIn_r _ [40, 31, 36, 41, 42, 43, 44, 45, 46, 47, 48, 49, 50, 51, 52, 53, 54, 55, 56, 57, 58, 59, 60, 61, 62, 63, 64, 65, 66, 67, 68, 69] (by decide +kernel) (by decide +kernel)
set_option maxRecDepth 20000 in
theorem gX4_block_X4_depth : GoodIn wsX4_block (wsV RX4 116 RX4 yX4_depth wsX4_depth) := goodIn_app (goodIn_of _ (by decide +kernel)) ggX4_block_X4_depth
set_option maxRecDepth 20000 in
theorem ggX4_path_X4_isThere : GoodIn wsX4_path wsX4_isThere := goodIn_r _ [5, 6, 7, 37, 38, 39, 40, 41, 42, 43, 44, 45, 46, 47, 48, 49, 50, 51, 52, 53, 54, 55, 56, 57, 58, 59, 60, 61, 62, 63, 64, 65] (by decide +kernel) (by decide +kernel)
set_option maxRecDepth 20000 in
theorem gX4_path_X4_isThere : GoodIn wsX4_path (wsV RX4 159 RX4 yX4_isThere wsX4_isThere) := goodIn_app (goodIn_of _ (by decide +kernel)) ggX4_path_X4_isThere
set_option maxRecDepth 20000 in
theorem ggX4_path_X4_blockOf : GoodIn wsX4_path wsX4_blockOf := goodIn_r _ [11, 12, 13, 37, 38, 39, 40, 41, 42, 43, 44, 45, 46, 47, 48, 49, 50, 51, 52, 53, 54, 55, 56, 57, 58, 59, 60, 61, 62, 63, 64, 65] (by decide +kernel) (by decide +kernel)
set_option maxRecDepth 20000 in
theorem gX4_path_X4_blockOf : GoodIn wsX4_path (wsV RX4 169 RX4 yX4_blockOf wsX4_blockOf) := goodIn_app (goodIn_of _ (by decide +kernel)) ggX4_path_X4_blockOf
set_option maxRecDepth 20000 in
theorem ggX4_path_X4_raise : GoodIn wsX4_path wsX4_raise := goodIn_r _ [17, 7, 37, 38, 39, 40, 41, 42, 43, 44, 45, 46, 47, 48, 49, 50, 51, 52, 53, 54, 55, 56, 57, 58, 59, 60, 61, 62, 63, 64, 65] (by decide +kernel) (by decide +kernel)
set_option maxRecDepth 20000 in
theorem gX4_path_X4_raise : GoodIn wsX4_path (wsV RX4 163 RX4 yX4_raise wsX4_raise) := goodIn_app (goodIn_of _ (by decide +kernel)) ggX4_path_X4_raise
set_option maxRecDepth 20000 in
theorem ggX4_path_X4_nodeAt : GoodIn wsX4_path wsX4_nodeAt := goodIn_r _ [21, 22, 23, 24, 4, 25, 26, 37, 38, 39, 40, 41, 42, 43, 44, 45, 46, 47, 48, 49, 50, 51, 52, 53, 54, 55, 56, 57, 58, 59, 60, 61, 62, 63, 64, 65] (by decide +kernel) (by decide +kernel)
set_option maxRecDepth 20000 in
theorem gX4_path_X4_nodeAt : GoodIn wsX4_path (wsV RX4 151 RX4 yX4_nodeAt wsX4_nodeAt) := goodIn_app (goodIn_of _ (by decide +kernel)) ggX4_path_X4_nodeAt
set_option maxRecDepth 20000 in
theorem ggX4_path_X4_depth : GoodIn wsX4_path wsX4_depth := goodIn_r _ [30, 26, 31, 37, 38, 39, 40, 41, 42, 43, 44, 45, 46, 47, 48, 49, 50, 51, 52, 53, 54, 55, 56, 57, 58, 59, 60, 61, 62, 63, 64, 65] (by decide +kernel) (by decide +kernel)
set_option maxRecDepth 20000 in
theorem gX4_path_X4_depth : GoodIn wsX4_path (wsV RX4 116 RX4 yX4_depth wsX4_depth) := goodIn_app (goodIn_of _ (by decide +kernel)) ggX4_path_X4_depth
set_option maxRecDepth 20000 in
theorem ggX4_path_X4_sides : GoodIn wsX4_path wsX4_sides := goodIn_r _ [35, 26, 36, 37, 38, 39, 40, 41, 42, 43, 44, 45, 46, 47, 48, 49, 50, 51, 52, 53, 54, 55, 56, 57, 58, 59, 60, 61, 62, 63, 64, 65] (by decide +kernel) (by decide +kernel)
set_option maxRecDepth 20000 in
theorem gX4_path_X4_sides : GoodIn wsX4_path (wsV RX4 120 RX4 yX4_sides wsX4_sides) := goodIn_app (goodIn_of _ (by decide +kernel)) ggX4_path_X4_sides
set_option maxRecDepth 20000 in
theorem ggX4_keep_X4_isThere : GoodIn wsX4_keep wsX4_isThere := goodIn_r _ [10, 11, 4, 15, 16, 17, 18, 19, 20, 21, 22, 23, 24, 25, 26, 27, 28, 29, 30, 31, 32, 33, 34, 35, 36, 37, 38, 39, 40, 41, 42, 43] (by decide +kernel) (by decide +kernel)
set_option maxRecDepth 20000 in
theorem gX4_keep_X4_isThere : GoodIn wsX4_keep (wsV RX4 159 RX4 yX4_isThere wsX4_isThere) := goodIn_app (goodIn_of _ (by decide +kernel)) ggX4_keep_X4_isThere
set_option maxRecDepth 20000 in
theorem ggX4_keep_X4_in : GoodIn wsX4_keep wsX4_in := goodIn_r _ [14] (by decide +kernel) (by decide +kernel)
set_option maxRecDepth 20000 in
theorem gX4_keep_X4_in : GoodIn wsX4_keep (va_wsS RX4 72 yX4_in wsX4_in) := goodIn_app (goodIn_of _ (by decide +kernel)) ggX4_keep_X4_in
set_option maxRecDepth 20000 in
theorem ggX4_join_X4_isThere : GoodIn wsX4_join wsX4_isThere := goodIn_r _ [5, 6, 7, 50, 51, 52, 53, 54, 55, 56, 57, 58, 59, 60, 61, 62, 63, 64, 65, 66, 67, 68, 69, 70, 71, 72, 73, 74, 75, 76, 77, 78] (by decide +kernel) (by decide +kernel)
set_option maxRecDepth 20000 in
theorem gX4_join_X4_isThere : GoodIn wsX4_join (wsV RX4 159 RX4 yX4_isThere wsX4_isThere) := goodIn_app (goodIn_of _ (by decide +kernel)) ggX4_join_X4_isThere
set_option maxRecDepth 20000 in
theorem ggX4_join_X4_joinAll : GoodIn wsX4_join wsX4_joinAll := goodIn_r _ [11, 12, 13, 14, 15, 16, 4, 17, 18, 19, 20, 21, 22, 23, 24, 25, 26, 27, 28, 29, 30, 31, 32, 33, 34, 35, 36, 37, 38, 39, 40, 41, 42, 43, 44, 6, 45, 46, 47, 48, 49, 50, 51, 52, 53, 54, 55, 56, 57, 58, 59, 60, 61, 62, 63, 64, 65, 66, 67, 68, 69, 70, 71, 72, 73, 74, 75, 76, 77, 78] (by decide +kernel) (by decide +kernel)
set_option maxRecDepth 20000 in
theorem gX4_join_X4_joinAll : GoodIn wsX4_join (wsV RX4 145 RX4 yX4_joinAll wsX4_joinAll) := goodIn_app (goodIn_of _ (by decide +kernel)) ggX4_join_X4_joinAll
set_option maxRecDepth 20000 in
theorem ggX4_nodes_X4_isThere : GoodIn wsX4_nodes wsX4_isThere := goodIn_r _ [9, 10, 11, 37, 38, 39, 40, 41, 42, 43, 44, 45, 46, 47, 48, 49, 50, 51, 52, 53, 54, 55, 56, 57, 58, 59, 60, 61, 62, 63, 64, 65] (by decide +kernel) (by decide +kernel)
set_option maxRecDepth 20000 in
theorem gX4_nodes_X4_isThere : GoodIn wsX4_nodes (wsV RX4 159 RX4 yX4_isThere wsX4_isThere) := goodIn_app (goodIn_of _ (by decide +kernel)) ggX4_nodes_X4_isThere
set_option maxRecDepth 20000 in
theorem ggX4_nodes_X4_in : GoodIn wsX4_nodes wsX4_in := goodIn_r _ [14] (by decide +kernel) (by decide +kernel)
set_option maxRecDepth 20000 in
theorem gX4_nodes_X4_in : GoodIn wsX4_nodes (va_wsS RX4 72 yX4_in wsX4_in) := goodIn_app (goodIn_of _ (by decide +kernel)) ggX4_nodes_X4_in
set_option maxRecDepth 20000 in
theorem ggX4_nodes_X4_raise : GoodIn wsX4_nodes wsX4_raise := goodIn_r _ [18, 11, 37, 38, 39, 40, 41, 42, 43, 44, 45, 46, 47, 48, 49, 50, 51, 52, 53, 54, 55, 56, 57, 58, 59, 60, 61, 62, 63, 64, 65] (by decide +kernel) (by decide +kernel)
set_option maxRecDepth 20000 in
theorem gX4_nodes_X4_raise : GoodIn wsX4_nodes (wsV RX4 163 RX4 yX4_raise wsX4_raise) := goodIn_app (goodIn_of _ (by decide +kernel)) ggX4_nodes_X4_raise
set_option maxRecDepth 20000 in
theorem ggX4_nodes_X4_isLive : GoodIn wsX4_nodes wsX4_isLive := goodIn_r _ [22, 23, 37, 38, 39, 40, 41, 42, 43, 44, 45, 46, 47, 48, 49, 50, 51, 52, 53, 54, 55, 56, 57, 58, 59, 60, 61, 62, 63, 64, 65] (by decide +kernel) (by decide +kernel)
set_option maxRecDepth 20000 in
theorem gX4_nodes_X4_isLive : GoodIn wsX4_nodes (wsV RX4 132 RX4 yX4_isLive wsX4_isLive) := goodIn_app (goodIn_of _ (by decide +kernel)) ggX4_nodes_X4_isLive
set_option maxRecDepth 20000 in
theorem ggX4_nodes_X4_classOf : GoodIn wsX4_nodes wsX4_classOf := goodIn_r _ [27, 23, 28, 37, 38, 39, 40, 41, 42, 43, 44, 45, 46, 47, 48, 49, 50, 51, 52, 53, 54, 55, 56, 57, 58, 59, 60, 61, 62, 63, 64, 65] (by decide +kernel) (by decide +kernel)
set_option maxRecDepth 20000 in
theorem gX4_nodes_X4_classOf : GoodIn wsX4_nodes (wsV RX4 139 RX4 yX4_classOf wsX4_classOf) := goodIn_app (goodIn_of _ (by decide +kernel)) ggX4_nodes_X4_classOf
set_option maxRecDepth 20000 in
theorem ggX4_nodes_X4_address : GoodIn wsX4_nodes wsX4_address := goodIn_r _ [32, 23, 37, 38, 39, 40, 41, 42, 43, 44, 45, 46, 47, 48, 49, 50, 51, 52, 53, 54, 55, 56, 57, 58, 59, 60, 61, 62, 63, 64, 65] (by decide +kernel) (by decide +kernel)
set_option maxRecDepth 20000 in
theorem gX4_nodes_X4_address : GoodIn wsX4_nodes (wsV RX4 123 RX4 yX4_address wsX4_address) := goodIn_app (goodIn_of _ (by decide +kernel)) ggX4_nodes_X4_address
set_option maxRecDepth 20000 in
theorem ggX4_nodes_X4_freeOf : GoodIn wsX4_nodes wsX4_freeOf := goodIn_r _ [36, 4, 19, 20, 21, 8, 22, 23, 24, 25, 26, 27, 28, 37, 38, 39, 40, 41, 42, 43, 44, 45, 46, 47, 48, 49, 50, 51, 52, 53, 54, 55, 56, 57, 58, 59, 60, 61, 62, 63, 64, 65] (by decide +kernel) (by decide +kernel)
set_option maxRecDepth 20000 in
theorem gX4_nodes_X4_freeOf : GoodIn wsX4_nodes (wsV RX4 156 RX4 yX4_freeOf wsX4_freeOf) := goodIn_app (goodIn_of _ (by decide +kernel)) ggX4_nodes_X4_freeOf
set_option maxRecDepth 20000 in
theorem ggX4_leaf_X4_isThere : GoodIn wsX4_leaf wsX4_isThere := goodIn_r _ [8, 9, 10, 34, 35, 36, 37, 38, 39, 40, 41, 42, 43, 44, 45, 46, 47, 48, 49, 50, 51, 52, 53, 54, 55, 56, 57, 58, 59, 60, 61, 62] (by decide +kernel) (by decide +kernel)
set_option maxRecDepth 20000 in
theorem gX4_leaf_X4_isThere : GoodIn wsX4_leaf (wsV RX4 159 RX4 yX4_isThere wsX4_isThere) := goodIn_app (goodIn_of _ (by decide +kernel)) ggX4_leaf_X4_isThere
set_option maxRecDepth 20000 in
theorem ggX4_leaf_X4_in : GoodIn wsX4_leaf wsX4_in := goodIn_r _ [13] (by decide +kernel) (by decide +kernel)
set_option maxRecDepth 20000 in
theorem gX4_leaf_X4_in : GoodIn wsX4_leaf (va_wsS RX4 72 yX4_in wsX4_in) := goodIn_app (goodIn_of _ (by decide +kernel)) ggX4_leaf_X4_in
set_option maxRecDepth 20000 in
theorem ggX4_leaf_X4_address : GoodIn wsX4_leaf wsX4_address := goodIn_r _ [17, 18, 34, 35, 36, 37, 38, 39, 40, 41, 42, 43, 44, 45, 46, 47, 48, 49, 50, 51, 52, 53, 54, 55, 56, 57, 58, 59, 60, 61, 62] (by decide +kernel) (by decide +kernel)
set_option maxRecDepth 20000 in
theorem gX4_leaf_X4_address : GoodIn wsX4_leaf (wsV RX4 123 RX4 yX4_address wsX4_address) := goodIn_app (goodIn_of _ (by decide +kernel)) ggX4_leaf_X4_address
set_option maxRecDepth 20000 in
theorem ggX4_leaf_X4_classOf : GoodIn wsX4_leaf wsX4_classOf := goodIn_r _ [22, 18, 23, 34, 35, 36, 37, 38, 39, 40, 41, 42, 43, 44, 45, 46, 47, 48, 49, 50, 51, 52, 53, 54, 55, 56, 57, 58, 59, 60, 61, 62] (by decide +kernel) (by decide +kernel)
set_option maxRecDepth 20000 in
theorem gX4_leaf_X4_classOf : GoodIn wsX4_leaf (wsV RX4 139 RX4 yX4_classOf wsX4_classOf) := goodIn_app (goodIn_of _ (by decide +kernel)) ggX4_leaf_X4_classOf
set_option maxRecDepth 20000 in
theorem ggX4_leaf_X4_isLive : GoodIn wsX4_leaf wsX4_isLive := goodIn_r _ [27, 18, 34, 35, 36, 37, 38, 39, 40, 41, 42, 43, 44, 45, 46, 47, 48, 49, 50, 51, 52, 53, 54, 55, 56, 57, 58, 59, 60, 61, 62] (by decide +kernel) (by decide +kernel)
set_option maxRecDepth 20000 in
theorem gX4_leaf_X4_isLive : GoodIn wsX4_leaf (wsV RX4 132 RX4 yX4_isLive wsX4_isLive) := goodIn_app (goodIn_of _ (by decide +kernel)) ggX4_leaf_X4_isLive
set_option maxRecDepth 20000 in
theorem ggX4_leaf_X4_blockOf : GoodIn wsX4_leaf wsX4_blockOf := goodIn_r _ [31, 32, 33, 34, 35, 36, 37, 38, 39, 40, 41, 42, 43, 44, 45, 46, 47, 48, 49, 50, 51, 52, 53, 54, 55, 56, 57, 58, 59, 60, 61, 62] (by decide +kernel) (by decide +kernel)
set_option maxRecDepth 20000 in
theorem gX4_leaf_X4_blockOf : GoodIn wsX4_leaf (wsV RX4 169 RX4 yX4_blockOf wsX4_blockOf) := goodIn_app (goodIn_of _ (by decide +kernel)) ggX4_leaf_X4_blockOf
set_option maxRecDepth 20000 in
theorem ggX4_tellWaiting_X4_classAt : GoodIn wsX4_tellWaiting wsX4_classAt := goodIn_r _ [14, 15, 16, 17, 18, 19, 20, 21, 22, 23, 24, 25, 26, 27, 28, 29, 30, 31, 32, 33, 34, 35, 36, 37, 38, 39, 40, 41, 42, 43, 44, 45, 46] (by decide +kernel) (by decide +kernel)
set_option maxRecDepth 20000 in
theorem gX4_tellWaiting_X4_classAt : GoodIn wsX4_tellWaiting (wsV RX4 126 RX4 yX4_classAt wsX4_classAt) := goodIn_app (goodIn_of _ (by decide +kernel)) ggX4_tellWaiting_X4_classAt
set_option maxRecDepth 20000 in
theorem ggX4_goAlong_X4_reckonTimes : GoodIn wsX4_goAlong wsX4_reckonTimes := goodIn_r _ [15, 8, 16, 17, 18, 7, 1, 47, 48, 49, 50, 51, 52, 53, 54, 55, 56, 57, 58, 59, 60, 61, 62, 63, 64, 65, 66, 67, 68, 69, 70, 71, 72, 73, 74, 75] (by decide +kernel) (by decide +kernel)
set_option maxRecDepth 20000 in
theorem gX4_goAlong_X4_reckonTimes : GoodIn wsX4_goAlong (wsV RX4 193 RX4 yX4_reckonTimes wsX4_reckonTimes) := goodIn_app (goodIn_of _ (by decide +kernel)) ggX4_goAlong_X4_reckonTimes
set_option maxRecDepth 20000 in
theorem ggX4_goAlong_X4_isLive : GoodIn wsX4_goAlong wsX4_isLive := goodIn_r _ [22, 23, 47, 48, 49, 50, 51, 52, 53, 54, 55, 56, 57, 58, 59, 60, 61, 62, 63, 64, 65, 66, 67, 68, 69, 70, 71, 72, 73, 74, 75] (by decide +kernel) (by decide +kernel)
set_option maxRecDepth 20000 in
theorem gX4_goAlong_X4_isLive : GoodIn wsX4_goAlong (wsV RX4 132 RX4 yX4_isLive wsX4_isLive) := goodIn_app (goodIn_of _ (by decide +kernel)) ggX4_goAlong_X4_isLive
set_option maxRecDepth 20000 in
theorem ggX4_goAlong_X4_classOf : GoodIn wsX4_goAlong wsX4_classOf := goodIn_r _ [27, 23, 28, 47, 48, 49, 50, 51, 52, 53, 54, 55, 56, 57, 58, 59, 60, 61, 62, 63, 64, 65, 66, 67, 68, 69, 70, 71, 72, 73, 74, 75] (by decide +kernel) (by decide +kernel)
set_option maxRecDepth 20000 in
theorem gX4_goAlong_X4_classOf : GoodIn wsX4_goAlong (wsV RX4 139 RX4 yX4_classOf wsX4_classOf) := goodIn_app (goodIn_of _ (by decide +kernel)) ggX4_goAlong_X4_classOf
set_option maxRecDepth 20000 in
theorem ggX4_goAlong_X4_tellWaiting : GoodIn wsX4_goAlong wsX4_tellWaiting := goodIn_r _ [32, 2, 9, 10, 3, 7, 4, 1, 5, 8, 33, 34, 35, 14, 36, 37, 17, 18, 47, 48, 49, 50, 51, 52, 53, 54, 55, 56, 57, 58, 59, 60, 61, 62, 63, 64, 65, 66, 67, 68, 69, 70, 71, 72, 73, 74, 75] (by decide +kernel) (by decide +kernel)
set_option maxRecDepth 20000 in
theorem gX4_goAlong_X4_tellWaiting : GoodIn wsX4_goAlong (wsV RX4 196 RX4 yX4_tellWaiting wsX4_tellWaiting) := goodIn_app (goodIn_of _ (by decide +kernel)) ggX4_goAlong_X4_tellWaiting
set_option maxRecDepth 20000 in
theorem ggX4_goAlong_X4_depth : GoodIn wsX4_goAlong wsX4_depth := goodIn_r _ [41, 23, 28, 47, 48, 49, 50, 51, 52, 53, 54, 55, 56, 57, 58, 59, 60, 61, 62, 63, 64, 65, 66, 67, 68, 69, 70, 71, 72, 73, 74, 75] (by decide +kernel) (by decide +kernel)
set_option maxRecDepth 20000 in
theorem gX4_goAlong_X4_depth : GoodIn wsX4_goAlong (wsV RX4 116 RX4 yX4_depth wsX4_depth) := goodIn_app (goodIn_of _ (by decide +kernel)) ggX4_goAlong_X4_depth
set_option maxRecDepth 20000 in
theorem ggX4_goAlong_X4_sides : GoodIn wsX4_goAlong wsX4_sides := goodIn_r _ [45, 23, 46, 47, 48, 49, 50, 51, 52, 53, 54, 55, 56, 57, 58, 59, 60, 61, 62, 63, 64, 65, 66, 67, 68, 69, 70, 71, 72, 73, 74, 75] (by decide +kernel) (by decide +kernel)
set_option maxRecDepth 20000 in
theorem gX4_goAlong_X4_sides : GoodIn wsX4_goAlong (wsV RX4 120 RX4 yX4_sides wsX4_sides) := goodIn_app (goodIn_of _ (by decide +kernel)) ggX4_goAlong_X4_sides
set_option maxRecDepth 20000 in
theorem ggX4_count_X4_isThere : GoodIn wsX4_count wsX4_isThere := goodIn_r _ [14, 5, 15, 60, 61, 62, 63, 64, 65, 66, 67, 68, 69, 70, 71, 72, 73, 74, 75, 76, 77, 78, 79, 80, 81, 82, 83, 84, 85, 86, 87, 88] (by decide +kernel) (by decide +kernel)
set_option maxRecDepth 20000 in
theorem gX4_count_X4_isThere : GoodIn wsX4_count (wsV RX4 159 RX4 yX4_isThere wsX4_isThere) := goodIn_app (goodIn_of _ (by decide +kernel)) ggX4_count_X4_isThere
set_option maxRecDepth 20000 in
theorem ggX4_count_X4_isLive : GoodIn wsX4_count wsX4_isLive := goodIn_r _ [19, 20, 60, 61, 62, 63, 64, 65, 66, 67, 68, 69, 70, 71, 72, 73, 74, 75, 76, 77, 78, 79, 80, 81, 82, 83, 84, 85, 86, 87, 88] (by decide +kernel) (by decide +kernel)
set_option maxRecDepth 20000 in
theorem gX4_count_X4_isLive : GoodIn wsX4_count (wsV RX4 132 RX4 yX4_isLive wsX4_isLive) := goodIn_app (goodIn_of _ (by decide +kernel)) ggX4_count_X4_isLive
set_option maxRecDepth 20000 in
theorem ggX4_count_X4_classOf : GoodIn wsX4_count wsX4_classOf := goodIn_r _ [24, 20, 25, 60, 61, 62, 63, 64, 65, 66, 67, 68, 69, 70, 71, 72, 73, 74, 75, 76, 77, 78, 79, 80, 81, 82, 83, 84, 85, 86, 87, 88] (by decide +kernel) (by decide +kernel)
set_option maxRecDepth 20000 in
theorem gX4_count_X4_classOf : GoodIn wsX4_count (wsV RX4 139 RX4 yX4_classOf wsX4_classOf) := goodIn_app (goodIn_of _ (by decide +kernel)) ggX4_count_X4_classOf
set_option maxRecDepth 20000 in
theorem ggX4_count_X4_goAlong : GoodIn wsX4_count wsX4_goAlong := goodIn_r _ [29, 30, 31, 9, 6, 32, 1, 2, 33, 34, 35, 36, 37, 38, 13, 39, 40, 41, 42, 16, 17, 18, 19, 20, 21, 22, 23, 24, 25, 43, 44, 45, 46, 47, 48, 49, 50, 5, 51, 52, 53, 54, 55, 56, 57, 58, 59, 60, 61, 62, 63, 64, 65, 66, 67, 68, 69, 70, 71, 72, 73, 74, 75, 76, 77, 78, 79, 80, 81, 82, 83, 84, 85, 86, 87, 88] (by decide +kernel) (by decide +kernel)
set_option maxRecDepth 20000 in
theorem gX4_count_X4_goAlong : GoodIn wsX4_count (wsV RX4 199 RX4 yX4_goAlong wsX4_goAlong) := goodIn_app (goodIn_of _ (by decide +kernel)) ggX4_count_X4_goAlong
set_option maxRecDepth 20000 in
theorem ggX4_room_X4_isThere : GoodIn wsX4_room wsX4_isThere := goodIn_r _ [6, 7, 8, 60, 61, 62, 63, 64, 65, 66, 67, 68, 69, 70, 71, 72, 73, 74, 75, 76, 77, 78, 79, 80, 81, 82, 83, 84, 85, 86, 87, 88] (by decide +kernel) (by decide +kernel)
set_option maxRecDepth 20000 in
theorem gX4_room_X4_isThere : GoodIn wsX4_room (wsV RX4 159 RX4 yX4_isThere wsX4_isThere) := goodIn_app (goodIn_of _ (by decide +kernel)) ggX4_room_X4_isThere
set_option maxRecDepth 20000 in
theorem ggX4_room_X4_raise : GoodIn wsX4_room wsX4_raise := goodIn_r _ [12, 8, 60, 61, 62, 63, 64, 65, 66, 67, 68, 69, 70, 71, 72, 73, 74, 75, 76, 77, 78, 79, 80, 81, 82, 83, 84, 85, 86, 87, 88] (by decide +kernel) (by decide +kernel)
set_option maxRecDepth 20000 in
theorem gX4_room_X4_raise : GoodIn wsX4_room (wsV RX4 163 RX4 yX4_raise wsX4_raise) := goodIn_app (goodIn_of _ (by decide +kernel)) ggX4_room_X4_raise
set_option maxRecDepth 20000 in
theorem ggX4_room_X4_goAlong : GoodIn wsX4_room wsX4_goAlong := goodIn_r _ [16, 17, 18, 19, 20, 1, 21, 22, 23, 24, 25, 26, 27, 28, 5, 29, 30, 31, 32, 33, 34, 35, 36, 37, 38, 39, 40, 41, 42, 43, 44, 45, 46, 47, 48, 49, 50, 7, 51, 52, 53, 54, 55, 56, 57, 58, 59, 60, 61, 62, 63, 64, 65, 66, 67, 68, 69, 70, 71, 72, 73, 74, 75, 76, 77, 78, 79, 80, 81, 82, 83, 84, 85, 86, 87, 88] (by decide +kernel) (by decide +kernel)
set_option maxRecDepth 20000 in
theorem gX4_room_X4_goAlong : GoodIn wsX4_room (wsV RX4 199 RX4 yX4_goAlong wsX4_goAlong) := goodIn_app (goodIn_of _ (by decide +kernel)) ggX4_room_X4_goAlong
set_option maxRecDepth 20000 in
theorem ggX4_load_X4_in : GoodIn wsX4_load wsX4_in := goodIn_r _ [7] (by decide +kernel) (by decide +kernel)
set_option maxRecDepth 20000 in
theorem gX4_load_X4_in : GoodIn wsX4_load (va_wsS RX4 72 yX4_in wsX4_in) := goodIn_app (goodIn_of _ (by decide +kernel)) ggX4_load_X4_in
set_option maxRecDepth 20000 in
theorem ggX4_replay_X4_isThere : GoodIn wsX4_replay wsX4_isThere := goodIn_r _ [9, 10, 11, 96, 97, 98, 99, 100, 101, 102, 103, 104, 105, 106, 107, 108, 109, 110, 111, 112, 113, 114, 115, 116, 117, 118, 119, 120, 121, 122, 123, 124] (by decide +kernel) (by decide +kernel)
set_option maxRecDepth 20000 in
theorem gX4_replay_X4_isThere : GoodIn wsX4_replay (wsV RX4 159 RX4 yX4_isThere wsX4_isThere) := goodIn_app (goodIn_of _ (by decide +kernel)) ggX4_replay_X4_isThere
set_option maxRecDepth 20000 in
theorem ggX4_replay_X4_in : GoodIn wsX4_replay wsX4_in := goodIn_r _ [14] (by decide +kernel) (by decide +kernel)
set_option maxRecDepth 20000 in
theorem gX4_replay_X4_in : GoodIn wsX4_replay (va_wsS RX4 72 yX4_in wsX4_in) := goodIn_app (goodIn_of _ (by decide +kernel)) ggX4_replay_X4_in
set_option maxRecDepth 20000 in
theorem ggX4_replay_X4_raise : GoodIn wsX4_replay wsX4_raise := goodIn_r _ [18, 11, 96, 97, 98, 99, 100, 101, 102, 103, 104, 105, 106, 107, 108, 109, 110, 111, 112, 113, 114, 115, 116, 117, 118, 119, 120, 121, 122, 123, 124] (by decide +kernel) (by decide +kernel)
set_option maxRecDepth 20000 in
theorem gX4_replay_X4_raise : GoodIn wsX4_replay (wsV RX4 163 RX4 yX4_raise wsX4_raise) := goodIn_app (goodIn_of _ (by decide +kernel)) ggX4_replay_X4_raise
set_option maxRecDepth 20000 in
theorem ggX4_replay_X4_joinAll : GoodIn wsX4_replay wsX4_joinAll := goodIn_r _ [22, 23, 24, 25, 26, 27, 8, 28, 29, 30, 31, 32, 33, 34, 35, 36, 37, 38, 39, 40, 41, 42, 43, 44, 45, 46, 47, 48, 49, 50, 51, 52, 53, 54, 55, 10, 56, 57, 58, 59, 60, 96, 97, 98, 99, 100, 101, 102, 103, 104, 105, 106, 107, 108, 109, 110, 111, 112, 113, 114, 115, 116, 117, 118, 119, 120, 121, 122, 123, 124] (by decide +kernel) (by decide +kernel)
set_option maxRecDepth 20000 in
theorem gX4_replay_X4_joinAll : GoodIn wsX4_replay (wsV RX4 145 RX4 yX4_joinAll wsX4_joinAll) := goodIn_app (goodIn_of _ (by decide +kernel)) ggX4_replay_X4_joinAll
set_option maxRecDepth 20000 in
theorem ggX4_replay_X4_giveWords : GoodIn wsX4_replay wsX4_giveWords := goodIn_r _ [64, 56, 57, 65, 24, 33, 66, 67, 68, 4, 69, 70, 71, 72, 8, 73, 40, 41, 42, 43, 74, 75, 76, 77, 34, 19, 20, 21, 22, 23, 25, 26, 27, 28, 29, 30, 31, 32, 35, 36, 37, 38, 39, 44, 45, 46, 47, 48, 49, 50, 51, 52, 53, 54, 55, 10, 58, 59, 60, 96, 97, 98, 99, 100, 101, 102, 103, 104, 105, 106, 107, 108, 109, 110, 111, 112, 113, 114, 115, 116, 117, 118, 119, 120, 121, 122, 123, 124] (by decide +kernel) (by decide +kernel)
set_option maxRecDepth 20000 in
theorem gX4_replay_X4_giveWords : GoodIn wsX4_replay (wsV RX4 166 RX4 yX4_giveWords wsX4_giveWords) := goodIn_app (goodIn_of _ (by decide +kernel)) ggX4_replay_X4_giveWords
set_option maxRecDepth 20000 in
theorem ggX4_replay_X4_blockOf : GoodIn wsX4_replay wsX4_blockOf := goodIn_r _ [81, 4, 68, 96, 97, 98, 99, 100, 101, 102, 103, 104, 105, 106, 107, 108, 109, 110, 111, 112, 113, 114, 115, 116, 117, 118, 119, 120, 121, 122, 123, 124] (by decide +kernel) (by decide +kernel)
set_option maxRecDepth 20000 in
theorem gX4_replay_X4_blockOf : GoodIn wsX4_replay (wsV RX4 169 RX4 yX4_blockOf wsX4_blockOf) := goodIn_app (goodIn_of _ (by decide +kernel)) ggX4_replay_X4_blockOf
set_option maxRecDepth 20000 in
theorem ggX4_replay_X4_freeBlock : GoodIn wsX4_replay wsX4_freeBlock := goodIn_r _ [85, 68, 4, 69, 33, 86, 87, 88, 89, 90, 8, 91, 48, 49, 50, 51, 74, 75, 76, 77, 34, 25, 26, 27, 28, 24, 29, 30, 31, 32, 35, 36, 37, 38, 39, 40, 41, 42, 43, 92, 93, 94, 95, 44, 45, 46, 47, 23, 52, 53, 54, 55, 10, 56, 57, 58, 59, 60, 96, 97, 98, 99, 100, 101, 102, 103, 104, 105, 106, 107, 108, 109, 110, 111, 112, 113, 114, 115, 116, 117, 118, 119, 120, 121, 122, 123, 124] (by decide +kernel) (by decide +kernel)
set_option maxRecDepth 20000 in
theorem gX4_replay_X4_freeBlock : GoodIn wsX4_replay (wsV RX4 172 RX4 yX4_freeBlock wsX4_freeBlock) := goodIn_app (goodIn_of _ (by decide +kernel)) ggX4_replay_X4_freeBlock
