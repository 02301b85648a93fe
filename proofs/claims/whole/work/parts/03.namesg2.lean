set_option maxRecDepth 20000 in
theorem gX3_room_X0_grantsLeft : GoodIn wsX3_room (wsV RX3 185 RX0 yX0_grantsLeft wsX0_grantsLeft) := goodIn_app (goodIn_of _ (by decide +kernel)) ggX3_room_X0_grantsLeft
set_option maxRecDepth 20000 in
theorem ggX3_replay_X3_requireMemory : GoodIn wsX3_replay wsX3_requireMemory := goodIn_ca (goodIn_r _ [8, 9, 10, 11, 186, 187, 188, 189, 190] (by decide +kernel) (by decide +kernel)) (goodIn_sub (fun _ h => List.mem_cons_of_mem _ (List.mem_append_right _ h)) (by decide +kernel))
set_option maxRecDepth 20000 in
theorem gX3_replay_X3_requireMemory : GoodIn wsX3_replay (wsV RX3 77 RX3 yX3_requireMemory wsX3_requireMemory) := goodIn_app (goodIn_of _ (by decide +kernel)) ggX3_replay_X3_requireMemory
set_option maxRecDepth 20000 in
theorem ggX3_replay_J7_fill_53178 : GoodIn wsX3_replay wsJ7_fill_53178 := goodIn_r _ [15] (by decide +kernel) (by decide +kernel)
set_option maxRecDepth 20000 in
theorem gX3_replay_J7_fill_53178 : GoodIn wsX3_replay (va_wsS RX3 192 yJ7_fill_53178 wsJ7_fill_53178) := goodIn_app (goodIn_of _ (by decide +kernel)) ggX3_replay_J7_fill_53178
set_option maxRecDepth 20000 in
theorem ggX3_replay_X3_perform : GoodIn wsX3_replay wsX3_perform := goodIn_r _ [19, 20, 3, 21, 22, 23, 24, 25, 26, 27, 28, 29, 30, 31, 32, 33, 34, 35, 36, 37, 38, 39, 40, 41, 42, 43, 44, 45, 46, 47, 48, 49, 50, 51, 52, 53, 54, 55, 56, 57, 58, 59, 60, 61, 62, 63, 64, 65, 66, 67, 68, 69, 70, 71, 72, 73, 74, 75, 76, 77, 78, 79, 80, 81, 82, 83, 84, 85, 86, 87, 88, 89, 90, 91, 92, 93, 94, 95, 96, 97, 98, 99, 100, 101, 102, 103, 104, 105, 106, 107, 108, 109, 110, 111, 112, 113, 114, 115, 116, 117, 118, 119, 120, 121, 122, 123, 124, 125, 126, 127, 128, 129, 130, 131, 132, 133, 14, 134, 135, 136, 137, 138, 139, 140, 141, 142, 143, 144, 145, 146, 147, 148, 149, 150, 151, 152, 153, 154, 155, 156, 157, 158, 7, 159, 160, 161, 162, 163, 164, 165, 166, 167, 168, 169, 170, 171, 172, 173, 174, 175, 176, 177, 178, 179, 180, 181, 182, 183, 184, 185, 186, 187, 188, 189, 190, 191, 192, 193, 194, 195, 196, 197, 198, 199, 200, 201, 202, 203, 204, 205, 206, 207, 208, 209, 210, 211, 212, 213, 214, 215, 216] (by decide +kernel) (by decide +kernel)
set_option maxRecDepth 20000 in
theorem gX3_replay_X3_perform : GoodIn wsX3_replay (wsV RX3 198 RX3 yX3_perform wsX3_perform) := goodIn_app (goodIn_of _ (by decide +kernel)) ggX3_replay_X3_perform
set_option maxRecDepth 20000 in
theorem ggX3_perform_X0_isFull : GoodIn wsX3_perform wsX0_isFull := goodIn_r _ [8, 9, 175, 176, 177, 178, 179, 180, 181, 182, 183, 184, 185, 186, 187] (by decide +kernel) (by decide +kernel)
set_option maxRecDepth 20000 in
theorem gX3_perform_X0_isFull : GoodIn wsX3_perform (wsV RX3 80 RX0 yX0_isFull wsX0_isFull) := goodIn_app (goodIn_of _ (by decide +kernel)) ggX3_perform_X0_isFull
set_option maxRecDepth 20000 in
theorem ggX3_perform_X0_grant : GoodIn wsX3_perform wsX0_grant := goodIn_r _ [13, 14, 15, 9, 16, 17, 18, 19, 20, 7, 21, 22, 23, 24, 25, 26, 27, 28, 29, 30, 31, 32, 33, 34, 35, 36, 37, 38, 39, 40, 41, 42, 43, 44, 45, 46, 47, 48, 49, 50, 51, 52, 53, 54, 55, 56, 57, 58, 59, 60, 61, 62, 63, 64, 65, 66, 67, 68, 69, 70, 71, 72, 73, 74, 75, 76, 77, 78, 79, 80, 81, 82, 83, 84, 85, 86, 87, 88, 89, 90, 91, 92, 93, 94, 95, 96, 97, 98, 99, 100, 101, 102, 103, 104, 105, 106, 107, 108, 109, 110, 111, 112, 113, 114, 115, 116, 117, 118, 119, 120, 121, 122, 123, 124, 125, 126, 127, 128, 129, 130, 131, 132, 133, 134, 135, 136, 137, 175, 176, 177, 178, 179, 180, 181, 182, 183, 184, 185, 186, 187, 188, 189, 190, 191, 192, 193, 194, 195, 196, 197, 198, 199, 200] (by decide +kernel) (by decide +kernel)
set_option maxRecDepth 20000 in
theorem gX3_perform_X0_grant : GoodIn wsX3_perform (wsV RX3 92 RX0 yX0_grant wsX0_grant) := goodIn_app (goodIn_of _ (by decide +kernel)) ggX3_perform_X0_grant
set_option maxRecDepth 20000 in
theorem ggX3_perform_X0_uniteAll : GoodIn wsX3_perform wsX0_uniteAll := goodIn_r _ [39, 40, 15, 41, 42, 43, 28, 44, 30, 35, 45, 46, 47, 48, 49, 50, 51, 52, 53, 54, 55, 56, 57, 58, 59, 60, 61, 7, 62, 14, 63, 64, 65, 66, 67, 68, 69, 70, 71, 72, 73, 74, 75, 76, 77, 78, 79, 80, 81, 82, 83, 84, 85, 86, 87, 88, 89, 90, 91, 92, 175, 176, 177, 178, 179, 180, 181, 182, 183, 184, 185, 186, 187, 192, 193, 194, 195, 196, 197, 198, 199, 200] (by decide +kernel) (by decide +kernel)
set_option maxRecDepth 20000 in
theorem gX3_perform_X0_uniteAll : GoodIn wsX3_perform (wsV RX3 142 RX0 yX0_uniteAll wsX0_uniteAll) := goodIn_app (goodIn_of _ (by decide +kernel)) ggX3_perform_X0_uniteAll
set_option maxRecDepth 20000 in
theorem ggX3_perform_X3_takeBack : GoodIn wsX3_perform wsX3_takeBack := goodIn_r _ [143, 2, 3, 144, 145, 146, 7, 147, 9, 16, 15, 17, 14, 148, 149, 150, 28, 151, 53, 134, 135, 136, 137, 24, 67, 68, 69, 70, 71, 133, 85, 86, 87, 30, 88, 152, 153, 154, 155, 156, 157, 158, 159, 160, 161, 162, 163, 164, 165, 50, 51, 52, 35, 166, 167, 168, 169, 76, 59, 60, 61, 62, 40, 63, 64, 65, 66, 72, 73, 74, 75, 77, 78, 79, 80, 81, 82, 83, 84, 89, 90, 91, 92, 45, 46, 47, 48, 49, 170, 171, 172, 173, 174, 175, 176, 177, 178, 179, 180, 181, 182, 183, 184, 185, 186, 187, 192, 193, 194, 195, 196, 197, 198, 199, 200, 188, 189, 190, 191] (by decide +kernel) (by decide +kernel)
set_option maxRecDepth 20000 in
theorem gX3_perform_X3_takeBack : GoodIn wsX3_perform (wsV RX3 201 RX3 yX3_takeBack wsX3_takeBack) := goodIn_app (goodIn_of _ (by decide +kernel)) ggX3_perform_X3_takeBack
set_option maxRecDepth 20000 in
theorem ggX3_takeBack_X0_release : GoodIn wsX3_takeBack wsX0_release := goodIn_r _ [7, 8, 9, 10, 11, 12, 13, 14, 15, 16, 17, 18, 19, 20, 21, 6, 22, 23, 24, 25, 26, 27, 28, 29, 30, 31, 32, 33, 34, 35, 36, 37, 38, 39, 40, 41, 42, 43, 44, 45, 46, 47, 48, 49, 50, 51, 52, 53, 54, 55, 56, 57, 58, 59, 60, 61, 62, 63, 64, 65, 66, 67, 68, 69, 70, 71, 72, 73, 74, 75, 76, 77, 78, 79, 80, 81, 82, 83, 84, 85, 86, 87, 93, 94, 95, 96, 97, 98, 99, 100, 101, 102, 103, 104, 105, 106, 107, 108, 109, 110, 111, 112, 113, 114, 115, 116, 117, 118] (by decide +kernel) (by decide +kernel)
set_option maxRecDepth 20000 in
theorem gX3_takeBack_X0_release : GoodIn wsX3_takeBack (wsV RX3 101 RX0 yX0_release wsX0_release) := goodIn_app (goodIn_of _ (by decide +kernel)) ggX3_takeBack_X0_release
set_option maxRecDepth 20000 in
theorem ggX3_addressOrNone_X2_addressOf : GoodIn wsX3_addressOrNone wsX2_addressOf := goodIn_r _ [6, 7, 26, 27, 28, 29, 30, 31, 32, 33, 34] (by decide +kernel) (by decide +kernel)
set_option maxRecDepth 20000 in
theorem gX3_addressOrNone_X2_addressOf : GoodIn wsX3_addressOrNone (wsV RX3 157 RX2 yX2_addressOf wsX2_addressOf) := goodIn_app (goodIn_of _ (by decide +kernel)) ggX3_addressOrNone_X2_addressOf
set_option maxRecDepth 20000 in
theorem ggX3_requireBlock_X3_requireMemory : GoodIn wsX3_requireBlock wsX3_requireMemory := goodIn_ca (goodIn_r _ [8, 9, 10, 11, 20, 21, 22, 23, 24] (by decide +kernel) (by decide +kernel)) (goodIn_sub (fun _ h => List.mem_cons_of_mem _ (List.mem_append_right _ h)) (by decide +kernel))
set_option maxRecDepth 20000 in
theorem gX3_requireBlock_X3_requireMemory : GoodIn wsX3_requireBlock (wsV RX3 77 RX3 yX3_requireMemory wsX3_requireMemory) := goodIn_app (goodIn_of _ (by decide +kernel)) ggX3_requireBlock_X3_requireMemory
set_option maxRecDepth 20000 in
theorem ggX3_requireBlock_X2_liveAt : GoodIn wsX3_requireBlock wsX2_liveAt := goodIn_r _ [16, 17, 18, 19, 38, 39, 40, 41, 42, 43, 44, 45, 46] (by decide +kernel) (by decide +kernel)
set_option maxRecDepth 20000 in
theorem gX3_requireBlock_X2_liveAt : GoodIn wsX3_requireBlock (wsV RX3 206 RX2 yX2_liveAt wsX2_liveAt) := goodIn_app (goodIn_of _ (by decide +kernel)) ggX3_requireBlock_X2_liveAt
set_option maxRecDepth 20000 in
theorem ggX3_requireReached_X3_isClass : GoodIn wsX3_requireReached wsX3_isClass := goodIn_r _ [7] (by decide +kernel) (by decide +kernel)
set_option maxRecDepth 20000 in
theorem gX3_requireReached_X3_isClass : GoodIn wsX3_requireReached (va_wsS RX3 211 yX3_isClass wsX3_isClass) := goodIn_app (goodIn_of _ (by decide +kernel)) ggX3_requireReached_X3_isClass
set_option maxRecDepth 20000 in
theorem ggX3_requireReached_X0_reaches : GoodIn wsX3_requireReached wsX0_reaches := goodIn_r _ [12, 13, 19, 20, 21, 22, 23, 24, 25, 26, 27, 28, 29, 30, 31] (by decide +kernel) (by decide +kernel)
set_option maxRecDepth 20000 in
theorem gX3_requireReached_X0_reaches : GoodIn wsX3_requireReached (wsV RX3 214 RX0 yX0_reaches wsX0_reaches) := goodIn_app (goodIn_of _ (by decide +kernel)) ggX3_requireReached_X0_reaches
set_option maxRecDepth 20000 in
theorem ggX3_requireClass_X3_isClass : GoodIn wsX3_requireClass wsX3_isClass := goodIn_r _ [6] (by decide +kernel) (by decide +kernel)
set_option maxRecDepth 20000 in
theorem gX3_requireClass_X3_isClass : GoodIn wsX3_requireClass (va_wsS RX3 211 yX3_isClass wsX3_isClass) := goodIn_app (goodIn_of _ (by decide +kernel)) ggX3_requireClass_X3_isClass
set_option maxRecDepth 20000 in
theorem ggX4_row_X4_in : GoodIn wsX4_row wsX4_in := goodIn_r _ [9] (by decide +kernel) (by decide +kernel)
set_option maxRecDepth 20000 in
theorem gX4_row_X4_in : GoodIn wsX4_row (va_wsS RX4 72 yX4_in wsX4_in) := goodIn_app (goodIn_of _ (by decide +kernel)) ggX4_row_X4_in
set_option maxRecDepth 20000 in
theorem ggX4_family_X4_in : GoodIn wsX4_family wsX4_in := goodIn_r _ [13] (by decide +kernel) (by decide +kernel)
set_option maxRecDepth 20000 in
theorem gX4_family_X4_in : GoodIn wsX4_family (va_wsS RX4 72 yX4_in wsX4_in) := goodIn_app (goodIn_of _ (by decide +kernel)) ggX4_family_X4_in
set_option maxRecDepth 20000 in
theorem ggX4_family_X4_leftOf : GoodIn wsX4_family wsX4_leftOf := goodIn_r _ [16] (by decide +kernel) (by decide +kernel)
set_option maxRecDepth 20000 in
theorem gX4_family_X4_leftOf : GoodIn wsX4_family (va_wsS RX4 82 yX4_leftOf wsX4_leftOf) := goodIn_app (goodIn_of _ (by decide +kernel)) ggX4_family_X4_leftOf
set_option maxRecDepth 20000 in
theorem ggX4_family_X4_rightOf : GoodIn wsX4_family wsX4_rightOf := goodIn_r _ [19] (by decide +kernel) (by decide +kernel)
set_option maxRecDepth 20000 in
theorem gX4_family_X4_rightOf : GoodIn wsX4_family (va_wsS RX4 86 yX4_rightOf wsX4_rightOf) := goodIn_app (goodIn_of _ (by decide +kernel)) ggX4_family_X4_rightOf
set_option maxRecDepth 20000 in
theorem ggX4_isBad_X4_in : GoodIn wsX4_isBad wsX4_in := goodIn_r _ [10] (by decide +kernel) (by decide +kernel)
set_option maxRecDepth 20000 in
theorem gX4_isBad_X4_in : GoodIn wsX4_isBad (va_wsS RX4 72 yX4_in wsX4_in) := goodIn_app (goodIn_of _ (by decide +kernel)) ggX4_isBad_X4_in
set_option maxRecDepth 20000 in
theorem ggX4_build_X4_in : GoodIn wsX4_build wsX4_in := goodIn_r _ [21] (by decide +kernel) (by decide +kernel)
set_option maxRecDepth 20000 in
theorem gX4_build_X4_in : GoodIn wsX4_build (va_wsS RX4 72 yX4_in wsX4_in) := goodIn_app (goodIn_of _ (by decide +kernel)) ggX4_build_X4_in
set_option maxRecDepth 20000 in
theorem ggX4_build_X4_isBad : GoodIn wsX4_build wsX4_isBad := goodIn_r _ [25, 8, 26, 27, 4, 5, 1, 18, 19, 20, 21, 31, 32, 33, 34, 35, 36, 37, 38, 39, 40, 41, 42, 43, 44, 45, 46, 47, 48, 49, 50, 51, 52, 53, 54, 55, 56, 57, 58, 59] (by decide +kernel) (by decide +kernel)
set_option maxRecDepth 20000 in
theorem gX4_build_X4_isBad : GoodIn wsX4_build (wsV RX4 89 RX4 yX4_isBad wsX4_isBad) := goodIn_app (goodIn_of _ (by decide +kernel)) ggX4_build_X4_isBad
set_option maxRecDepth 20000 in
theorem ggX4_build_X4_nodeOf : GoodIn wsX4_build wsX4_nodeOf := goodIn_r _ [30] (by decide +kernel) (by decide +kernel)
set_option maxRecDepth 20000 in
theorem gX4_build_X4_nodeOf : GoodIn wsX4_build (va_wsS RX4 99 yX4_nodeOf wsX4_nodeOf) := goodIn_app (goodIn_of _ (by decide +kernel)) ggX4_build_X4_nodeOf
set_option maxRecDepth 20000 in
theorem ggX4_isPair_X4_depth : GoodIn wsX4_isPair wsX4_depth := goodIn_r _ [6, 7, 8, 14, 15, 16, 17, 18, 19, 20, 21, 22, 23, 24, 25, 26, 27, 28, 29, 30, 31, 32, 33, 34, 35, 36, 37, 38, 39, 40, 41, 42] (by decide +kernel) (by decide +kernel)
set_option maxRecDepth 20000 in
theorem gX4_isPair_X4_depth : GoodIn wsX4_isPair (wsV RX4 116 RX4 yX4_depth wsX4_depth) := goodIn_app (goodIn_of _ (by decide +kernel)) ggX4_isPair_X4_depth
set_option maxRecDepth 20000 in
theorem ggX4_isPair_X4_sides : GoodIn wsX4_isPair wsX4_sides := goodIn_r _ [12, 7, 13, 14, 15, 16, 17, 18, 19, 20, 21, 22, 23, 24, 25, 26, 27, 28, 29, 30, 31, 32, 33, 34, 35, 36, 37, 38, 39, 40, 41, 42] (by decide +kernel) (by decide +kernel)
set_option maxRecDepth 20000 in
theorem gX4_isPair_X4_sides : GoodIn wsX4_isPair (wsV RX4 120 RX4 yX4_sides wsX4_sides) := goodIn_app (goodIn_of _ (by decide +kernel)) ggX4_isPair_X4_sides
set_option maxRecDepth 20000 in
theorem ggX4_joinAt_X4_depth : GoodIn wsX4_joinAt wsX4_depth := goodIn_r _ [8, 1, 9, 29, 30, 31, 32, 33, 34, 35, 36, 37, 38, 39, 40, 41, 42, 43, 44, 45, 46, 47, 48, 49, 50, 51, 52, 53, 54, 55, 56, 57] (by decide +kernel) (by decide +kernel)
set_option maxRecDepth 20000 in
theorem gX4_joinAt_X4_depth : GoodIn wsX4_joinAt (wsV RX4 116 RX4 yX4_depth wsX4_depth) := goodIn_app (goodIn_of _ (by decide +kernel)) ggX4_joinAt_X4_depth
set_option maxRecDepth 20000 in
theorem ggX4_joinAt_X4_sides : GoodIn wsX4_joinAt wsX4_sides := goodIn_r _ [13, 1, 14, 29, 30, 31, 32, 33, 34, 35, 36, 37, 38, 39, 40, 41, 42, 43, 44, 45, 46, 47, 48, 49, 50, 51, 52, 53, 54, 55, 56, 57] (by decide +kernel) (by decide +kernel)
set_option maxRecDepth 20000 in
theorem gX4_joinAt_X4_sides : GoodIn wsX4_joinAt (wsV RX4 120 RX4 yX4_sides wsX4_sides) := goodIn_app (goodIn_of _ (by decide +kernel)) ggX4_joinAt_X4_sides
set_option maxRecDepth 20000 in
theorem ggX4_joinAt_X4_address : GoodIn wsX4_joinAt wsX4_address := goodIn_r _ [18, 1, 29, 30, 31, 32, 33, 34, 35, 36, 37, 38, 39, 40, 41, 42, 43, 44, 45, 46, 47, 48, 49, 50, 51, 52, 53, 54, 55, 56, 57] (by decide +kernel) (by decide +kernel)
set_option maxRecDepth 20000 in
theorem gX4_joinAt_X4_address : GoodIn wsX4_joinAt (wsV RX4 123 RX4 yX4_address wsX4_address) := goodIn_app (goodIn_of _ (by decide +kernel)) ggX4_joinAt_X4_address
set_option maxRecDepth 20000 in
theorem ggX4_joinAt_X4_classAt : GoodIn wsX4_joinAt wsX4_classAt := goodIn_r _ [22, 23, 24, 25, 29, 30, 31, 32, 33, 34, 35, 36, 37, 38, 39, 40, 41, 42, 43, 44, 45, 46, 47, 48, 49, 50, 51, 52, 53, 54, 55, 56, 57] (by decide +kernel) (by decide +kernel)
set_option maxRecDepth 20000 in
theorem gX4_joinAt_X4_classAt : GoodIn wsX4_joinAt (wsV RX4 126 RX4 yX4_classAt wsX4_classAt) := goodIn_app (goodIn_of _ (by decide +kernel)) ggX4_joinAt_X4_classAt
set_option maxRecDepth 20000 in
theorem ggX4_joinAt_X4_nodeOf : GoodIn wsX4_joinAt wsX4_nodeOf := goodIn_r _ [28] (by decide +kernel) (by decide +kernel)
set_option maxRecDepth 20000 in
theorem gX4_joinAt_X4_nodeOf : GoodIn wsX4_joinAt (va_wsS RX4 99 yX4_nodeOf wsX4_nodeOf) := goodIn_app (goodIn_of _ (by decide +kernel)) ggX4_joinAt_X4_nodeOf
set_option maxRecDepth 20000 in
theorem ggX4_joinAll_X4_isPair : GoodIn wsX4_joinAll wsX4_isPair := goodIn_r _ [7, 2, 8, 9, 10, 6, 11, 12, 13, 14, 15, 16, 17, 18, 41, 42, 43, 44, 45, 46, 47, 48, 49, 50, 51, 52, 53, 54, 55, 56, 57, 58, 59, 60, 61, 62, 63, 64, 65, 66, 67, 68, 69] (by decide +kernel) (by decide +kernel)
set_option maxRecDepth 20000 in
theorem gX4_joinAll_X4_isPair : GoodIn wsX4_joinAll (wsV RX4 129 RX4 yX4_isPair wsX4_isPair) := goodIn_app (goodIn_of _ (by decide +kernel)) ggX4_joinAll_X4_isPair
set_option maxRecDepth 20000 in
theorem ggX4_joinAll_X4_isLive : GoodIn wsX4_joinAll wsX4_isLive := goodIn_r _ [22, 12, 41, 42, 43, 44, 45, 46, 47, 48, 49, 50, 51, 52, 53, 54, 55, 56, 57, 58, 59, 60, 61, 62, 63, 64, 65, 66, 67, 68, 69] (by decide +kernel) (by decide +kernel)
set_option maxRecDepth 20000 in
theorem gX4_joinAll_X4_isLive : GoodIn wsX4_joinAll (wsV RX4 132 RX4 yX4_isLive wsX4_isLive) := goodIn_app (goodIn_of _ (by decide +kernel)) ggX4_joinAll_X4_isLive
set_option maxRecDepth 20000 in
theorem ggX4_joinAll_X4_joinAt : GoodIn wsX4_joinAll wsX4_joinAt := goodIn_r _ [26, 12, 2, 1, 8, 9, 10, 6, 11, 13, 14, 15, 16, 17, 18, 27, 28, 29, 30, 31, 32, 33, 34, 35, 36, 37, 38, 39, 40, 41, 42, 43, 44, 45, 46, 47, 48, 49, 50, 51, 52, 53, 54, 55, 56, 57, 58, 59, 60, 61, 62, 63, 64, 65, 66, 67, 68, 69] (by decide +kernel) (by decide +kernel)
set_option maxRecDepth 20000 in
theorem gX4_joinAll_X4_joinAt : GoodIn wsX4_joinAll (wsV RX4 135 RX4 yX4_joinAt wsX4_joinAt) := goodIn_app (goodIn_of _ (by decide +kernel)) ggX4_joinAll_X4_joinAt
set_option maxRecDepth 20000 in
theorem ggX4_freeOf_X4_isLive : GoodIn wsX4_freeOf wsX4_isLive := goodIn_r _ [6, 7, 13, 14, 15, 16, 17, 18, 19, 20, 21, 22, 23, 24, 25, 26, 27, 28, 29, 30, 31, 32, 33, 34, 35, 36, 37, 38, 39, 40, 41] (by decide +kernel) (by decide +kernel)
set_option maxRecDepth 20000 in
theorem gX4_freeOf_X4_isLive : GoodIn wsX4_freeOf (wsV RX4 132 RX4 yX4_isLive wsX4_isLive) := goodIn_app (goodIn_of _ (by decide +kernel)) ggX4_freeOf_X4_isLive
set_option maxRecDepth 20000 in
theorem ggX4_freeOf_X4_classOf : GoodIn wsX4_freeOf wsX4_classOf := goodIn_r _ [11, 7, 12, 13, 14, 15, 16, 17, 18, 19, 20, 21, 22, 23, 24, 25, 26, 27, 28, 29, 30, 31, 32, 33, 34, 35, 36, 37, 38, 39, 40, 41] (by decide +kernel) (by decide +kernel)
set_option maxRecDepth 20000 in
theorem gX4_freeOf_X4_classOf : GoodIn wsX4_freeOf (wsV RX4 139 RX4 yX4_classOf wsX4_classOf) := goodIn_app (goodIn_of _ (by decide +kernel)) ggX4_freeOf_X4_classOf
set_option maxRecDepth 20000 in
theorem ggX4_best_X4_isLive : GoodIn wsX4_best wsX4_isLive := goodIn_r _ [7, 8, 14, 15, 16, 17, 18, 19, 20, 21, 22, 23, 24, 25, 26, 27, 28, 29, 30, 31, 32, 33, 34, 35, 36, 37, 38, 39, 40, 41, 42] (by decide +kernel) (by decide +kernel)
set_option maxRecDepth 20000 in
theorem gX4_best_X4_isLive : GoodIn wsX4_best (wsV RX4 132 RX4 yX4_isLive wsX4_isLive) := goodIn_app (goodIn_of _ (by decide +kernel)) ggX4_best_X4_isLive
set_option maxRecDepth 20000 in
theorem ggX4_best_X4_classOf : GoodIn wsX4_best wsX4_classOf := goodIn_r _ [12, 8, 13, 14, 15, 16, 17, 18, 19, 20, 21, 22, 23, 24, 25, 26, 27, 28, 29, 30, 31, 32, 33, 34, 35, 36, 37, 38, 39, 40, 41, 42] (by decide +kernel) (by decide +kernel)
set_option maxRecDepth 20000 in
theorem gX4_best_X4_classOf : GoodIn wsX4_best (wsV RX4 139 RX4 yX4_classOf wsX4_classOf) := goodIn_app (goodIn_of _ (by decide +kernel)) ggX4_best_X4_classOf
set_option maxRecDepth 20000 in
theorem ggX4_giveWords_X4_best : GoodIn wsX4_giveWords wsX4_best := goodIn_r _ [15, 4, 3, 16, 17, 18, 14, 19, 5, 20, 21, 22, 23, 24, 59, 60, 61, 62, 63, 64, 65, 66, 67, 68, 69, 70, 71, 72, 73, 74, 75, 76, 77, 78, 79, 80, 81, 82, 83, 84, 85, 86, 87] (by decide +kernel) (by decide +kernel)
set_option maxRecDepth 20000 in
theorem gX4_giveWords_X4_best : GoodIn wsX4_giveWords (wsV RX4 142 RX4 yX4_best wsX4_best) := goodIn_app (goodIn_of _ (by decide +kernel)) ggX4_giveWords_X4_best
set_option maxRecDepth 20000 in
theorem ggX4_giveWords_X4_joinAll : GoodIn wsX4_giveWords wsX4_joinAll := goodIn_r _ [28, 29, 4, 30, 31, 32, 14, 33, 34, 35, 36, 37, 5, 24, 38, 39, 40, 41, 42, 16, 17, 18, 19, 43, 44, 45, 46, 47, 48, 49, 50, 51, 52, 53, 54, 55, 1, 2, 56, 57, 58, 59, 60, 61, 62, 63, 64, 65, 66, 67, 68, 69, 70, 71, 72, 73, 74, 75, 76, 77, 78, 79, 80, 81, 82, 83, 84, 85, 86, 87] (by decide +kernel) (by decide +kernel)
set_option maxRecDepth 20000 in
theorem gX4_giveWords_X4_joinAll : GoodIn wsX4_giveWords (wsV RX4 145 RX4 yX4_joinAll wsX4_joinAll) := goodIn_app (goodIn_of _ (by decide +kernel)) ggX4_giveWords_X4_joinAll
set_option maxRecDepth 20000 in
theorem ggX4_giveWords_X4_classOf : GoodIn wsX4_giveWords wsX4_classOf := goodIn_r _ [23, 5, 24, 59, 60, 61, 62, 63, 64, 65, 66, 67, 68, 69, 70, 71, 72, 73, 74, 75, 76, 77, 78, 79, 80, 81, 82, 83, 84, 85, 86, 87] (by decide +kernel) (by decide +kernel)
set_option maxRecDepth 20000 in
theorem gX4_giveWords_X4_classOf : GoodIn wsX4_giveWords (wsV RX4 139 RX4 yX4_classOf wsX4_classOf) := goodIn_app (goodIn_of _ (by decide +kernel)) ggX4_giveWords_X4_classOf
set_option maxRecDepth 20000 in
theorem ggX4_giveWords_X4_address : GoodIn wsX4_giveWords wsX4_address := goodIn_r _ [50, 5, 59, 60, 61, 62, 63, 64, 65, 66, 67, 68, 69, 70, 71, 72, 73, 74, 75, 76, 77, 78, 79, 80, 81, 82, 83, 84, 85, 86, 87] (by decide +kernel) (by decide +kernel)
set_option maxRecDepth 20000 in
theorem gX4_giveWords_X4_address : GoodIn wsX4_giveWords (wsV RX4 123 RX4 yX4_address wsX4_address) := goodIn_app (goodIn_of _ (by decide +kernel)) ggX4_giveWords_X4_address
set_option maxRecDepth 20000 in
theorem ggX4_giveWords_X4_depth : GoodIn wsX4_giveWords wsX4_depth := goodIn_r _ [37, 5, 24, 59, 60, 61, 62, 63, 64, 65, 66, 67, 68, 69, 70, 71, 72, 73, 74, 75, 76, 77, 78, 79, 80, 81, 82, 83, 84, 85, 86, 87] (by decide +kernel) (by decide +kernel)
set_option maxRecDepth 20000 in
theorem gX4_giveWords_X4_depth : GoodIn wsX4_giveWords (wsV RX4 116 RX4 yX4_depth wsX4_depth) := goodIn_app (goodIn_of _ (by decide +kernel)) ggX4_giveWords_X4_depth
set_option maxRecDepth 20000 in
theorem ggX4_giveWords_X4_sides : GoodIn wsX4_giveWords wsX4_sides := goodIn_r _ [41, 5, 42, 59, 60, 61, 62, 63, 64, 65, 66, 67, 68, 69, 70, 71, 72, 73, 74, 75, 76, 77, 78, 79, 80, 81, 82, 83, 84, 85, 86, 87] (by decide +kernel) (by decide +kernel)
set_option maxRecDepth 20000 in
theorem gX4_giveWords_X4_sides : GoodIn wsX4_giveWords (wsV RX4 120 RX4 yX4_sides wsX4_sides) := goodIn_app (goodIn_of _ (by decide +kernel)) ggX4_giveWords_X4_sides
set_option maxRecDepth 20000 in
theorem ggX4_giveWords_X4_nodeOf : GoodIn wsX4_giveWords wsX4_nodeOf := goodIn_r _ [58] (by decide +kernel) (by decide +kernel)
set_option maxRecDepth 20000 in
theorem gX4_giveWords_X4_nodeOf : GoodIn wsX4_giveWords (va_wsS RX4 99 yX4_nodeOf wsX4_nodeOf) := goodIn_app (goodIn_of _ (by decide +kernel)) ggX4_giveWords_X4_nodeOf
set_option maxRecDepth 20000 in
theorem ggX4_nodeAt_X4_address : GoodIn wsX4_nodeAt wsX4_address := goodIn_r _ [5, 6, 7, 8, 9, 10, 11, 12, 13, 14, 15, 16, 17, 18, 19, 20, 21, 22, 23, 24, 25, 26, 27, 28, 29, 30, 31, 32, 33, 34, 35] (by decide +kernel) (by decide +kernel)
set_option maxRecDepth 20000 in
theorem gX4_nodeAt_X4_address : GoodIn wsX4_nodeAt (wsV RX4 123 RX4 yX4_address wsX4_address) := goodIn_app (goodIn_of _ (by decide +kernel)) ggX4_nodeAt_X4_address
set_option maxRecDepth 20000 in
theorem ggX4_freeBlock_X4_nodeAt : GoodIn wsX4_freeBlock wsX4_nodeAt := goodIn_r _ [11, 12, 13, 14, 10, 15, 4, 58, 59, 60, 61, 62, 63, 64, 65, 66, 67, 68, 69, 70, 71, 72, 73, 74, 75, 76, 77, 78, 79, 80, 81, 82, 83, 84, 85, 86] (by decide +kernel) (by decide +kernel)
set_option maxRecDepth 20000 in
theorem gX4_freeBlock_X4_nodeAt : GoodIn wsX4_freeBlock (wsV RX4 151 RX4 yX4_nodeAt wsX4_nodeAt) := goodIn_app (goodIn_of _ (by decide +kernel)) ggX4_freeBlock_X4_nodeAt
set_option maxRecDepth 20000 in
theorem ggX4_freeBlock_X4_classOf : GoodIn wsX4_freeBlock wsX4_classOf := goodIn_r _ [19, 4, 20, 58, 59, 60, 61, 62, 63, 64, 65, 66, 67, 68, 69, 70, 71, 72, 73, 74, 75, 76, 77, 78, 79, 80, 81, 82, 83, 84, 85, 86] (by decide +kernel) (by decide +kernel)
set_option maxRecDepth 20000 in
theorem gX4_freeBlock_X4_classOf : GoodIn wsX4_freeBlock (wsV RX4 139 RX4 yX4_classOf wsX4_classOf) := goodIn_app (goodIn_of _ (by decide +kernel)) ggX4_freeBlock_X4_classOf
set_option maxRecDepth 20000 in
theorem ggX4_freeBlock_X4_isPair : GoodIn wsX4_freeBlock wsX4_isPair := goodIn_r _ [24, 25, 26, 27, 28, 10, 29, 4, 20, 30, 31, 32, 33, 34, 58, 59, 60, 61, 62, 63, 64, 65, 66, 67, 68, 69, 70, 71, 72, 73, 74, 75, 76, 77, 78, 79, 80, 81, 82, 83, 84, 85, 86] (by decide +kernel) (by decide +kernel)
set_option maxRecDepth 20000 in
theorem gX4_freeBlock_X4_isPair : GoodIn wsX4_freeBlock (wsV RX4 129 RX4 yX4_isPair wsX4_isPair) := goodIn_app (goodIn_of _ (by decide +kernel)) ggX4_freeBlock_X4_isPair
set_option maxRecDepth 20000 in
theorem ggX4_freeBlock_X4_isLive : GoodIn wsX4_freeBlock wsX4_isLive := goodIn_r _ [38, 4, 58, 59, 60, 61, 62, 63, 64, 65, 66, 67, 68, 69, 70, 71, 72, 73, 74, 75, 76, 77, 78, 79, 80, 81, 82, 83, 84, 85, 86] (by decide +kernel) (by decide +kernel)
set_option maxRecDepth 20000 in
theorem gX4_freeBlock_X4_isLive : GoodIn wsX4_freeBlock (wsV RX4 132 RX4 yX4_isLive wsX4_isLive) := goodIn_app (goodIn_of _ (by decide +kernel)) ggX4_freeBlock_X4_isLive
set_option maxRecDepth 20000 in
theorem ggX4_freeBlock_X4_freeOf : GoodIn wsX4_freeBlock wsX4_freeOf := goodIn_r _ [42, 25, 35, 36, 37, 10, 38, 4, 16, 17, 18, 19, 20, 58, 59, 60, 61, 62, 63, 64, 65, 66, 67, 68, 69, 70, 71, 72, 73, 74, 75, 76, 77, 78, 79, 80, 81, 82, 83, 84, 85, 86] (by decide +kernel) (by decide +kernel)
set_option maxRecDepth 20000 in
theorem gX4_freeBlock_X4_freeOf : GoodIn wsX4_freeBlock (wsV RX4 156 RX4 yX4_freeOf wsX4_freeOf) := goodIn_app (goodIn_of _ (by decide +kernel)) ggX4_freeBlock_X4_freeOf
set_option maxRecDepth 20000 in
theorem ggX4_freeBlock_X4_joinAt : GoodIn wsX4_freeBlock wsX4_joinAt := goodIn_r _ [46, 4, 25, 47, 26, 27, 28, 10, 29, 20, 30, 31, 32, 33, 34, 12, 13, 14, 15, 48, 49, 50, 51, 52, 53, 54, 55, 56, 57, 58, 59, 60, 61, 62, 63, 64, 65, 66, 67, 68, 69, 70, 71, 72, 73, 74, 75, 76, 77, 78, 79, 80, 81, 82, 83, 84, 85, 86] (by decide +kernel) (by decide +kernel)
set_option maxRecDepth 20000 in
theorem gX4_freeBlock_X4_joinAt : GoodIn wsX4_freeBlock (wsV RX4 135 RX4 yX4_joinAt wsX4_joinAt) := goodIn_app (goodIn_of _ (by decide +kernel)) ggX4_freeBlock_X4_joinAt
set_option maxRecDepth 20000 in
theorem ggX4_give_X4_isThere : GoodIn wsX4_give wsX4_isThere := goodIn_r _ [6, 7, 8, 72, 73, 74, 75, 76, 77, 78, 79, 80, 81, 82, 83, 84, 85, 86, 87, 88, 89, 90, 91, 92, 93, 94, 95, 96, 97, 98, 99, 100] (by decide +kernel) (by decide +kernel)
set_option maxRecDepth 20000 in
theorem gX4_give_X4_isThere : GoodIn wsX4_give (wsV RX4 159 RX4 yX4_isThere wsX4_isThere) := goodIn_app (goodIn_of _ (by decide +kernel)) ggX4_give_X4_isThere
set_option maxRecDepth 20000 in
theorem ggX4_give_X4_raise : GoodIn wsX4_give wsX4_raise := goodIn_r _ [12, 8, 72, 73, 74, 75, 76, 77, 78, 79, 80, 81, 82, 83, 84, 85, 86, 87, 88, 89, 90, 91, 92, 93, 94, 95, 96, 97, 98, 99, 100] (by decide +kernel) (by decide +kernel)
set_option maxRecDepth 20000 in
theorem gX4_give_X4_raise : GoodIn wsX4_give (wsV RX4 163 RX4 yX4_raise wsX4_raise) := goodIn_app (goodIn_of _ (by decide +kernel)) ggX4_give_X4_raise
set_option maxRecDepth 20000 in
theorem ggX4_give_X4_giveWords : GoodIn wsX4_give wsX4_giveWords := goodIn_r _ [16, 17, 18, 19, 20, 21, 22, 23, 24, 1, 25, 26, 27, 28, 5, 29, 30, 31, 32, 33, 34, 35, 36, 37, 38, 39, 40, 41, 42, 43, 44, 45, 46, 47, 48, 49, 50, 51, 52, 53, 54, 55, 56, 57, 58, 59, 60, 61, 62, 63, 64, 65, 66, 67, 68, 7, 69, 70, 71, 72, 73, 74, 75, 76, 77, 78, 79, 80, 81, 82, 83, 84, 85, 86, 87, 88, 89, 90, 91, 92, 93, 94, 95, 96, 97, 98, 99, 100] (by decide +kernel) (by decide +kernel)
set_option maxRecDepth 20000 in
theorem gX4_give_X4_giveWords : GoodIn wsX4_give (wsV RX4 166 RX4 yX4_giveWords wsX4_giveWords) := goodIn_app (goodIn_of _ (by decide +kernel)) ggX4_give_X4_giveWords
set_option maxRecDepth 20000 in
theorem ggX4_free_X4_isThere : GoodIn wsX4_free wsX4_isThere := goodIn_r _ [6, 7, 1, 71, 72, 73, 74, 75, 76, 77, 78, 79, 80, 81, 82, 83, 84, 85, 86, 87, 88, 89, 90, 91, 92, 93, 94, 95, 96, 97, 98, 99] (by decide +kernel) (by decide +kernel)
set_option maxRecDepth 20000 in
theorem gX4_free_X4_isThere : GoodIn wsX4_free (wsV RX4 159 RX4 yX4_isThere wsX4_isThere) := goodIn_app (goodIn_of _ (by decide +kernel)) ggX4_free_X4_isThere
set_option maxRecDepth 20000 in
theorem ggX4_free_X4_blockOf : GoodIn wsX4_free wsX4_blockOf := goodIn_r _ [11, 12, 13, 71, 72, 73, 74, 75, 76, 77, 78, 79, 80, 81, 82, 83, 84, 85, 86, 87, 88, 89, 90, 91, 92, 93, 94, 95, 96, 97, 98, 99] (by decide +kernel) (by decide +kernel)
set_option maxRecDepth 20000 in
theorem gX4_free_X4_blockOf : GoodIn wsX4_free (wsV RX4 169 RX4 yX4_blockOf wsX4_blockOf) := goodIn_app (goodIn_of _ (by decide +kernel)) ggX4_free_X4_blockOf
set_option maxRecDepth 20000 in
theorem ggX4_free_X4_freeBlock : GoodIn wsX4_free wsX4_freeBlock := goodIn_r _ [17, 13, 12, 18, 19, 20, 21, 22, 23, 24, 5, 25, 26, 27, 28, 29, 30, 31, 32, 33, 34, 35, 36, 37, 38, 39, 40, 41, 42, 43, 44, 45, 46, 47, 48, 49, 50, 51, 52, 53, 54, 55, 56, 57, 58, 59, 60, 61, 62, 63, 64, 65, 7, 66, 67, 68, 69, 70, 71, 72, 73, 74, 75, 76, 77, 78, 79, 80, 81, 82, 83, 84, 85, 86, 87, 88, 89, 90, 91, 92, 93, 94, 95, 96, 97, 98, 99] (by decide +kernel) (by decide +kernel)
set_option maxRecDepth 20000 in
theorem gX4_free_X4_freeBlock : GoodIn wsX4_free (wsV RX4 172 RX4 yX4_freeBlock wsX4_freeBlock) := goodIn_app (goodIn_of _ (by decide +kernel)) ggX4_free_X4_freeBlock
set_option maxRecDepth 20000 in
theorem ggX4_change_X4_isThere : GoodIn wsX4_change wsX4_isThere := goodIn_r _ [8, 9, 10, 90, 91, 92, 93, 94, 95, 96, 97, 98, 99, 100, 101, 102, 103, 104, 105, 106, 107, 108, 109, 110, 111, 112, 113, 114, 115, 116, 117, 118] (by decide +kernel) (by decide +kernel)
set_option maxRecDepth 20000 in
theorem gX4_change_X4_isThere : GoodIn wsX4_change (wsV RX4 159 RX4 yX4_isThere wsX4_isThere) := goodIn_app (goodIn_of _ (by decide +kernel)) ggX4_change_X4_isThere
set_option maxRecDepth 20000 in
theorem ggX4_change_X4_blockOf : GoodIn wsX4_change wsX4_blockOf := goodIn_r _ [14, 3, 15, 90, 91, 92, 93, 94, 95, 96, 97, 98, 99, 100, 101, 102, 103, 104, 105, 106, 107, 108, 109, 110, 111, 112, 113, 114, 115, 116, 117, 118] (by decide +kernel) (by decide +kernel)
set_option maxRecDepth 20000 in
theorem gX4_change_X4_blockOf : GoodIn wsX4_change (wsV RX4 169 RX4 yX4_blockOf wsX4_blockOf) := goodIn_app (goodIn_of _ (by decide +kernel)) ggX4_change_X4_blockOf
set_option maxRecDepth 20000 in
theorem ggX4_change_X4_raise : GoodIn wsX4_change wsX4_raise := goodIn_r _ [19, 10, 90, 91, 92, 93, 94, 95, 96, 97, 98, 99, 100, 101, 102, 103, 104, 105, 106, 107, 108, 109, 110, 111, 112, 113, 114, 115, 116, 117, 118] (by decide +kernel) (by decide +kernel)
set_option maxRecDepth 20000 in
theorem gX4_change_X4_raise : GoodIn wsX4_change (wsV RX4 163 RX4 yX4_raise wsX4_raise) := goodIn_app (goodIn_of _ (by decide +kernel)) ggX4_change_X4_raise
set_option maxRecDepth 20000 in
theorem ggX4_change_X4_nodeAt : GoodIn wsX4_change wsX4_nodeAt := goodIn_r _ [23, 24, 25, 26, 7, 27, 28, 90, 91, 92, 93, 94, 95, 96, 97, 98, 99, 100, 101, 102, 103, 104, 105, 106, 107, 108, 109, 110, 111, 112, 113, 114, 115, 116, 117, 118] (by decide +kernel) (by decide +kernel)
set_option maxRecDepth 20000 in
theorem gX4_change_X4_nodeAt : GoodIn wsX4_change (wsV RX4 151 RX4 yX4_nodeAt wsX4_nodeAt) := goodIn_app (goodIn_of _ (by decide +kernel)) ggX4_change_X4_nodeAt
set_option maxRecDepth 20000 in
theorem ggX4_change_X4_classOf : GoodIn wsX4_change wsX4_classOf := goodIn_r _ [32, 28, 33, 90, 91, 92, 93, 94, 95, 96, 97, 98, 99, 100, 101, 102, 103, 104, 105, 106, 107, 108, 109, 110, 111, 112, 113, 114, 115, 116, 117, 118] (by decide +kernel) (by decide +kernel)
set_option maxRecDepth 20000 in
theorem gX4_change_X4_classOf : GoodIn wsX4_change (wsV RX4 139 RX4 yX4_classOf wsX4_classOf) := goodIn_app (goodIn_of _ (by decide +kernel)) ggX4_change_X4_classOf
set_option maxRecDepth 20000 in
theorem ggX4_change_X4_giveWords : GoodIn wsX4_change wsX4_giveWords := goodIn_r _ [37, 38, 39, 1, 40, 28, 41, 42, 15, 3, 2, 43, 44, 45, 7, 46, 47, 48, 49, 50, 29, 30, 31, 32, 33, 51, 52, 53, 54, 55, 56, 57, 58, 59, 60, 61, 62, 63, 64, 65, 66, 67, 68, 69, 70, 71, 72, 24, 25, 26, 27, 73, 74, 75, 76, 9, 77, 78, 79, 90, 91, 92, 93, 94, 95, 96, 97, 98, 99, 100, 101, 102, 103, 104, 105, 106, 107, 108, 109, 110, 111, 112, 113, 114, 115, 116, 117, 118] (by decide +kernel) (by decide +kernel)
set_option maxRecDepth 20000 in
theorem gX4_change_X4_giveWords : GoodIn wsX4_change (wsV RX4 166 RX4 yX4_giveWords wsX4_giveWords) := goodIn_app (goodIn_of _ (by decide +kernel)) ggX4_change_X4_giveWords
set_option maxRecDepth 20000 in
theorem ggX4_change_X4_freeBlock : GoodIn wsX4_change wsX4_freeBlock := goodIn_r _ [83, 15, 3, 2, 28, 84, 85, 20, 21, 22, 7, 23, 24, 25, 26, 27, 29, 30, 31, 32, 33, 56, 57, 58, 59, 40, 60, 61, 62, 63, 64, 65, 66, 67, 68, 47, 48, 49, 50, 86, 87, 88, 89, 69, 70, 71, 72, 55, 73, 74, 75, 76, 9, 38, 39, 77, 78, 79, 90, 91, 92, 93, 94, 95, 96, 97, 98, 99, 100, 101, 102, 103, 104, 105, 106, 107, 108, 109, 110, 111, 112, 113, 114, 115, 116, 117, 118] (by decide +kernel) (by decide +kernel)
set_option maxRecDepth 20000 in
theorem gX4_change_X4_freeBlock : GoodIn wsX4_change (wsV RX4 172 RX4 yX4_freeBlock wsX4_freeBlock) := goodIn_app (goodIn_of _ (by decide +kernel)) ggX4_change_X4_freeBlock
set_option maxRecDepth 20000 in
theorem ggX4_block_X4_isThere : GoodIn wsX4_block wsX4_isThere := goodIn_r _ [7, 8, 9, 41, 42, 43, 44, 45, 46, 47, 48, 49, 50, 51, 52, 53, 54, 55, 56, 57, 58, 59, 60, 61, 62, 63, 64, 65, 66, 67, 68, 69] (by decide +kernel) (by decide +kernel)
set_option maxRecDepth 20000 in
theorem gX4_block_X4_isThere : GoodIn wsX4_block (wsV RX4 159 RX4 yX4_isThere wsX4_isThere) := goodIn_app (goodIn_of _ (by decide +kernel)) ggX4_block_X4_isThere
set_option maxRecDepth 20000 in
theorem ggX4_block_X4_blockOf : GoodIn wsX4_block wsX4_blockOf := goodIn_r _ [13, 14, 15, 41, 42, 43, 44, 45, 46, 47, 48, 49, 50, 51, 52, 53, 54, 55, 56, 57, 58, 59, 60, 61, 62, 63, 64, 65, 66, 67, 68, 69] (by decide +kernel) (by decide +kernel)
set_option maxRecDepth 20000 in
theorem gX4_block_X4_blockOf : GoodIn wsX4_block (wsV RX4 169 RX4 yX4_blockOf wsX4_blockOf) := goodIn_app (goodIn_of _ (by decide +kernel)) ggX4_block_X4_blockOf
set_option maxRecDepth 20000 in
theorem ggX4_block_X4_in : GoodIn wsX4_block wsX4_in := goodIn_r _ [18] (by decide +kernel) (by decide +kernel)
set_option maxRecDepth 20000 in
theorem gX4_block_X4_in : GoodIn wsX4_block (va_wsS RX4 72 yX4_in wsX4_in) := goodIn_app (goodIn_of _ (by decide +kernel)) ggX4_block_X4_in
set_option maxRecDepth 20000 in
theorem ggX4_block_X4_raise : GoodIn wsX4_block wsX4_raise := goodIn_r _ [22, 9, 41, 42, 43, 44, 45, 46, 47, 48, 49, 50, 51, 52, 53, 54, 55, 56, 57, 58, 59, 60, 61, 62, 63, 64, 65, 66, 67, 68, 69] (by decide +kernel) (by decide +kernel)
set_option maxRecDepth 20000 in
theorem gX4_block_X4_raise : GoodIn wsX4_block (wsV RX4 163 RX4 yX4_raise wsX4_raise) := goodIn_app (goodIn_of _ (by decide +kernel)) ggX4_block_X4_raise
set_option maxRecDepth 20000 in
theorem ggX4_block_X4_nodeAt : GoodIn wsX4_block wsX4_nodeAt := goodIn_r _ [26, 27, 28, 29, 6, 30, 31, 41, 42, 43, 44, 45, 46, 47, 48, 49, 50, 51, 52, 53, 54, 55, 56, 57, 58, 59, 60, 61, 62, 63, 64, 65, 66, 67, 68, 69] (by decide +kernel) (by decide +kernel)
set_option maxRecDepth 20000 in
theorem gX4_block_X4_nodeAt : GoodIn wsX4_block (wsV RX4 151 RX4 yX4_nodeAt wsX4_nodeAt) := goodIn_app (goodIn_of _ (by decide +kernel)) ggX4_block_X4_nodeAt
set_option maxRecDepth 20000 in
theorem ggX4_block_X4_classOf : GoodIn wsX4_block wsX4_classOf := goodIn_r _ [35, 31, 36, 41, 42, 43, 44, 45, 46, 47, 48, 49, 50, 51, 52, 53, 54, 55, 56, 57, 58, 59, 60, 61, 62, 63, 64, 65, 66, 67, 68, 69] (by decide +kernel) (by decide +kernel)
set_option maxRecDepth 20000 in
theorem gX4_block_X4_classOf : GoodIn wsX4_block (wsV RX4 139 RX4 yX4_classOf wsX4_classOf) := goodIn_app (goodIn_of _ (by decide +kernel)) ggX4_block_X4_classOf
set_option maxRecDepth 20000 in
theorem ggX4_block_X4_depth : GoodIn wsX4_block wsX4_depth := goodIn_r _ [40, 31, 36, 41, 42, 43, 44, 45, 46, 47, 48, 49, 50, 51, 52, 53, 54, 55, 56, 57, 58, 59, 60, 61, 62, 63, 64, 65, 66, 67, 68, 69] (by decide +kernel) (by decide +kernel)
set_option maxRecDepth 20000 in
theorem gX4_block_X4_depth : GoodIn wsX4_block (wsV RX4 116 RX4 yX4_depth wsX4_depth) := goodIn_app (goodIn_of _ (by decide +kernel)) ggX4_block_X4_depth
set_option maxRecDepth 20000 in
theorem ggX4_path_X4_isThere : GoodIn wsX4_path wsX4_isThere := goodIn_r _ [5, 6, 7, 37, 38, 39, 40, 41, 42, 43, 44, 45, 46, 47, 48, 49, 50, 51, 52, 53, 54, 55, 56, 57, 58, 59, 60, 61, 62, 63, 64, 65] (by decide +kernel) (by decide +kernel)
set_option maxRecDepth 20000 in
theorem gX4_path_X4_isThere : GoodIn wsX4_path (wsV RX4 159 RX4 yX4_isThere wsX4_isThere) := goodIn_app (goodIn_of _ (by decide +kernel)) ggX4_path_X4_isThere
set_option maxRecDepth 20000 in
theorem ggX4_path_X4_blockOf : GoodIn wsX4_path wsX4_blockOf := goodIn_r _ [11, 12, 13, 37, 38, 39, 40, 41, 42, 43, 44, 45, 46, 47, 48, 49, 50, 51, 52, 53, 54, 55, 56, 57, 58, 59, 60, 61, 62, 63, 64, 65] (by decide +kernel) (by decide +kernel)
set_option maxRecDepth 20000 in
theorem gX4_path_X4_blockOf : GoodIn wsX4_path (wsV RX4 169 RX4 yX4_blockOf wsX4_blockOf) := goodIn_app (goodIn_of _ (by decide +kernel)) ggX4_path_X4_blockOf
set_option maxRecDepth 20000 in
theorem ggX4_path_X4_raise : GoodIn wsX4_path wsX4_raise := goodIn_r _ [17, 7, 37, 38, 39, 40, 41, 42, 43, 44, 45, 46, 47, 48, 49, 50, 51, 52, 53, 54, 55, 56, 57, 58, 59, 60, 61, 62, 63, 64, 65] (by decide +kernel) (by decide +kernel)
set_option maxRecDepth 20000 in
theorem gX4_path_X4_raise : GoodIn wsX4_path (wsV RX4 163 RX4 yX4_raise wsX4_raise) := goodIn_app (goodIn_of _ (by decide +kernel)) ggX4_path_X4_raise
set_option maxRecDepth 20000 in
theorem ggX4_path_X4_nodeAt : GoodIn wsX4_path wsX4_nodeAt := goodIn_r _ [21, 22, 23, 24, 4, 25, 26, 37, 38, 39, 40, 41, 42, 43, 44, 45, 46, 47, 48, 49, 50, 51, 52, 53, 54, 55, 56, 57, 58, 59, 60, 61, 62, 63, 64, 65] (by decide +kernel) (by decide +kernel)
set_option maxRecDepth 20000 in
theorem gX4_path_X4_nodeAt : GoodIn wsX4_path (wsV RX4 151 RX4 yX4_nodeAt wsX4_nodeAt) := goodIn_app (goodIn_of _ (by decide +kernel)) ggX4_path_X4_nodeAt
set_option maxRecDepth 20000 in
theorem ggX4_path_X4_depth : GoodIn wsX4_path wsX4_depth := goodIn_r _ [30, 26, 31, 37, 38, 39, 40, 41, 42, 43, 44, 45, 46, 47, 48, 49, 50, 51, 52, 53, 54, 55, 56, 57, 58, 59, 60, 61, 62, 63, 64, 65] (by decide +kernel) (by decide +kernel)
set_option maxRecDepth 20000 in
theorem gX4_path_X4_depth : GoodIn wsX4_path (wsV RX4 116 RX4 yX4_depth wsX4_depth) := goodIn_app (goodIn_of _ (by decide +kernel)) ggX4_path_X4_depth
set_option maxRecDepth 20000 in
theorem ggX4_path_X4_sides : GoodIn wsX4_path wsX4_sides := goodIn_r _ [35, 26, 36, 37, 38, 39, 40, 41, 42, 43, 44, 45, 46, 47, 48, 49, 50, 51, 52, 53, 54, 55, 56, 57, 58, 59, 60, 61, 62, 63, 64, 65] (by decide +kernel) (by decide +kernel)
set_option maxRecDepth 20000 in
theorem gX4_path_X4_sides : GoodIn wsX4_path (wsV RX4 120 RX4 yX4_sides wsX4_sides) := goodIn_app (goodIn_of _ (by decide +kernel)) ggX4_path_X4_sides
set_option maxRecDepth 20000 in
theorem ggX4_keep_X4_isThere : GoodIn wsX4_keep wsX4_isThere := goodIn_r _ [10, 11, 4, 15, 16, 17, 18, 19, 20, 21, 22, 23, 24, 25, 26, 27, 28, 29, 30, 31, 32, 33, 34, 35, 36, 37, 38, 39, 40, 41, 42, 43] (by decide +kernel) (by decide +kernel)
set_option maxRecDepth 20000 in
theorem gX4_keep_X4_isThere : GoodIn wsX4_keep (wsV RX4 159 RX4 yX4_isThere wsX4_isThere) := goodIn_app (goodIn_of _ (by decide +kernel)) ggX4_keep_X4_isThere
set_option maxRecDepth 20000 in
theorem ggX4_keep_X4_in : GoodIn wsX4_keep wsX4_in := goodIn_r _ [14] (by decide +kernel) (by decide +kernel)
set_option maxRecDepth 20000 in
theorem gX4_keep_X4_in : GoodIn wsX4_keep (va_wsS RX4 72 yX4_in wsX4_in) := goodIn_app (goodIn_of _ (by decide +kernel)) ggX4_keep_X4_in
set_option maxRecDepth 20000 in
theorem ggX4_join_X4_isThere : GoodIn wsX4_join wsX4_isThere := goodIn_r _ [5, 6, 7, 50, 51, 52, 53, 54, 55, 56, 57, 58, 59, 60, 61, 62, 63, 64, 65, 66, 67, 68, 69, 70, 71, 72, 73, 74, 75, 76, 77, 78] (by decide +kernel) (by decide +kernel)
set_option maxRecDepth 20000 in
theorem gX4_join_X4_isThere : GoodIn wsX4_join (wsV RX4 159 RX4 yX4_isThere wsX4_isThere) := goodIn_app (goodIn_of _ (by decide +kernel)) ggX4_join_X4_isThere
set_option maxRecDepth 20000 in
theorem ggX4_join_X4_joinAll : GoodIn wsX4_join wsX4_joinAll := goodIn_r _ [11, 12, 13, 14, 15, 16, 4, 17, 18, 19, 20, 21, 22, 23, 24, 25, 26, 27, 28, 29, 30, 31, 32, 33, 34, 35, 36, 37, 38, 39, 40, 41, 42, 43, 44, 6, 45, 46, 47, 48, 49, 50, 51, 52, 53, 54, 55, 56, 57, 58, 59, 60, 61, 62, 63, 64, 65, 66, 67, 68, 69, 70, 71, 72, 73, 74, 75, 76, 77, 78] (by decide +kernel) (by decide +kernel)
set_option maxRecDepth 20000 in
theorem gX4_join_X4_joinAll : GoodIn wsX4_join (wsV RX4 145 RX4 yX4_joinAll wsX4_joinAll) := goodIn_app (goodIn_of _ (by decide +kernel)) ggX4_join_X4_joinAll
set_option maxRecDepth 20000 in
theorem ggX4_nodes_X4_isThere : GoodIn wsX4_nodes wsX4_isThere := goodIn_r _ [9, 10, 11, 37, 38, 39, 40, 41, 42, 43, 44, 45, 46, 47, 48, 49, 50, 51, 52, 53, 54, 55, 56, 57, 58, 59, 60, 61, 62, 63, 64, 65] (by decide +kernel) (by decide +kernel)
set_option maxRecDepth 20000 in
theorem gX4_nodes_X4_isThere : GoodIn wsX4_nodes (wsV RX4 159 RX4 yX4_isThere wsX4_isThere) := goodIn_app (goodIn_of _ (by decide +kernel)) ggX4_nodes_X4_isThere
set_option maxRecDepth 20000 in
theorem ggX4_nodes_X4_in : GoodIn wsX4_nodes wsX4_in := goodIn_r _ [14] (by decide +kernel) (by decide +kernel)
set_option maxRecDepth 20000 in
theorem gX4_nodes_X4_in : GoodIn wsX4_nodes (va_wsS RX4 72 yX4_in wsX4_in) := goodIn_app (goodIn_of _ (by decide +kernel)) ggX4_nodes_X4_in
set_option maxRecDepth 20000 in
theorem ggX4_nodes_X4_raise : GoodIn wsX4_nodes wsX4_raise := goodIn_r _ [18, 11, 37, 38, 39, 40, 41, 42, 43, 44, 45, 46, 47, 48, 49, 50, 51, 52, 53, 54, 55, 56, 57, 58, 59, 60, 61, 62, 63, 64, 65] (by decide +kernel) (by decide +kernel)
set_option maxRecDepth 20000 in
theorem gX4_nodes_X4_raise : GoodIn wsX4_nodes (wsV RX4 163 RX4 yX4_raise wsX4_raise) := goodIn_app (goodIn_of _ (by decide +kernel)) ggX4_nodes_X4_raise
set_option maxRecDepth 20000 in
theorem ggX4_nodes_X4_isLive : GoodIn wsX4_nodes wsX4_isLive := goodIn_r _ [22, 23, 37, 38, 39, 40, 41, 42, 43, 44, 45, 46, 47, 48, 49, 50, 51, 52, 53, 54, 55, 56, 57, 58, 59, 60, 61, 62, 63, 64, 65] (by decide +kernel) (by decide +kernel)
set_option maxRecDepth 20000 in
theorem gX4_nodes_X4_isLive : GoodIn wsX4_nodes (wsV RX4 132 RX4 yX4_isLive wsX4_isLive) := goodIn_app (goodIn_of _ (by decide +kernel)) ggX4_nodes_X4_isLive
set_option maxRecDepth 20000 in
theorem ggX4_nodes_X4_classOf : GoodIn wsX4_nodes wsX4_classOf := goodIn_r _ [27, 23, 28, 37, 38, 39, 40, 41, 42, 43, 44, 45, 46, 47, 48, 49, 50, 51, 52, 53, 54, 55, 56, 57, 58, 59, 60, 61, 62, 63, 64, 65] (by decide +kernel) (by decide +kernel)
set_option maxRecDepth 20000 in
theorem gX4_nodes_X4_classOf : GoodIn wsX4_nodes (wsV RX4 139 RX4 yX4_classOf wsX4_classOf) := goodIn_app (goodIn_of _ (by decide +kernel)) ggX4_nodes_X4_classOf
set_option maxRecDepth 20000 in
theorem ggX4_nodes_X4_address : GoodIn wsX4_nodes wsX4_address := goodIn_r _ [32, 23, 37, 38, 39, 40, 41, 42, 43, 44, 45, 46, 47, 48, 49, 50, 51, 52, 53, 54, 55, 56, 57, 58, 59, 60, 61, 62, 63, 64, 65] (by decide +kernel) (by decide +kernel)
set_option maxRecDepth 20000 in
theorem gX4_nodes_X4_address : GoodIn wsX4_nodes (wsV RX4 123 RX4 yX4_address wsX4_address) := goodIn_app (goodIn_of _ (by decide +kernel)) ggX4_nodes_X4_address
set_option maxRecDepth 20000 in
theorem ggX4_nodes_X4_freeOf : GoodIn wsX4_nodes wsX4_freeOf := goodIn_r _ [36, 4, 19, 20, 21, 8, 22, 23, 24, 25, 26, 27, 28, 37, 38, 39, 40, 41, 42, 43, 44, 45, 46, 47, 48, 49, 50, 51, 52, 53, 54, 55, 56, 57, 58, 59, 60, 61, 62, 63, 64, 65] (by decide +kernel) (by decide +kernel)
set_option maxRecDepth 20000 in
theorem gX4_nodes_X4_freeOf : GoodIn wsX4_nodes (wsV RX4 156 RX4 yX4_freeOf wsX4_freeOf) := goodIn_app (goodIn_of _ (by decide +kernel)) ggX4_nodes_X4_freeOf
set_option maxRecDepth 20000 in
theorem ggX4_leaf_X4_isThere : GoodIn wsX4_leaf wsX4_isThere := goodIn_r _ [8, 9, 10, 34, 35, 36, 37, 38, 39, 40, 41, 42, 43, 44, 45, 46, 47, 48, 49, 50, 51, 52, 53, 54, 55, 56, 57, 58, 59, 60, 61, 62] (by decide +kernel) (by decide +kernel)
set_option maxRecDepth 20000 in
theorem gX4_leaf_X4_isThere : GoodIn wsX4_leaf (wsV RX4 159 RX4 yX4_isThere wsX4_isThere) := goodIn_app (goodIn_of _ (by decide +kernel)) ggX4_leaf_X4_isThere
set_option maxRecDepth 20000 in
theorem ggX4_leaf_X4_in : GoodIn wsX4_leaf wsX4_in := goodIn_r _ [13] (by decide +kernel) (by decide +kernel)
set_option maxRecDepth 20000 in
theorem gX4_leaf_X4_in : GoodIn wsX4_leaf (va_wsS RX4 72 yX4_in wsX4_in) := goodIn_app (goodIn_of _ (by decide +kernel)) ggX4_leaf_X4_in
set_option maxRecDepth 20000 in
theorem ggX4_leaf_X4_address : GoodIn wsX4_leaf wsX4_address := goodIn_r _ [17, 18, 34, 35, 36, 37, 38, 39, 40, 41, 42, 43, 44, 45, 46, 47, 48, 49, 50, 51, 52, 53, 54, 55, 56, 57, 58, 59, 60, 61, 62] (by decide +kernel) (by decide +kernel)
set_option maxRecDepth 20000 in
theorem gX4_leaf_X4_address : GoodIn wsX4_leaf (wsV RX4 123 RX4 yX4_address wsX4_address) := goodIn_app (goodIn_of _ (by decide +kernel)) ggX4_leaf_X4_address
set_option maxRecDepth 20000 in
theorem ggX4_leaf_X4_classOf : GoodIn wsX4_leaf wsX4_classOf := goodIn_r _ [22, 18, 23, 34, 35, 36, 37, 38, 39, 40, 41, 42, 43, 44, 45, 46, 47, 48, 49, 50, 51, 52, 53, 54, 55, 56, 57, 58, 59, 60, 61, 62] (by decide +kernel) (by decide +kernel)
set_option maxRecDepth 20000 in
theorem gX4_leaf_X4_classOf : GoodIn wsX4_leaf (wsV RX4 139 RX4 yX4_classOf wsX4_classOf) := goodIn_app (goodIn_of _ (by decide +kernel)) ggX4_leaf_X4_classOf
set_option maxRecDepth 20000 in
theorem ggX4_leaf_X4_isLive : GoodIn wsX4_leaf wsX4_isLive := goodIn_r _ [27, 18, 34, 35, 36, 37, 38, 39, 40, 41, 42, 43, 44, 45, 46, 47, 48, 49, 50, 51, 52, 53, 54, 55, 56, 57, 58, 59, 60, 61, 62] (by decide +kernel) (by decide +kernel)
set_option maxRecDepth 20000 in
theorem gX4_leaf_X4_isLive : GoodIn wsX4_leaf (wsV RX4 132 RX4 yX4_isLive wsX4_isLive) := goodIn_app (goodIn_of _ (by decide +kernel)) ggX4_leaf_X4_isLive
set_option maxRecDepth 20000 in
theorem ggX4_leaf_X4_blockOf : GoodIn wsX4_leaf wsX4_blockOf := goodIn_r _ [31, 32, 33, 34, 35, 36, 37, 38, 39, 40, 41, 42, 43, 44, 45, 46, 47, 48, 49, 50, 51, 52, 53, 54, 55, 56, 57, 58, 59, 60, 61, 62] (by decide +kernel) (by decide +kernel)
set_option maxRecDepth 20000 in
theorem gX4_leaf_X4_blockOf : GoodIn wsX4_leaf (wsV RX4 169 RX4 yX4_blockOf wsX4_blockOf) := goodIn_app (goodIn_of _ (by decide +kernel)) ggX4_leaf_X4_blockOf
set_option maxRecDepth 20000 in
theorem ggX4_tellWaiting_X4_classAt : GoodIn wsX4_tellWaiting wsX4_classAt := goodIn_r _ [14, 15, 16, 17, 18, 19, 20, 21, 22, 23, 24, 25, 26, 27, 28, 29, 30, 31, 32, 33, 34, 35, 36, 37, 38, 39, 40, 41, 42, 43, 44, 45, 46] (by decide +kernel) (by decide +kernel)
set_option maxRecDepth 20000 in
theorem gX4_tellWaiting_X4_classAt : GoodIn wsX4_tellWaiting (wsV RX4 126 RX4 yX4_classAt wsX4_classAt) := goodIn_app (goodIn_of _ (by decide +kernel)) ggX4_tellWaiting_X4_classAt
set_option maxRecDepth 20000 in
theorem ggX4_goAlong_X4_reckonTimes : GoodIn wsX4_goAlong wsX4_reckonTimes := goodIn_r _ [15, 8, 16, 17, 18, 7, 1, 47, 48, 49, 50, 51, 52, 53, 54, 55, 56, 57, 58, 59, 60, 61, 62, 63, 64, 65, 66, 67, 68, 69, 70, 71, 72, 73, 74, 75] (by decide +kernel) (by decide +kernel)
set_option maxRecDepth 20000 in
theorem gX4_goAlong_X4_reckonTimes : GoodIn wsX4_goAlong (wsV RX4 193 RX4 yX4_reckonTimes wsX4_reckonTimes) := goodIn_app (goodIn_of _ (by decide +kernel)) ggX4_goAlong_X4_reckonTimes
set_option maxRecDepth 20000 in
theorem ggX4_goAlong_X4_isLive : GoodIn wsX4_goAlong wsX4_isLive := goodIn_r _ [22, 23, 47, 48, 49, 50, 51, 52, 53, 54, 55, 56, 57, 58, 59, 60, 61, 62, 63, 64, 65, 66, 67, 68, 69, 70, 71, 72, 73, 74, 75] (by decide +kernel) (by decide +kernel)
set_option maxRecDepth 20000 in
theorem gX4_goAlong_X4_isLive : GoodIn wsX4_goAlong (wsV RX4 132 RX4 yX4_isLive wsX4_isLive) := goodIn_app (goodIn_of _ (by decide +kernel)) ggX4_goAlong_X4_isLive
set_option maxRecDepth 20000 in
theorem ggX4_goAlong_X4_classOf : GoodIn wsX4_goAlong wsX4_classOf := goodIn_r _ [27, 23, 28, 47, 48, 49, 50, 51, 52, 53, 54, 55, 56, 57, 58, 59, 60, 61, 62, 63, 64, 65, 66, 67, 68, 69, 70, 71, 72, 73, 74, 75] (by decide +kernel) (by decide +kernel)
set_option maxRecDepth 20000 in
theorem gX4_goAlong_X4_classOf : GoodIn wsX4_goAlong (wsV RX4 139 RX4 yX4_classOf wsX4_classOf) := goodIn_app (goodIn_of _ (by decide +kernel)) ggX4_goAlong_X4_classOf
set_option maxRecDepth 20000 in
theorem ggX4_goAlong_X4_tellWaiting : GoodIn wsX4_goAlong wsX4_tellWaiting := goodIn_r _ [32, 2, 9, 10, 3, 7, 4, 1, 5, 8, 33, 34, 35, 14, 36, 37, 17, 18, 47, 48, 49, 50, 51, 52, 53, 54, 55, 56, 57, 58, 59, 60, 61, 62, 63, 64, 65, 66, 67, 68, 69, 70, 71, 72, 73, 74, 75] (by decide +kernel) (by decide +kernel)
set_option maxRecDepth 20000 in
theorem gX4_goAlong_X4_tellWaiting : GoodIn wsX4_goAlong (wsV RX4 196 RX4 yX4_tellWaiting wsX4_tellWaiting) := goodIn_app (goodIn_of _ (by decide +kernel)) ggX4_goAlong_X4_tellWaiting
set_option maxRecDepth 20000 in
theorem ggX4_goAlong_X4_depth : GoodIn wsX4_goAlong wsX4_depth := goodIn_r _ [41, 23, 28, 47, 48, 49, 50, 51, 52, 53, 54, 55, 56, 57, 58, 59, 60, 61, 62, 63, 64, 65, 66, 67, 68, 69, 70, 71, 72, 73, 74, 75] (by decide +kernel) (by decide +kernel)
set_option maxRecDepth 20000 in
theorem gX4_goAlong_X4_depth : GoodIn wsX4_goAlong (wsV RX4 116 RX4 yX4_depth wsX4_depth) := goodIn_app (goodIn_of _ (by decide +kernel)) ggX4_goAlong_X4_depth
set_option maxRecDepth 20000 in
theorem ggX4_goAlong_X4_sides : GoodIn wsX4_goAlong wsX4_sides := goodIn_r _ [45, 23, 46, 47, 48, 49, 50, 51, 52, 53, 54, 55, 56, 57, 58, 59, 60, 61, 62, 63, 64, 65, 66, 67, 68, 69, 70, 71, 72, 73, 74, 75] (by decide +kernel) (by decide +kernel)
set_option maxRecDepth 20000 in
theorem gX4_goAlong_X4_sides : GoodIn wsX4_goAlong (wsV RX4 120 RX4 yX4_sides wsX4_sides) := goodIn_app (goodIn_of _ (by decide +kernel)) ggX4_goAlong_X4_sides
set_option maxRecDepth 20000 in
theorem ggX4_count_X4_isThere : GoodIn wsX4_count wsX4_isThere := goodIn_r _ [14, 5, 15, 60, 61, 62, 63, 64, 65, 66, 67, 68, 69, 70, 71, 72, 73, 74, 75, 76, 77, 78, 79, 80, 81, 82, 83, 84, 85, 86, 87, 88] (by decide +kernel) (by decide +kernel)
set_option maxRecDepth 20000 in
theorem gX4_count_X4_isThere : GoodIn wsX4_count (wsV RX4 159 RX4 yX4_isThere wsX4_isThere) := goodIn_app (goodIn_of _ (by decide +kernel)) ggX4_count_X4_isThere
set_option maxRecDepth 20000 in
theorem ggX4_count_X4_isLive : GoodIn wsX4_count wsX4_isLive := goodIn_r _ [19, 20, 60, 61, 62, 63, 64, 65, 66, 67, 68, 69, 70, 71, 72, 73, 74, 75, 76, 77, 78, 79, 80, 81, 82, 83, 84, 85, 86, 87, 88] (by decide +kernel) (by decide +kernel)
set_option maxRecDepth 20000 in
theorem gX4_count_X4_isLive : GoodIn wsX4_count (wsV RX4 132 RX4 yX4_isLive wsX4_isLive) := goodIn_app (goodIn_of _ (by decide +kernel)) ggX4_count_X4_isLive
set_option maxRecDepth 20000 in
theorem ggX4_count_X4_classOf : GoodIn wsX4_count wsX4_classOf := goodIn_r _ [24, 20, 25, 60, 61, 62, 63, 64, 65, 66, 67, 68, 69, 70, 71, 72, 73, 74, 75, 76, 77, 78, 79, 80, 81, 82, 83, 84, 85, 86, 87, 88] (by decide +kernel) (by decide +kernel)
set_option maxRecDepth 20000 in
theorem gX4_count_X4_classOf : GoodIn wsX4_count (wsV RX4 139 RX4 yX4_classOf wsX4_classOf) := goodIn_app (goodIn_of _ (by decide +kernel)) ggX4_count_X4_classOf
set_option maxRecDepth 20000 in
theorem ggX4_count_X4_goAlong : GoodIn wsX4_count wsX4_goAlong := goodIn_r _ [29, 30, 31, 9, 6, 32, 1, 2, 33, 34, 35, 36, 37, 38, 13, 39, 40, 41, 42, 16, 17, 18, 19, 20, 21, 22, 23, 24, 25, 43, 44, 45, 46, 47, 48, 49, 50, 5, 51, 52, 53, 54, 55, 56, 57, 58, 59, 60, 61, 62, 63, 64, 65, 66, 67, 68, 69, 70, 71, 72, 73, 74, 75, 76, 77, 78, 79, 80, 81, 82, 83, 84, 85, 86, 87, 88] (by decide +kernel) (by decide +kernel)
set_option maxRecDepth 20000 in
theorem gX4_count_X4_goAlong : GoodIn wsX4_count (wsV RX4 199 RX4 yX4_goAlong wsX4_goAlong) := goodIn_app (goodIn_of _ (by decide +kernel)) ggX4_count_X4_goAlong
set_option maxRecDepth 20000 in
theorem ggX4_room_X4_isThere : GoodIn wsX4_room wsX4_isThere := goodIn_r _ [6, 7, 8, 60, 61, 62, 63, 64, 65, 66, 67, 68, 69, 70, 71, 72, 73, 74, 75, 76, 77, 78, 79, 80, 81, 82, 83, 84, 85, 86, 87, 88] (by decide +kernel) (by decide +kernel)
set_option maxRecDepth 20000 in
theorem gX4_room_X4_isThere : GoodIn wsX4_room (wsV RX4 159 RX4 yX4_isThere wsX4_isThere) := goodIn_app (goodIn_of _ (by decide +kernel)) ggX4_room_X4_isThere
set_option maxRecDepth 20000 in
theorem ggX4_room_X4_raise : GoodIn wsX4_room wsX4_raise := goodIn_r _ [12, 8, 60, 61, 62, 63, 64, 65, 66, 67, 68, 69, 70, 71, 72, 73, 74, 75, 76, 77, 78, 79, 80, 81, 82, 83, 84, 85, 86, 87, 88] (by decide +kernel) (by decide +kernel)
set_option maxRecDepth 20000 in
theorem gX4_room_X4_raise : GoodIn wsX4_room (wsV RX4 163 RX4 yX4_raise wsX4_raise) := goodIn_app (goodIn_of _ (by decide +kernel)) ggX4_room_X4_raise
set_option maxRecDepth 20000 in
theorem ggX4_room_X4_goAlong : GoodIn wsX4_room wsX4_goAlong := goodIn_r _ [16, 17, 18, 19, 20, 1, 21, 22, 23, 24, 25, 26, 27, 28, 5, 29, 30, 31, 32, 33, 34, 35, 36, 37, 38, 39, 40, 41, 42, 43, 44, 45, 46, 47, 48, 49, 50, 7, 51, 52, 53, 54, 55, 56, 57, 58, 59, 60, 61, 62, 63, 64, 65, 66, 67, 68, 69, 70, 71, 72, 73, 74, 75, 76, 77, 78, 79, 80, 81, 82, 83, 84, 85, 86, 87, 88] (by decide +kernel) (by decide +kernel)
set_option maxRecDepth 20000 in
theorem gX4_room_X4_goAlong : GoodIn wsX4_room (wsV RX4 199 RX4 yX4_goAlong wsX4_goAlong) := goodIn_app (goodIn_of _ (by decide +kernel)) ggX4_room_X4_goAlong
set_option maxRecDepth 20000 in
theorem ggX4_load_X4_in : GoodIn wsX4_load wsX4_in := goodIn_r _ [7] (by decide +kernel) (by decide +kernel)
set_option maxRecDepth 20000 in
theorem gX4_load_X4_in : GoodIn wsX4_load (va_wsS RX4 72 yX4_in wsX4_in) := goodIn_app (goodIn_of _ (by decide +kernel)) ggX4_load_X4_in
set_option maxRecDepth 20000 in
theorem ggX4_replay_X4_isThere : GoodIn wsX4_replay wsX4_isThere := goodIn_r _ [9, 10, 11, 96, 97, 98, 99, 100, 101, 102, 103, 104, 105, 106, 107, 108, 109, 110, 111, 112, 113, 114, 115, 116, 117, 118, 119, 120, 121, 122, 123, 124] (by decide +kernel) (by decide +kernel)
set_option maxRecDepth 20000 in
theorem gX4_replay_X4_isThere : GoodIn wsX4_replay (wsV RX4 159 RX4 yX4_isThere wsX4_isThere) := goodIn_app (goodIn_of _ (by decide +kernel)) ggX4_replay_X4_isThere
set_option maxRecDepth 20000 in
theorem ggX4_replay_X4_in : GoodIn wsX4_replay wsX4_in := goodIn_r _ [14] (by decide +kernel) (by decide +kernel)
set_option maxRecDepth 20000 in
theorem gX4_replay_X4_in : GoodIn wsX4_replay (va_wsS RX4 72 yX4_in wsX4_in) := goodIn_app (goodIn_of _ (by decide +kernel)) ggX4_replay_X4_in
set_option maxRecDepth 20000 in
theorem ggX4_replay_X4_raise : GoodIn wsX4_replay wsX4_raise := goodIn_r _ [18, 11, 96, 97, 98, 99, 100, 101, 102, 103, 104, 105, 106, 107, 108, 109, 110, 111, 112, 113, 114, 115, 116, 117, 118, 119, 120, 121, 122, 123, 124] (by decide +kernel) (by decide +kernel)
set_option maxRecDepth 20000 in
theorem gX4_replay_X4_raise : GoodIn wsX4_replay (wsV RX4 163 RX4 yX4_raise wsX4_raise) := goodIn_app (goodIn_of _ (by decide +kernel)) ggX4_replay_X4_raise
set_option maxRecDepth 20000 in
theorem ggX4_replay_X4_joinAll : GoodIn wsX4_replay wsX4_joinAll := goodIn_r _ [22, 23, 24, 25, 26, 27, 8, 28, 29, 30, 31, 32, 33, 34, 35, 36, 37, 38, 39, 40, 41, 42, 43, 44, 45, 46, 47, 48, 49, 50, 51, 52, 53, 54, 55, 10, 56, 57, 58, 59, 60, 96, 97, 98, 99, 100, 101, 102, 103, 104, 105, 106, 107, 108, 109, 110, 111, 112, 113, 114, 115, 116, 117, 118, 119, 120, 121, 122, 123, 124] (by decide +kernel) (by decide +kernel)
set_option maxRecDepth 20000 in
theorem gX4_replay_X4_joinAll : GoodIn wsX4_replay (wsV RX4 145 RX4 yX4_joinAll wsX4_joinAll) := goodIn_app (goodIn_of _ (by decide +kernel)) ggX4_replay_X4_joinAll
set_option maxRecDepth 20000 in
theorem ggX4_replay_X4_giveWords : GoodIn wsX4_replay wsX4_giveWords := goodIn_r _ [64, 56, 57, 65, 24, 33, 66, 67, 68, 4, 69, 70, 71, 72, 8, 73, 40, 41, 42, 43, 74, 75, 76, 77, 34, 19, 20, 21, 22, 23, 25, 26, 27, 28, 29, 30, 31, 32, 35, 36, 37, 38, 39, 44, 45, 46, 47, 48, 49, 50, 51, 52, 53, 54, 55, 10, 58, 59, 60, 96, 97, 98, 99, 100, 101, 102, 103, 104, 105, 106, 107, 108, 109, 110, 111, 112, 113, 114, 115, 116, 117, 118, 119, 120, 121, 122, 123, 124] (by decide +kernel) (by decide +kernel)
set_option maxRecDepth 20000 in
theorem gX4_replay_X4_giveWords : GoodIn wsX4_replay (wsV RX4 166 RX4 yX4_giveWords wsX4_giveWords) := goodIn_app (goodIn_of _ (by decide +kernel)) ggX4_replay_X4_giveWords
set_option maxRecDepth 20000 in
theorem ggX4_replay_X4_blockOf : GoodIn wsX4_replay wsX4_blockOf := goodIn_r _ [81, 4, 68, 96, 97, 98, 99, 100, 101, 102, 103, 104, 105, 106, 107, 108, 109, 110, 111, 112, 113, 114, 115, 116, 117, 118, 119, 120, 121, 122, 123, 124] (by decide +kernel) (by decide +kernel)
set_option maxRecDepth 20000 in
theorem gX4_replay_X4_blockOf : GoodIn wsX4_replay (wsV RX4 169 RX4 yX4_blockOf wsX4_blockOf) := goodIn_app (goodIn_of _ (by decide +kernel)) ggX4_replay_X4_blockOf
set_option maxRecDepth 20000 in
theorem ggX4_replay_X4_freeBlock : GoodIn wsX4_replay wsX4_freeBlock := goodIn_r _ [85, 68, 4, 69, 33, 86, 87, 88, 89, 90, 8, 91, 48, 49, 50, 51, 74, 75, 76, 77, 34, 25, 26, 27, 28, 24, 29, 30, 31, 32, 35, 36, 37, 38, 39, 40, 41, 42, 43, 92, 93, 94, 95, 44, 45, 46, 47, 23, 52, 53, 54, 55, 10, 56, 57, 58, 59, 60, 96, 97, 98, 99, 100, 101, 102, 103, 104, 105, 106, 107, 108, 109, 110, 111, 112, 113, 114, 115, 116, 117, 118, 119, 120, 121, 122, 123, 124] (by decide +kernel) (by decide +kernel)
set_option maxRecDepth 20000 in
theorem gX4_replay_X4_freeBlock : GoodIn wsX4_replay (wsV RX4 172 RX4 yX4_freeBlock wsX4_freeBlock) := goodIn_app (goodIn_of _ (by decide +kernel)) ggX4_replay_X4_freeBlock
set_option maxRecDepth 20000 in
theorem ggL_row_X3_row : GoodIn wsL_row wsX3_row := goodIn_ca (goodIn_r _ [6, 7, 8, 9, 5, 10, 11, 12, 13, 14, 15, 16, 17, 18, 19, 20, 21, 22, 23, 24, 25, 26, 27, 28, 29, 30, 31, 32] (by decide +kernel) (by decide +kernel)) (goodIn_sub (fun _ h => List.mem_cons_of_mem _ (List.mem_append_right _ h)) (by decide +kernel))
set_option maxRecDepth 20000 in
theorem gL_row_X3_row : GoodIn wsL_row (wsV RL 7 RX3 yX3_row wsX3_row) := goodIn_app (goodIn_of _ (by decide +kernel)) ggL_row_X3_row
set_option maxRecDepth 20000 in
theorem ggL_family_X3_family : GoodIn wsL_family wsX3_family := goodIn_ca (goodIn_r _ [6, 7, 8, 9, 10, 11, 5, 12, 13, 14, 15, 16, 17, 18, 19, 20, 21, 22, 23, 24, 25, 26, 27, 28, 29, 30, 31, 32, 33, 34, 35, 36, 37, 38, 39, 40, 41, 42, 43, 44, 45, 46, 47, 48] (by decide +kernel) (by decide +kernel)) (goodIn_sub (fun _ h => List.mem_cons_of_mem _ (List.mem_append_right _ h)) (by decide +kernel))
set_option maxRecDepth 20000 in
theorem gL_family_X3_family : GoodIn wsL_family (wsV RL 15 RX3 yX3_family wsX3_family) := goodIn_app (goodIn_of _ (by decide +kernel)) ggL_family_X3_family
set_option maxRecDepth 20000 in
theorem ggL_build_X3_build : GoodIn wsL_build wsX3_build := goodIn_ca (goodIn_r _ [6, 7, 8, 9, 10, 11, 5, 12, 13, 14, 15, 16, 17, 18, 19, 20, 21, 22, 23, 24, 25, 26, 27, 28, 29, 30, 31, 32, 33, 34, 35, 36, 37, 38, 39, 40, 41, 42, 43, 44, 45, 46, 47, 48, 49, 50, 51, 52, 53, 54, 55, 56, 57, 58, 59, 60, 61, 62, 63, 64, 65, 66, 67, 68, 69, 70, 71, 72, 73, 74, 75, 76, 77, 78, 79, 80, 81, 82, 83, 84, 85, 86, 87, 88, 89, 90, 91, 92, 93, 94, 95, 96, 97, 98, 99, 100, 101, 102, 103, 104, 105, 106, 107, 108, 109, 110, 111, 112, 113, 114, 115, 116, 117, 118, 119, 120, 121, 122, 123, 124, 125, 126, 127, 128, 129, 130, 131, 132, 133, 134, 135, 136, 137, 138] (by decide +kernel) (by decide +kernel)) (goodIn_sub (fun _ h => List.mem_cons_of_mem _ (List.mem_append_right _ h)) (by decide +kernel))
set_option maxRecDepth 20000 in
theorem gL_build_X3_build : GoodIn wsL_build (wsV RL 18 RX3 yX3_build wsX3_build) := goodIn_app (goodIn_of _ (by decide +kernel)) ggL_build_X3_build
set_option maxRecDepth 20000 in
theorem ggL_give_X3_give : GoodIn wsL_give wsX3_give := goodIn_ca (goodIn_ca (goodIn_r _ [7, 8, 9, 10, 11, 12, 13, 6, 14, 15, 16, 17, 18, 19, 20, 21, 22, 23, 24, 25, 26, 27, 28, 29, 30, 31, 32, 33, 34, 35, 36, 37, 38, 39, 40, 41, 42, 43, 44, 45, 46, 47, 48, 49, 50, 51, 52, 53, 54, 55, 56, 57, 58, 59, 60, 61, 62, 63, 64, 65, 66, 67, 68, 69, 70, 71, 72, 73, 74, 75, 76, 77, 78, 79, 80, 81, 82, 83, 84, 85, 86, 87, 88, 89, 90, 91, 92, 93, 94, 95, 96, 97, 98, 99, 100, 101, 102, 103, 104, 105, 106, 107, 108, 109, 110, 111, 112, 113, 114, 115, 116, 117, 118, 119, 120, 121, 122, 123, 124, 125, 126, 127, 128, 129, 130, 131, 132, 133, 134, 135, 136, 137, 138, 139, 140, 141, 142, 143, 144, 145, 146, 147, 148, 149, 150, 151, 152, 153, 154, 155, 156, 157, 158, 159, 160, 161, 162, 163, 164, 165, 166, 167, 168, 169, 170, 171, 172, 173, 174, 175, 176, 177, 178, 179, 180, 181, 182, 183, 184, 185, 186, 187, 188, 189, 190, 191, 192, 193] (by decide +kernel) (by decide +kernel)) (goodIn_sub (fun _ h => List.mem_cons_of_mem _ (List.mem_append_left _ (List.mem_append_right _ h))) (by decide +kernel))) (goodIn_sub (fun _ h => List.mem_cons_of_mem _ (List.mem_append_right _ h)) (by decide +kernel))
set_option maxRecDepth 20000 in
theorem gL_give_X3_give : GoodIn wsL_give (wsV RL 22 RX3 yX3_give wsX3_give) := goodIn_app (goodIn_of _ (by decide +kernel)) ggL_give_X3_give
set_option maxRecDepth 20000 in
theorem ggL_free_X3_free : GoodIn wsL_free wsX3_free := goodIn_ca (goodIn_ca (goodIn_r _ [7, 8, 9, 10, 11, 6, 12, 13, 14, 15, 16, 17, 18, 19, 20, 21, 22, 23, 24, 25, 26, 27, 28, 29, 30, 31, 32, 33, 34, 35, 36, 37, 38, 39, 40, 41, 42, 43, 44, 45, 46, 47, 48, 49, 50, 51, 52, 53, 54, 55, 56, 57, 58, 59, 60, 61, 62, 63, 64, 65, 66, 67, 68, 69, 70, 71, 72, 73, 74, 75, 76, 77, 78, 79, 80, 81, 82, 83, 84, 85, 86, 87, 88, 89, 90, 91, 92, 93, 94, 95, 96, 97, 98, 99, 100, 101, 102, 103, 104, 105, 106, 107, 108, 109, 110, 111, 112, 113, 114, 115, 116, 117, 118, 119, 120, 121, 122, 123, 124, 125, 126, 127, 128, 129, 130, 131, 132, 133, 134, 135, 136, 137, 138, 139, 140, 141] (by decide +kernel) (by decide +kernel)) (goodIn_sub (fun _ h => List.mem_cons_of_mem _ (List.mem_append_left _ (List.mem_append_right _ h))) (by decide +kernel))) (goodIn_sub (fun _ h => List.mem_cons_of_mem _ (List.mem_append_right _ h)) (by decide +kernel))
set_option maxRecDepth 20000 in
theorem gL_free_X3_free : GoodIn wsL_free (wsV RL 27 RX3 yX3_free wsX3_free) := goodIn_app (goodIn_of _ (by decide +kernel)) ggL_free_X3_free
set_option maxRecDepth 20000 in
theorem ggL_change_X3_change : GoodIn wsL_change wsX3_change := goodIn_ca (goodIn_ca (goodIn_r _ [7, 8, 9, 10, 11, 12, 13, 6, 14, 15, 16, 17, 18, 19, 20, 21, 22, 23, 24, 25, 26, 27, 28, 29, 30, 31, 32, 33, 34, 35, 36, 37, 38, 39, 40, 41, 42, 43, 44, 45, 46, 47, 48, 49, 50, 51, 52, 53, 54, 55, 56, 57, 58, 59, 60, 61, 62, 63, 64, 65, 66, 67, 68, 69, 70, 71, 72, 73, 74, 75, 76, 77, 78, 79, 80, 81, 82, 83, 84, 85, 86, 87, 88, 89, 90, 91, 92, 93, 94, 95, 96, 97, 98, 99, 100, 101, 102, 103, 104, 105, 106, 107, 108, 109, 110, 111, 112, 113, 114, 115, 116, 117, 118, 119, 120, 121, 122, 123, 124, 125, 126, 127, 128, 129, 130, 131, 132, 133, 134, 135, 136, 137, 138, 139, 140, 141, 142, 143, 144, 145, 146, 147, 148, 149, 150, 151, 152, 153, 154, 155, 156, 157, 158, 159, 160, 161, 162, 163, 164, 165, 166, 167, 168, 169, 170, 171, 172, 173, 174, 175, 176, 177, 178, 179, 180, 181, 182, 183, 184, 185, 186, 187, 188, 189, 190, 191, 192, 193, 194, 195, 196, 197, 198, 199, 200, 201, 202, 203, 204, 205, 206, 207, 208, 209, 210, 211, 212, 213, 214, 215, 216, 217, 218, 219, 220, 221, 222, 223, 224, 225, 226, 227, 228, 229, 230, 231, 232] (by decide +kernel) (by decide +kernel)) (goodIn_sub (fun _ h => List.mem_cons_of_mem _ (List.mem_append_left _ (List.mem_append_right _ h))) (by decide +kernel))) (goodIn_sub (fun _ h => List.mem_cons_of_mem _ (List.mem_append_right _ h)) (by decide +kernel))
set_option maxRecDepth 20000 in
theorem gL_change_X3_change : GoodIn wsL_change (wsV RL 31 RX3 yX3_change wsX3_change) := goodIn_app (goodIn_of _ (by decide +kernel)) ggL_change_X3_change
set_option maxRecDepth 20000 in
theorem ggL_block_X3_block : GoodIn wsL_block wsX3_block := goodIn_ca (goodIn_ca (goodIn_r _ [7, 8, 9, 10, 11, 12, 13, 6, 14, 15, 16, 17, 18, 19, 20, 21, 22, 23, 24, 25, 26, 27, 28, 29, 30, 31, 32, 33, 34, 35, 36, 37, 38, 39, 40, 41, 42, 43, 44, 45, 46, 47, 48, 49, 50, 51, 52, 53, 54, 55, 56, 57, 58, 59, 60, 61, 62, 63, 64, 65, 66, 67, 68, 69, 70] (by decide +kernel) (by decide +kernel)) (goodIn_sub (fun _ h => List.mem_cons_of_mem _ (List.mem_append_left _ (List.mem_append_right _ h))) (by decide +kernel))) (goodIn_sub (fun _ h => List.mem_cons_of_mem _ (List.mem_append_right _ h)) (by decide +kernel))
set_option maxRecDepth 20000 in
theorem gL_block_X3_block : GoodIn wsL_block (wsV RL 35 RX3 yX3_block wsX3_block) := goodIn_app (goodIn_of _ (by decide +kernel)) ggL_block_X3_block
set_option maxRecDepth 20000 in
theorem ggL_path_X3_path : GoodIn wsL_path wsX3_path := goodIn_ca (goodIn_ca (goodIn_r _ [7, 8, 9, 10, 11, 12, 13, 6, 14, 15, 16, 17, 18, 19, 20, 21, 22, 23, 24, 25, 26, 27, 28, 29, 30, 31, 32, 33, 34, 35, 36, 37, 38, 39, 40, 41, 42, 43, 44, 45, 46, 47, 48, 49, 50, 51, 52, 53, 54, 55, 56, 57, 58, 59, 60, 61, 62, 63, 64, 65] (by decide +kernel) (by decide +kernel)) (goodIn_sub (fun _ h => List.mem_cons_of_mem _ (List.mem_append_left _ (List.mem_append_right _ h))) (by decide +kernel))) (goodIn_sub (fun _ h => List.mem_cons_of_mem _ (List.mem_append_right _ h)) (by decide +kernel))
set_option maxRecDepth 20000 in
theorem gL_path_X3_path : GoodIn wsL_path (wsV RL 38 RX3 yX3_path wsX3_path) := goodIn_app (goodIn_of _ (by decide +kernel)) ggL_path_X3_path
set_option maxRecDepth 20000 in
theorem ggL_keep_X3_keep : GoodIn wsL_keep wsX3_keep := goodIn_ca (goodIn_ca (goodIn_r _ [7, 8, 9, 10, 11, 12, 13, 6, 14, 15, 16, 17, 18, 19, 20, 21, 22, 23, 24, 25, 26, 27, 28, 29, 30, 31, 32, 33, 34, 35, 36, 37, 38, 39, 40, 41, 42, 43, 44, 45, 46, 47, 48] (by decide +kernel) (by decide +kernel)) (goodIn_sub (fun _ h => List.mem_cons_of_mem _ (List.mem_append_left _ (List.mem_append_right _ h))) (by decide +kernel))) (goodIn_sub (fun _ h => List.mem_cons_of_mem _ (List.mem_append_right _ h)) (by decide +kernel))
set_option maxRecDepth 20000 in
theorem gL_keep_X3_keep : GoodIn wsL_keep (wsV RL 41 RX3 yX3_keep wsX3_keep) := goodIn_app (goodIn_of _ (by decide +kernel)) ggL_keep_X3_keep
set_option maxRecDepth 20000 in
theorem ggL_join_X3_join : GoodIn wsL_join wsX3_join := goodIn_ca (goodIn_r _ [6, 7, 8, 9, 10, 5, 11, 12, 13, 14, 15, 16, 17, 18, 19, 20, 21, 22, 23, 24, 25, 26, 27, 28, 29, 30, 31, 32, 33, 34, 35, 36, 37, 38, 39, 40, 41, 42, 43, 44, 45, 46, 47, 48, 49, 50, 51, 52, 53, 54, 55, 56, 57, 58, 59, 60, 61, 62, 63, 64, 65, 66, 67, 68, 69, 70, 71, 72, 73, 74, 75, 76, 77, 78, 79, 80, 81, 82, 83, 84, 85, 86, 87, 88, 89, 90, 91, 92, 93, 94, 95, 96, 97, 98, 99, 100, 101, 102, 103, 104] (by decide +kernel) (by decide +kernel)) (goodIn_sub (fun _ h => List.mem_cons_of_mem _ (List.mem_append_right _ h)) (by decide +kernel))
set_option maxRecDepth 20000 in
theorem gL_join_X3_join : GoodIn wsL_join (wsV RL 45 RX3 yX3_join wsX3_join) := goodIn_app (goodIn_of _ (by decide +kernel)) ggL_join_X3_join
set_option maxRecDepth 20000 in
theorem ggL_nodes_X3_nodes : GoodIn wsL_nodes wsX3_nodes := goodIn_ca (goodIn_ca (goodIn_r _ [7, 8, 9, 10, 11, 12, 13, 6, 14, 15, 16, 17, 18, 19, 20, 21, 22, 23, 24, 25, 26, 27, 28, 29, 30, 31, 32, 33, 34, 35, 36, 37, 38, 39, 40, 41, 42, 43, 44, 45, 46, 47, 48, 49, 50, 51, 52, 53, 54, 55, 56, 57, 58, 59, 60, 61, 62, 63, 64, 65, 66, 67, 68, 69, 70, 71, 72, 73] (by decide +kernel) (by decide +kernel)) (goodIn_sub (fun _ h => List.mem_cons_of_mem _ (List.mem_append_left _ (List.mem_append_right _ h))) (by decide +kernel))) (goodIn_sub (fun _ h => List.mem_cons_of_mem _ (List.mem_append_right _ h)) (by decide +kernel))
set_option maxRecDepth 20000 in
theorem gL_nodes_X3_nodes : GoodIn wsL_nodes (wsV RL 49 RX3 yX3_nodes wsX3_nodes) := goodIn_app (goodIn_of _ (by decide +kernel)) ggL_nodes_X3_nodes
set_option maxRecDepth 20000 in
theorem ggL_leaf_X3_leaf : GoodIn wsL_leaf wsX3_leaf := goodIn_ca (goodIn_r _ [6, 7, 8, 9, 10, 5, 11, 12, 13, 14, 15, 16, 17, 18, 19, 20, 21, 22, 23, 24, 25, 26, 27, 28, 29, 30, 31, 32, 33, 34, 35, 36, 37, 38, 39, 40, 41, 42, 43, 44, 45, 46, 47, 48, 49, 50, 51, 52, 53, 54, 55, 56, 57, 58, 59, 60, 61, 62, 63] (by decide +kernel) (by decide +kernel)) (goodIn_sub (fun _ h => List.mem_cons_of_mem _ (List.mem_append_right _ h)) (by decide +kernel))
set_option maxRecDepth 20000 in
theorem gL_leaf_X3_leaf : GoodIn wsL_leaf (wsV RL 52 RX3 yX3_leaf wsX3_leaf) := goodIn_app (goodIn_of _ (by decide +kernel)) ggL_leaf_X3_leaf
set_option maxRecDepth 20000 in
theorem ggL_count_X3_count : GoodIn wsL_count wsX3_count := goodIn_ca (goodIn_r _ [6, 7, 8, 9, 10, 5, 11, 12, 13, 14, 15, 16, 17, 18, 19, 20, 21, 22, 23, 24, 25, 26, 27, 28, 29, 30, 31, 32, 33, 34, 35, 36, 37, 38, 39, 40, 41, 42, 43, 44, 45, 46, 47, 48, 49, 50, 51, 52, 53, 54, 55, 56, 57, 58, 59, 60, 61, 62, 63, 64, 65, 66, 67, 68, 69, 70, 71, 72, 73, 74, 75, 76, 77, 78, 79, 80, 81, 82, 83, 84, 85, 86, 87, 88, 89, 90, 91, 92, 93, 94, 95, 96, 97, 98] (by decide +kernel) (by decide +kernel)) (goodIn_sub (fun _ h => List.mem_cons_of_mem _ (List.mem_append_right _ h)) (by decide +kernel))
set_option maxRecDepth 20000 in
theorem gL_count_X3_count : GoodIn wsL_count (wsV RL 55 RX3 yX3_count wsX3_count) := goodIn_app (goodIn_of _ (by decide +kernel)) ggL_count_X3_count
set_option maxRecDepth 20000 in
theorem ggL_room_X3_room : GoodIn wsL_room wsX3_room := goodIn_ca (goodIn_ca (goodIn_r _ [7, 8, 9, 10, 11, 6, 12, 13, 14, 15, 16, 17, 18, 19, 20, 21, 22, 23, 24, 25, 26, 27, 28, 29, 30, 31, 32, 33, 34, 35, 36, 37, 38, 39, 40, 41, 42, 43, 44, 45, 46, 47, 48, 49, 50, 51, 52, 53, 54, 55, 56, 57, 58, 59, 60, 61, 62, 63, 64, 65, 66, 67, 68, 69, 70, 71, 72, 73, 74, 75, 76, 77, 78, 79, 80, 81, 82, 83, 84, 85, 86, 87, 88, 89, 90, 91, 92, 93, 94, 95, 96, 97, 98, 99, 100] (by decide +kernel) (by decide +kernel)) (goodIn_sub (fun _ h => List.mem_cons_of_mem _ (List.mem_append_left _ (List.mem_append_right _ h))) (by decide +kernel))) (goodIn_sub (fun _ h => List.mem_cons_of_mem _ (List.mem_append_right _ h)) (by decide +kernel))
set_option maxRecDepth 20000 in
theorem gL_room_X3_room : GoodIn wsL_room (wsV RL 58 RX3 yX3_room wsX3_room) := goodIn_app (goodIn_of _ (by decide +kernel)) ggL_room_X3_room
set_option maxRecDepth 20000 in
theorem ggL_load_X3_load : GoodIn wsL_load wsX3_load := goodIn_ca (goodIn_r _ [6, 7, 8, 9, 10, 11, 12, 13, 14] (by decide +kernel) (by decide +kernel)) (goodIn_sub (fun _ h => List.mem_cons_of_mem _ (List.mem_append_right _ h)) (by decide +kernel))
set_option maxRecDepth 20000 in
theorem gL_load_X3_load : GoodIn wsL_load (wsV RL 61 RX3 yX3_load wsX3_load) := goodIn_app (goodIn_of _ (by decide +kernel)) ggL_load_X3_load
set_option maxRecDepth 20000 in
theorem ggL_replay_X3_replay : GoodIn wsL_replay wsX3_replay := goodIn_ca (goodIn_ca (goodIn_r _ [7, 8, 9, 10, 11, 12, 13, 6, 14, 15, 16, 17, 18, 19, 20, 21, 22, 23, 24, 25, 26, 27, 28, 29, 30, 31, 32, 33, 34, 35, 36, 37, 38, 39, 40, 41, 42, 43, 44, 45, 46, 47, 48, 49, 50, 51, 52, 53, 54, 55, 56, 57, 58, 59, 60, 61, 62, 63, 64, 65, 66, 67, 68, 69, 70, 71, 72, 73, 74, 75, 76, 77, 78, 79, 80, 81, 82, 83, 84, 85, 86, 87, 88, 89, 90, 91, 92, 93, 94, 95, 96, 97, 98, 99, 100, 101, 102, 103, 104, 105, 106, 107, 108, 109, 110, 111, 112, 113, 114, 115, 116, 117, 118, 119, 120, 121, 122, 123, 124, 125, 126, 127, 128, 129, 130, 131, 132, 133, 134, 135, 136, 137, 138, 139, 140, 141, 142, 143, 144, 145, 146, 147, 148, 149, 150, 151, 152, 153, 154, 155, 156, 157, 158, 159, 160, 161, 162, 163, 164, 165, 166, 167, 168, 169, 170, 171, 172, 173, 174, 175, 176, 177, 178, 179, 180, 181, 182, 183, 184, 185, 186, 187, 188, 189, 190, 191, 192, 193, 194, 195, 196, 197, 198, 199, 200, 201, 202, 203, 204, 205, 206, 207, 208, 209, 210, 211, 212, 213, 214, 215, 216, 217, 218, 219, 220, 221, 222] (by decide +kernel) (by decide +kernel)) (goodIn_sub (fun _ h => List.mem_cons_of_mem _ (List.mem_append_left _ (List.mem_append_right _ h))) (by decide +kernel))) (goodIn_sub (fun _ h => List.mem_cons_of_mem _ (List.mem_append_right _ h)) (by decide +kernel))
set_option maxRecDepth 20000 in
theorem gL_replay_X3_replay : GoodIn wsL_replay (wsV RL 64 RX3 yX3_replay wsX3_replay) := goodIn_app (goodIn_of _ (by decide +kernel)) ggL_replay_X3_replay
