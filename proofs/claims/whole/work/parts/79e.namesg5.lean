set_option maxRecDepth 20000 in
theorem ggX3_build_X3_requireClass : GoodIn wsX3_build wsX3_requireClass := goodIn_ca (goodIn_r _ [7, 8, 9, 10, 11, 6, 12] (by decide +kernel) (by decide +kernel)) (goodIn_sub (fun _ h => List.mem_cons_of_mem _ (List.mem_append_right _ h)) (by decide +kernel))
set_option maxRecDepth 20000 in
theorem gX3_build_X3_requireClass : GoodIn wsX3_build (va_wsS RX3 34 yX3_requireClass wsX3_requireClass) := goodIn_app (goodIn_of _ (by decide +kernel)) ggX3_build_X3_requireClass
set_option maxRecDepth 20000 in
theorem ggX3_build_X1_reachedFrom : GoodIn wsX3_build wsX1_reachedFrom := goodIn_r _ [17, 18, 19, 20, 21, 22, 23, 24, 25, 26, 27, 16, 28, 29, 30, 6, 31, 32, 11, 12, 108, 109, 110, 111] (by decide +kernel) (by decide +kernel)
set_option maxRecDepth 20000 in
theorem gX3_build_X1_reachedFrom : GoodIn wsX3_build (wsV RX3 61 RX1 yX1_reachedFrom wsX1_reachedFrom) := goodIn_app (goodIn_of _ (by decide +kernel)) ggX3_build_X1_reachedFrom
set_option maxRecDepth 20000 in
theorem ggX3_build_X1_lowestBad : GoodIn wsX3_build wsX1_lowestBad := goodIn_r _ [36, 25, 26, 27, 16, 28, 29, 18, 19, 30, 6, 31, 32, 11, 12, 108, 109, 110, 111] (by decide +kernel) (by decide +kernel)
set_option maxRecDepth 20000 in
theorem gX3_build_X1_lowestBad : GoodIn wsX3_build (wsV RX3 65 RX1 yX1_lowestBad wsX1_lowestBad) := goodIn_app (goodIn_of _ (by decide +kernel)) ggX3_build_X1_lowestBad
set_option maxRecDepth 20000 in
theorem ggX3_build_X0_begin : GoodIn wsX3_build wsX0_begin := goodIn_r _ [41, 42, 43, 44, 45, 46, 47, 48, 49, 50, 51, 52, 53, 54, 16, 55, 29, 56, 57, 58, 59, 18, 19, 60, 61, 62, 63, 64, 65, 66, 67, 68, 69, 70, 71, 72, 73, 74, 75, 76, 77, 78, 79, 80, 81, 82, 83, 84, 85, 86, 87, 88, 89, 40, 90, 91, 92, 93, 94, 95, 96, 112, 113, 114, 115, 116, 117, 118, 119, 120, 121, 122, 123, 124, 108, 109, 110, 111, 125, 126, 127, 128, 129, 130, 131, 132, 133] (by decide +kernel) (by decide +kernel)
set_option maxRecDepth 20000 in
theorem gX3_build_X0_begin : GoodIn wsX3_build (wsV RX3 68 RX0 yX0_begin wsX0_begin) := goodIn_app (goodIn_of _ (by decide +kernel)) ggX3_build_X0_begin
set_option maxRecDepth 20000 in
theorem ggX3_build_J6_bitCount_0f7a4 : GoodIn wsX3_build wsJ6_bitCount_0f7a4 := goodIn_r _ [99, 100, 101, 102] (by decide +kernel) (by decide +kernel)
set_option maxRecDepth 20000 in
theorem gX3_build_J6_bitCount_0f7a4 : GoodIn wsX3_build (va_wsS RX3 72 yJ6_bitCount_0f7a4 wsJ6_bitCount_0f7a4) := goodIn_app (goodIn_of _ (by decide +kernel)) ggX3_build_J6_bitCount_0f7a4
set_option maxRecDepth 20000 in
theorem ggX3_give_X3_requireMemory : GoodIn wsX3_give wsX3_requireMemory := goodIn_ca (goodIn_r _ [8, 1, 2, 9, 157, 158, 159, 160, 161] (by decide +kernel) (by decide +kernel)) (goodIn_sub (fun _ h => List.mem_cons_of_mem _ (List.mem_append_left _ (List.mem_append_right _ h))) (by decide +kernel))
set_option maxRecDepth 20000 in
theorem gX3_give_X3_requireMemory : GoodIn wsX3_give (wsV RX3 77 RX3 yX3_requireMemory wsX3_requireMemory) := goodIn_app (goodIn_of _ (by decide +kernel)) ggX3_give_X3_requireMemory
set_option maxRecDepth 20000 in
theorem ggX3_give_X0_isFull : GoodIn wsX3_give wsX0_isFull := goodIn_r _ [14, 15, 162, 163, 164, 165, 166, 167, 168, 169, 170, 171, 172, 173, 174] (by decide +kernel) (by decide +kernel)
set_option maxRecDepth 20000 in
theorem gX3_give_X0_isFull : GoodIn wsX3_give (wsV RX3 80 RX0 yX0_isFull wsX0_isFull) := goodIn_app (goodIn_of _ (by decide +kernel)) ggX3_give_X0_isFull
set_option maxRecDepth 20000 in
theorem ggX3_give_X3_requireWords : GoodIn wsX3_give wsX3_requireWords := goodIn_ca (goodIn_r _ [18, 19, 20] (by decide +kernel) (by decide +kernel)) (goodIn_sub (fun _ h => List.mem_cons_of_mem _ (List.mem_append_right _ h)) (by decide +kernel))
set_option maxRecDepth 20000 in
theorem gX3_give_X3_requireWords : GoodIn wsX3_give (va_wsS RX3 89 yX3_requireWords wsX3_requireWords) := goodIn_app (goodIn_of _ (by decide +kernel)) ggX3_give_X3_requireWords
set_option maxRecDepth 20000 in
theorem ggX3_give_X0_grant : GoodIn wsX3_give wsX0_grant := goodIn_r _ [24, 25, 26, 15, 27, 28, 29, 30, 31, 13, 32, 33, 34, 35, 36, 37, 38, 39, 40, 41, 42, 43, 44, 45, 46, 47, 48, 49, 50, 51, 52, 53, 54, 55, 56, 57, 58, 59, 60, 61, 62, 63, 64, 65, 66, 67, 68, 69, 70, 71, 72, 73, 74, 75, 76, 77, 78, 79, 80, 81, 82, 83, 84, 85, 86, 87, 88, 89, 90, 91, 92, 93, 94, 95, 96, 97, 98, 99, 100, 101, 102, 103, 104, 105, 106, 107, 108, 109, 110, 111, 112, 113, 114, 115, 116, 117, 118, 119, 120, 121, 122, 123, 124, 125, 126, 127, 128, 129, 130, 131, 132, 133, 134, 135, 136, 137, 138, 139, 140, 141, 142, 143, 144, 145, 146, 147, 148, 162, 163, 164, 165, 166, 167, 168, 169, 170, 171, 172, 173, 174, 175, 176, 177, 178, 179, 180, 181, 182, 183, 184, 185, 186, 187] (by decide +kernel) (by decide +kernel)
set_option maxRecDepth 20000 in
theorem gX3_give_X0_grant : GoodIn wsX3_give (wsV RX3 92 RX0 yX0_grant wsX0_grant) := goodIn_app (goodIn_of _ (by decide +kernel)) ggX3_give_X0_grant
set_option maxRecDepth 20000 in
theorem ggX3_give_X3_addressOrNone : GoodIn wsX3_give wsX3_addressOrNone := goodIn_r _ [152, 3, 153, 154, 155, 39, 156, 107, 157, 158, 159, 160, 161, 162, 163, 164, 165, 166, 167, 168, 169, 170, 171, 172, 173, 174, 179, 180, 181, 182, 183, 184, 185, 186, 187] (by decide +kernel) (by decide +kernel)
set_option maxRecDepth 20000 in
theorem gX3_give_X3_addressOrNone : GoodIn wsX3_give (wsV RX3 95 RX3 yX3_addressOrNone wsX3_addressOrNone) := goodIn_app (goodIn_of _ (by decide +kernel)) ggX3_give_X3_addressOrNone
set_option maxRecDepth 20000 in
theorem ggX3_free_X3_requireBlock : GoodIn wsX3_free wsX3_requireBlock := goodIn_ca (goodIn_ca (goodIn_r _ [6, 7, 8, 1, 9, 10, 11, 5, 12, 13, 14, 15, 16, 17, 18, 19, 20, 21, 22, 23, 100, 101, 102, 103, 104, 105, 106, 107, 108, 109, 110, 111, 112, 113, 114, 115, 116, 117, 118, 119, 120, 121, 122, 123, 124, 125, 126] (by decide +kernel) (by decide +kernel)) (goodIn_sub (fun _ h => List.mem_cons_of_mem _ (List.mem_append_left _ (List.mem_append_right _ h))) (by decide +kernel))) (goodIn_sub (fun _ h => List.mem_cons_of_mem _ (List.mem_append_right _ h)) (by decide +kernel))
set_option maxRecDepth 20000 in
theorem gX3_free_X3_requireBlock : GoodIn wsX3_free (wsV RX3 98 RX3 yX3_requireBlock wsX3_requireBlock) := goodIn_app (goodIn_of _ (by decide +kernel)) ggX3_free_X3_requireBlock
set_option maxRecDepth 20000 in
theorem ggX3_free_X0_release : GoodIn wsX3_free wsX0_release := goodIn_r _ [28, 29, 30, 31, 32, 33, 34, 35, 36, 19, 37, 23, 38, 39, 40, 27, 41, 42, 43, 44, 45, 46, 47, 48, 49, 50, 51, 52, 53, 54, 55, 56, 57, 58, 59, 60, 61, 62, 63, 64, 65, 66, 67, 68, 69, 70, 21, 71, 72, 73, 74, 75, 76, 77, 78, 79, 80, 81, 82, 83, 84, 85, 86, 87, 88, 89, 90, 91, 92, 93, 94, 95, 96, 97, 98, 99, 105, 106, 107, 108, 109, 110, 111, 112, 113, 114, 115, 116, 117, 118, 119, 120, 121, 122, 123, 124, 125, 126, 127, 128, 129, 130] (by decide +kernel) (by decide +kernel)
set_option maxRecDepth 20000 in
theorem gX3_free_X0_release : GoodIn wsX3_free (wsV RX3 101 RX0 yX0_release wsX0_release) := goodIn_app (goodIn_of _ (by decide +kernel)) ggX3_free_X0_release
set_option maxRecDepth 20000 in
theorem ggX3_change_X3_requireBlock : GoodIn wsX3_change wsX3_requireBlock := goodIn_ca (goodIn_ca (goodIn_r _ [8, 9, 10, 3, 11, 12, 13, 7, 14, 1, 2, 15, 16, 17, 18, 19, 20, 21, 22, 23, 196, 197, 198, 199, 200, 201, 202, 203, 204, 205, 206, 207, 208, 209, 210, 211, 212, 213, 214, 215, 216, 217, 218, 219, 220, 221, 222] (by decide +kernel) (by decide +kernel)) (goodIn_sub (fun _ h => List.mem_cons_of_mem _ (List.mem_append_right _ h)) (by decide +kernel))) (goodIn_sub (fun _ h => List.mem_cons_of_mem _ (List.mem_append_left _ (List.mem_append_right _ h))) (by decide +kernel))
set_option maxRecDepth 20000 in
theorem gX3_change_X3_requireBlock : GoodIn wsX3_change (wsV RX3 98 RX3 yX3_requireBlock wsX3_requireBlock) := goodIn_app (goodIn_of _ (by decide +kernel)) ggX3_change_X3_requireBlock
set_option maxRecDepth 20000 in
theorem ggX3_change_X3_requireWords : GoodIn wsX3_change wsX3_requireWords := goodIn_ca (goodIn_r _ [26, 9, 10] (by decide +kernel) (by decide +kernel)) (goodIn_sub (fun _ h => List.mem_cons_of_mem _ (List.mem_append_right _ h)) (by decide +kernel))
set_option maxRecDepth 20000 in
theorem gX3_change_X3_requireWords : GoodIn wsX3_change (va_wsS RX3 89 yX3_requireWords wsX3_requireWords) := goodIn_app (goodIn_of _ (by decide +kernel)) ggX3_change_X3_requireWords
set_option maxRecDepth 20000 in
theorem ggX3_change_X0_sizeOf : GoodIn wsX3_change wsX0_sizeOf := goodIn_r _ [31, 32, 33, 34, 35, 36, 19, 37, 38, 201, 202, 203, 204, 205, 206, 207, 208, 209, 210, 211, 212, 213, 223, 224, 225, 226, 214, 215, 216, 217, 218, 219, 220, 221, 222] (by decide +kernel) (by decide +kernel)
set_option maxRecDepth 20000 in
theorem gX3_change_X0_sizeOf : GoodIn wsX3_change (wsV RX3 104 RX0 yX0_sizeOf wsX0_sizeOf) := goodIn_app (goodIn_of _ (by decide +kernel)) ggX3_change_X0_sizeOf
set_option maxRecDepth 20000 in
theorem ggX3_change_X0_renew : GoodIn wsX3_change wsX0_renew := goodIn_r _ [42, 43, 33, 44, 45, 46, 19, 47, 23, 48, 49, 50, 51, 52, 38, 53, 201, 202, 203, 204, 205, 206, 207, 208, 209, 210, 211, 212, 213, 214, 215, 216, 217, 218, 219, 220, 221, 222] (by decide +kernel) (by decide +kernel)
set_option maxRecDepth 20000 in
theorem gX3_change_X0_renew : GoodIn wsX3_change (wsV RX3 107 RX0 yX0_renew wsX0_renew) := goodIn_app (goodIn_of _ (by decide +kernel)) ggX3_change_X0_renew
set_option maxRecDepth 20000 in
theorem ggX3_change_X0_isFull : GoodIn wsX3_change wsX0_isFull := goodIn_r _ [57, 58, 201, 202, 203, 204, 205, 206, 207, 208, 209, 210, 211, 212, 213] (by decide +kernel) (by decide +kernel)
set_option maxRecDepth 20000 in
theorem gX3_change_X0_isFull : GoodIn wsX3_change (wsV RX3 80 RX0 yX0_isFull wsX0_isFull) := goodIn_app (goodIn_of _ (by decide +kernel)) ggX3_change_X0_isFull
set_option maxRecDepth 20000 in
theorem ggX3_change_X0_grant : GoodIn wsX3_change wsX0_grant := goodIn_r _ [62, 63, 33, 58, 43, 64, 65, 66, 67, 30, 68, 69, 70, 32, 71, 72, 73, 19, 74, 52, 75, 76, 77, 78, 21, 79, 80, 81, 82, 83, 84, 85, 86, 87, 88, 89, 90, 91, 92, 93, 94, 95, 23, 96, 97, 98, 99, 100, 101, 102, 103, 104, 105, 106, 107, 108, 34, 35, 36, 37, 38, 109, 110, 111, 112, 113, 114, 115, 116, 117, 118, 119, 120, 121, 122, 123, 124, 125, 126, 127, 128, 129, 130, 131, 132, 22, 133, 134, 135, 136, 137, 138, 139, 140, 141, 142, 143, 144, 145, 146, 147, 148, 149, 150, 151, 152, 153, 154, 155, 156, 157, 158, 159, 160, 161, 162, 163, 164, 49, 50, 51, 53, 48, 165, 28, 29, 31, 201, 202, 203, 204, 205, 206, 207, 208, 209, 210, 211, 212, 213, 223, 224, 225, 226, 214, 215, 216, 217, 218, 219, 220, 221, 222] (by decide +kernel) (by decide +kernel)
set_option maxRecDepth 20000 in
theorem gX3_change_X0_grant : GoodIn wsX3_change (wsV RX3 92 RX0 yX0_grant wsX0_grant) := goodIn_app (goodIn_of _ (by decide +kernel)) ggX3_change_X0_grant
set_option maxRecDepth 20000 in
theorem ggX3_change_X0_release : GoodIn wsX3_change wsX0_release := goodIn_r _ [169, 58, 43, 33, 64, 63, 44, 45, 46, 19, 47, 23, 165, 28, 29, 30, 31, 32, 34, 35, 36, 37, 38, 48, 49, 50, 51, 52, 53, 170, 171, 172, 173, 174, 175, 176, 177, 178, 179, 180, 181, 182, 183, 93, 94, 95, 21, 184, 185, 186, 187, 113, 101, 102, 103, 104, 83, 105, 106, 107, 108, 109, 110, 111, 112, 114, 115, 116, 117, 118, 119, 88, 89, 90, 91, 92, 201, 202, 203, 204, 205, 206, 207, 208, 209, 210, 211, 212, 213, 214, 215, 216, 217, 218, 219, 220, 221, 222, 223, 224, 225, 226] (by decide +kernel) (by decide +kernel)
set_option maxRecDepth 20000 in
theorem gX3_change_X0_release : GoodIn wsX3_change (wsV RX3 101 RX0 yX0_release wsX0_release) := goodIn_app (goodIn_of _ (by decide +kernel)) ggX3_change_X0_release
set_option maxRecDepth 20000 in
theorem ggX3_change_X3_addressOrNone : GoodIn wsX3_change wsX3_addressOrNone := goodIn_r _ [191, 3, 192, 193, 194, 19, 195, 22, 196, 197, 198, 199, 200, 201, 202, 203, 204, 205, 206, 207, 208, 209, 210, 211, 212, 213, 214, 215, 216, 217, 218, 219, 220, 221, 222] (by decide +kernel) (by decide +kernel)
set_option maxRecDepth 20000 in
theorem gX3_change_X3_addressOrNone : GoodIn wsX3_change (wsV RX3 95 RX3 yX3_addressOrNone wsX3_addressOrNone) := goodIn_app (goodIn_of _ (by decide +kernel)) ggX3_change_X3_addressOrNone
set_option maxRecDepth 20000 in
theorem ggX3_block_X3_requireBlock : GoodIn wsX3_block wsX3_requireBlock := goodIn_ca (goodIn_ca (goodIn_r _ [8, 1, 2, 3, 9, 10, 11, 7, 12, 13, 14, 15, 16, 17, 18, 19, 20, 21, 22, 23, 38, 39, 40, 41, 42, 43, 44, 45, 46, 47, 48, 49, 50, 51, 52, 53, 54, 55, 56, 57, 58, 59, 60, 61, 62, 63, 64] (by decide +kernel) (by decide +kernel)) (goodIn_sub (fun _ h => List.mem_cons_of_mem _ (List.mem_append_left _ (List.mem_append_right _ h))) (by decide +kernel))) (goodIn_sub (fun _ h => List.mem_cons_of_mem _ (List.mem_append_right _ h)) (by decide +kernel))
set_option maxRecDepth 20000 in
theorem gX3_block_X3_requireBlock : GoodIn wsX3_block (wsV RX3 98 RX3 yX3_requireBlock wsX3_requireBlock) := goodIn_app (goodIn_of _ (by decide +kernel)) ggX3_block_X3_requireBlock
set_option maxRecDepth 20000 in
theorem ggX3_block_X2_kindOf : GoodIn wsX3_block wsX2_kindOf := goodIn_r _ [27, 28, 56, 57, 58, 59, 60, 61, 62, 63, 64] (by decide +kernel) (by decide +kernel)
set_option maxRecDepth 20000 in
theorem gX3_block_X2_kindOf : GoodIn wsX3_block (wsV RX3 115 RX2 yX2_kindOf wsX2_kindOf) := goodIn_app (goodIn_of _ (by decide +kernel)) ggX3_block_X2_kindOf
set_option maxRecDepth 20000 in
theorem ggX3_block_X2_requestOf : GoodIn wsX3_block wsX2_requestOf := goodIn_r _ [32, 23, 56, 57, 58, 59, 60, 61, 62, 63, 64] (by decide +kernel) (by decide +kernel)
set_option maxRecDepth 20000 in
theorem gX3_block_X2_requestOf : GoodIn wsX3_block (wsV RX3 120 RX2 yX2_requestOf wsX2_requestOf) := goodIn_app (goodIn_of _ (by decide +kernel)) ggX3_block_X2_requestOf
set_option maxRecDepth 20000 in
theorem ggX3_block_X2_depthOf : GoodIn wsX3_block wsX2_depthOf := goodIn_r _ [36, 37, 56, 57, 58, 59, 60, 61, 62, 63, 64] (by decide +kernel) (by decide +kernel)
set_option maxRecDepth 20000 in
theorem gX3_block_X2_depthOf : GoodIn wsX3_block (wsV RX3 123 RX2 yX2_depthOf wsX2_depthOf) := goodIn_app (goodIn_of _ (by decide +kernel)) ggX3_block_X2_depthOf
set_option maxRecDepth 20000 in
theorem ggX3_path_X3_requireBlock : GoodIn wsX3_path wsX3_requireBlock := goodIn_ca (goodIn_ca (goodIn_r _ [8, 1, 2, 3, 9, 10, 11, 7, 12, 13, 14, 15, 16, 17, 18, 19, 20, 21, 22, 23, 33, 34, 35, 36, 37, 38, 39, 40, 41, 42, 43, 44, 45, 46, 47, 48, 49, 50, 51, 52, 53, 54, 55, 56, 57, 58, 59] (by decide +kernel) (by decide +kernel)) (goodIn_sub (fun _ h => List.mem_cons_of_mem _ (List.mem_append_left _ (List.mem_append_right _ h))) (by decide +kernel))) (goodIn_sub (fun _ h => List.mem_cons_of_mem _ (List.mem_append_right _ h)) (by decide +kernel))
set_option maxRecDepth 20000 in
theorem gX3_path_X3_requireBlock : GoodIn wsX3_path (wsV RX3 98 RX3 yX3_requireBlock wsX3_requireBlock) := goodIn_app (goodIn_of _ (by decide +kernel)) ggX3_path_X3_requireBlock
set_option maxRecDepth 20000 in
theorem ggX3_path_X2_sideAt : GoodIn wsX3_path wsX2_sideAt := goodIn_r _ [27, 28, 29, 30, 31, 19, 32, 51, 52, 53, 54, 55, 56, 57, 58, 59] (by decide +kernel) (by decide +kernel)
set_option maxRecDepth 20000 in
theorem gX3_path_X2_sideAt : GoodIn wsX3_path (wsV RX3 130 RX2 yX2_sideAt wsX2_sideAt) := goodIn_app (goodIn_of _ (by decide +kernel)) ggX3_path_X2_sideAt
set_option maxRecDepth 20000 in
theorem ggX3_nodes_X3_requireMemory : GoodIn wsX3_nodes wsX3_requireMemory := goodIn_ca (goodIn_r _ [8, 9, 10, 11, 41, 42, 43, 44, 45] (by decide +kernel) (by decide +kernel)) (goodIn_sub (fun _ h => List.mem_cons_of_mem _ (List.mem_append_right _ h)) (by decide +kernel))
set_option maxRecDepth 20000 in
theorem gX3_nodes_X3_requireMemory : GoodIn wsX3_nodes (wsV RX3 77 RX3 yX3_requireMemory wsX3_requireMemory) := goodIn_app (goodIn_of _ (by decide +kernel)) ggX3_nodes_X3_requireMemory
set_option maxRecDepth 20000 in
theorem ggX3_nodes_X3_requireReached : GoodIn wsX3_nodes wsX3_requireReached := goodIn_ca (goodIn_r _ [15, 1, 2, 3, 16, 17, 7, 18, 19, 20, 21, 22, 23, 24, 41, 42, 43, 44, 45, 46, 47, 48, 49, 50, 51, 52, 53, 54, 55, 56, 57, 58] (by decide +kernel) (by decide +kernel)) (goodIn_sub (fun _ h => List.mem_cons_of_mem _ (List.mem_append_left _ (List.mem_append_right _ h))) (by decide +kernel))
set_option maxRecDepth 20000 in
theorem gX3_nodes_X3_requireReached : GoodIn wsX3_nodes (wsV RX3 134 RX3 yX3_requireReached wsX3_requireReached) := goodIn_app (goodIn_of _ (by decide +kernel)) ggX3_nodes_X3_requireReached
set_option maxRecDepth 20000 in
theorem ggX3_nodes_X2_outermost : GoodIn wsX3_nodes wsX2_outermost := goodIn_r _ [29, 30, 31, 59, 60, 61, 62, 63, 64, 65, 66, 67] (by decide +kernel) (by decide +kernel)
set_option maxRecDepth 20000 in
theorem gX3_nodes_X2_outermost : GoodIn wsX3_nodes (wsV RX3 149 RX2 yX2_outermost wsX2_outermost) := goodIn_app (goodIn_of _ (by decide +kernel)) ggX3_nodes_X2_outermost
set_option maxRecDepth 20000 in
theorem ggX3_nodes_X3_addressOrNone : GoodIn wsX3_nodes wsX3_addressOrNone := goodIn_r _ [35, 3, 36, 37, 38, 28, 39, 40, 41, 42, 43, 44, 45, 46, 47, 48, 49, 50, 51, 52, 53, 54, 55, 56, 57, 58, 59, 60, 61, 62, 63, 64, 65, 66, 67] (by decide +kernel) (by decide +kernel)
set_option maxRecDepth 20000 in
theorem gX3_nodes_X3_addressOrNone : GoodIn wsX3_nodes (wsV RX3 95 RX3 yX3_addressOrNone wsX3_addressOrNone) := goodIn_app (goodIn_of _ (by decide +kernel)) ggX3_nodes_X3_addressOrNone
set_option maxRecDepth 20000 in
theorem ggX3_leaf_X3_requireMemory : GoodIn wsX3_leaf wsX3_requireMemory := goodIn_ca (goodIn_r _ [6, 7, 8, 9, 32, 33, 34, 35, 36] (by decide +kernel) (by decide +kernel)) (goodIn_sub (fun _ h => List.mem_cons_of_mem _ (List.mem_append_right _ h)) (by decide +kernel))
set_option maxRecDepth 20000 in
theorem gX3_leaf_X3_requireMemory : GoodIn wsX3_leaf (wsV RX3 77 RX3 yX3_requireMemory wsX3_requireMemory) := goodIn_app (goodIn_of _ (by decide +kernel)) ggX3_leaf_X3_requireMemory
set_option maxRecDepth 20000 in
theorem ggX3_leaf_X2_unsplitAt : GoodIn wsX3_leaf wsX2_unsplitAt := goodIn_r _ [14, 15, 16, 50, 51, 52, 53, 54, 55, 56, 57, 58] (by decide +kernel) (by decide +kernel)
set_option maxRecDepth 20000 in
theorem gX3_leaf_X2_unsplitAt : GoodIn wsX3_leaf (wsV RX3 154 RX2 yX2_unsplitAt wsX2_unsplitAt) := goodIn_app (goodIn_of _ (by decide +kernel)) ggX3_leaf_X2_unsplitAt
set_option maxRecDepth 20000 in
theorem ggX3_leaf_X2_addressOf : GoodIn wsX3_leaf wsX2_addressOf := goodIn_r _ [20, 21, 50, 51, 52, 53, 54, 55, 56, 57, 58] (by decide +kernel) (by decide +kernel)
set_option maxRecDepth 20000 in
theorem gX3_leaf_X2_addressOf : GoodIn wsX3_leaf (wsV RX3 157 RX2 yX2_addressOf wsX2_addressOf) := goodIn_app (goodIn_of _ (by decide +kernel)) ggX3_leaf_X2_addressOf
set_option maxRecDepth 20000 in
theorem ggX3_leaf_X2_kindOf : GoodIn wsX3_leaf wsX2_kindOf := goodIn_r _ [25, 26, 50, 51, 52, 53, 54, 55, 56, 57, 58] (by decide +kernel) (by decide +kernel)
set_option maxRecDepth 20000 in
theorem gX3_leaf_X2_kindOf : GoodIn wsX3_leaf (wsV RX3 115 RX2 yX2_kindOf wsX2_kindOf) := goodIn_app (goodIn_of _ (by decide +kernel)) ggX3_leaf_X2_kindOf
set_option maxRecDepth 20000 in
theorem ggX3_leaf_X2_requestOf : GoodIn wsX3_leaf wsX2_requestOf := goodIn_r _ [30, 31, 50, 51, 52, 53, 54, 55, 56, 57, 58] (by decide +kernel) (by decide +kernel)
set_option maxRecDepth 20000 in
theorem gX3_leaf_X2_requestOf : GoodIn wsX3_leaf (wsV RX3 120 RX2 yX2_requestOf wsX2_requestOf) := goodIn_app (goodIn_of _ (by decide +kernel)) ggX3_leaf_X2_requestOf
set_option maxRecDepth 20000 in
theorem ggX3_count_X3_requireMemory : GoodIn wsX3_count wsX3_requireMemory := goodIn_ca (goodIn_r _ [6, 7, 8, 9, 63, 64, 65, 66, 67] (by decide +kernel) (by decide +kernel)) (goodIn_sub (fun _ h => List.mem_cons_of_mem _ (List.mem_append_right _ h)) (by decide +kernel))
set_option maxRecDepth 20000 in
theorem gX3_count_X3_requireMemory : GoodIn wsX3_count (wsV RX3 77 RX3 yX3_requireMemory wsX3_requireMemory) := goodIn_app (goodIn_of _ (by decide +kernel)) ggX3_count_X3_requireMemory
set_option maxRecDepth 20000 in
theorem ggX3_count_X0_sizeOf : GoodIn wsX3_count wsX0_sizeOf := goodIn_r _ [14, 15, 16, 17, 18, 19, 20, 21, 22, 68, 69, 70, 71, 72, 73, 74, 75, 76, 77, 78, 79, 80, 81, 82, 83, 84, 85, 86, 87, 88, 89, 90, 91, 92, 93] (by decide +kernel) (by decide +kernel)
set_option maxRecDepth 20000 in
theorem gX3_count_X0_sizeOf : GoodIn wsX3_count (wsV RX3 104 RX0 yX0_sizeOf wsX0_sizeOf) := goodIn_app (goodIn_of _ (by decide +kernel)) ggX3_count_X0_sizeOf
set_option maxRecDepth 20000 in
theorem ggX3_count_X2_unsplitNodes : GoodIn wsX3_count wsX2_unsplitNodes := goodIn_r _ [26, 27, 85, 86, 87, 88, 89, 90, 91, 92, 93] (by decide +kernel) (by decide +kernel)
set_option maxRecDepth 20000 in
theorem gX3_count_X2_unsplitNodes : GoodIn wsX3_count (wsV RX3 170 RX2 yX2_unsplitNodes wsX2_unsplitNodes) := goodIn_app (goodIn_of _ (by decide +kernel)) ggX3_count_X2_unsplitNodes
set_option maxRecDepth 20000 in
theorem ggX3_count_X0_greatestIfJoined : GoodIn wsX3_count wsX0_greatestIfJoined := goodIn_r _ [31, 16, 32, 33, 34, 35, 36, 37, 38, 20, 39, 40, 41, 42, 43, 44, 45, 46, 47, 48, 49, 50, 51, 52, 53, 54, 55, 56, 57, 11, 12, 13, 14, 15, 17, 18, 19, 21, 22, 58, 68, 69, 70, 71, 72, 73, 74, 75, 76, 77, 78, 79, 80, 85, 86, 87, 88, 89, 90, 91, 92, 93, 81, 82, 83, 84] (by decide +kernel) (by decide +kernel)
set_option maxRecDepth 20000 in
theorem gX3_count_X0_greatestIfJoined : GoodIn wsX3_count (wsV RX3 173 RX0 yX0_greatestIfJoined wsX0_greatestIfJoined) := goodIn_app (goodIn_of _ (by decide +kernel)) ggX3_count_X0_greatestIfJoined
set_option maxRecDepth 20000 in
theorem ggX3_count_X0_freeNodesIfJoined : GoodIn wsX3_count wsX0_freeNodesIfJoined := goodIn_r _ [62, 16, 36, 37, 38, 20, 39, 40, 41, 42, 43, 44, 45, 46, 47, 48, 49, 50, 51, 52, 53, 54, 55, 56, 58, 68, 69, 70, 71, 72, 73, 74, 75, 76, 77, 78, 79, 80, 85, 86, 87, 88, 89, 90, 91, 92, 93] (by decide +kernel) (by decide +kernel)
set_option maxRecDepth 20000 in
theorem gX3_count_X0_freeNodesIfJoined : GoodIn wsX3_count (wsV RX3 182 RX0 yX0_freeNodesIfJoined wsX0_freeNodesIfJoined) := goodIn_app (goodIn_of _ (by decide +kernel)) ggX3_count_X0_freeNodesIfJoined
set_option maxRecDepth 20000 in
theorem ggX3_room_X3_requireMemory : GoodIn wsX3_room wsX3_requireMemory := goodIn_ca (goodIn_r _ [6, 7, 8, 9, 64, 65, 66, 67, 68] (by decide +kernel) (by decide +kernel)) (goodIn_sub (fun _ h => List.mem_cons_of_mem _ (List.mem_append_left _ (List.mem_append_right _ h))) (by decide +kernel))
set_option maxRecDepth 20000 in
theorem gX3_room_X3_requireMemory : GoodIn wsX3_room (wsV RX3 77 RX3 yX3_requireMemory wsX3_requireMemory) := goodIn_app (goodIn_of _ (by decide +kernel)) ggX3_room_X3_requireMemory
set_option maxRecDepth 20000 in
theorem ggX3_room_X3_requireWords : GoodIn wsX3_room wsX3_requireWords := goodIn_ca (goodIn_r _ [12, 13, 14] (by decide +kernel) (by decide +kernel)) (goodIn_sub (fun _ h => List.mem_cons_of_mem _ (List.mem_append_right _ h)) (by decide +kernel))
set_option maxRecDepth 20000 in
theorem gX3_room_X3_requireWords : GoodIn wsX3_room (va_wsS RX3 89 yX3_requireWords wsX3_requireWords) := goodIn_app (goodIn_of _ (by decide +kernel)) ggX3_room_X3_requireWords
set_option maxRecDepth 20000 in
theorem ggX3_room_X0_grantsLeft : GoodIn wsX3_room wsX0_grantsLeft := goodIn_r _ [19, 20, 21, 22, 23, 24, 18, 25, 26, 27, 28, 29, 30, 31, 32, 33, 34, 35, 36, 37, 38, 39, 40, 41, 42, 43, 44, 45, 46, 47, 48, 49, 50, 51, 52, 53, 54, 55, 56, 57, 58, 59, 60, 61, 62, 63, 69, 70, 71, 72, 73, 74, 75, 76, 77, 78, 79, 80, 81, 82, 83, 84, 85, 86, 87, 88, 89, 90, 91, 92, 93, 94] (by decide +kernel) (by decide +kernel)
set_option maxRecDepth 20000 in
theorem gX3_room_X0_grantsLeft : GoodIn wsX3_room (wsV RX3 185 RX0 yX0_grantsLeft wsX0_grantsLeft) := goodIn_app (goodIn_of _ (by decide +kernel)) ggX3_room_X0_grantsLeft
set_option maxRecDepth 20000 in
theorem ggX3_replay_X3_requireMemory : GoodIn wsX3_replay wsX3_requireMemory := goodIn_ca (goodIn_r _ [8, 9, 10, 11, 186, 187, 188, 189, 190] (by decide +kernel) (by decide +kernel)) (goodIn_sub (fun _ h => List.mem_cons_of_mem _ (List.mem_append_right _ h)) (by decide +kernel))
set_option maxRecDepth 20000 in
theorem gX3_replay_X3_requireMemory : GoodIn wsX3_replay (wsV RX3 77 RX3 yX3_requireMemory wsX3_requireMemory) := goodIn_app (goodIn_of _ (by decide +kernel)) ggX3_replay_X3_requireMemory
set_option maxRecDepth 20000 in
theorem ggX3_replay_J7_fill_53178 : GoodIn wsX3_replay wsJ7_fill_53178 := goodIn_r _ [15] (by decide +kernel) (by decide +kernel)
set_option maxRecDepth 20000 in
theorem gX3_replay_J7_fill_53178 : GoodIn wsX3_replay (va_wsS RX3 192 yJ7_fill_53178 wsJ7_fill_53178) := goodIn_app (goodIn_of _ (by decide +kernel)) ggX3_replay_J7_fill_53178
set_option maxRecDepth 20000 in
theorem ggX3_replay_X3_perform : GoodIn wsX3_replay wsX3_perform := goodIn_r _ [19, 20, 3, 21, 22, 23, 24, 25, 26, 27, 28, 29, 30, 31, 32, 33, 34, 35, 36, 37, 38, 39, 40, 41, 42, 43, 44, 45, 46, 47, 48, 49, 50, 51, 52, 53, 54, 55, 56, 57, 58, 59, 60, 61, 62, 63, 64, 65, 66, 67, 68, 69, 70, 71, 72, 73, 74, 75, 76, 77, 78, 79, 80, 81, 82, 83, 84, 85, 86, 87, 88, 89, 90, 91, 92, 93, 94, 95, 96, 97, 98, 99, 100, 101, 102, 103, 104, 105, 106, 107, 108, 109, 110, 111, 112, 113, 114, 115, 116, 117, 118, 119, 120, 14, 121, 122, 123, 124, 125, 126, 127, 128, 129, 130, 131, 132, 133, 134, 135, 136, 137, 138, 139, 140, 141, 142, 143, 144, 145, 146, 147, 148, 149, 150, 151, 152, 153, 154, 155, 156, 157, 158, 7, 159, 160, 161, 162, 163, 164, 165, 166, 167, 168, 169, 170, 171, 172, 173, 174, 175, 176, 177, 178, 179, 180, 181, 182, 183, 184, 185, 186, 187, 188, 189, 190, 191, 192, 193, 194, 195, 196, 197, 198, 199, 200, 201, 202, 203, 204, 205, 206, 207, 208, 209, 210, 211, 212, 213, 214, 215, 216] (by decide +kernel) (by decide +kernel)
set_option maxRecDepth 20000 in
theorem gX3_replay_X3_perform : GoodIn wsX3_replay (wsV RX3 198 RX3 yX3_perform wsX3_perform) := goodIn_app (goodIn_of _ (by decide +kernel)) ggX3_replay_X3_perform
set_option maxRecDepth 20000 in
theorem ggX3_perform_X0_isFull : GoodIn wsX3_perform wsX0_isFull := goodIn_r _ [8, 9, 175, 176, 177, 178, 179, 180, 181, 182, 183, 184, 185, 186, 187] (by decide +kernel) (by decide +kernel)
set_option maxRecDepth 20000 in
theorem gX3_perform_X0_isFull : GoodIn wsX3_perform (wsV RX3 80 RX0 yX0_isFull wsX0_isFull) := goodIn_app (goodIn_of _ (by decide +kernel)) ggX3_perform_X0_isFull
set_option maxRecDepth 20000 in
theorem ggX3_perform_X0_grant : GoodIn wsX3_perform wsX0_grant := goodIn_r _ [13, 14, 15, 9, 16, 17, 18, 19, 20, 7, 21, 22, 23, 24, 25, 26, 27, 28, 29, 30, 31, 32, 33, 34, 35, 36, 37, 38, 39, 40, 41, 42, 43, 44, 45, 46, 47, 48, 49, 50, 51, 52, 53, 54, 55, 56, 57, 58, 59, 60, 61, 62, 63, 64, 65, 66, 67, 68, 69, 70, 71, 72, 73, 74, 75, 76, 77, 78, 79, 80, 81, 82, 83, 84, 85, 86, 87, 88, 89, 90, 91, 92, 93, 94, 95, 96, 97, 98, 99, 100, 101, 102, 103, 104, 105, 106, 107, 108, 109, 110, 111, 112, 113, 114, 115, 116, 117, 118, 119, 120, 121, 122, 123, 124, 125, 126, 127, 128, 129, 130, 131, 132, 133, 134, 135, 136, 137, 175, 176, 177, 178, 179, 180, 181, 182, 183, 184, 185, 186, 187, 188, 189, 190, 191, 192, 193, 194, 195, 196, 197, 198, 199, 200] (by decide +kernel) (by decide +kernel)
set_option maxRecDepth 20000 in
theorem gX3_perform_X0_grant : GoodIn wsX3_perform (wsV RX3 92 RX0 yX0_grant wsX0_grant) := goodIn_app (goodIn_of _ (by decide +kernel)) ggX3_perform_X0_grant
set_option maxRecDepth 20000 in
theorem ggX3_perform_X0_uniteAll : GoodIn wsX3_perform wsX0_uniteAll := goodIn_r _ [39, 40, 15, 41, 42, 43, 28, 44, 30, 35, 45, 46, 47, 48, 49, 50, 51, 52, 53, 54, 55, 56, 57, 58, 59, 60, 61, 7, 62, 14, 63, 64, 65, 66, 67, 68, 69, 70, 71, 72, 73, 74, 75, 76, 77, 78, 79, 80, 81, 82, 175, 176, 177, 178, 179, 180, 181, 182, 183, 184, 185, 186, 187, 192, 193, 194, 195, 196, 197, 198, 199, 200] (by decide +kernel) (by decide +kernel)
set_option maxRecDepth 20000 in
theorem gX3_perform_X0_uniteAll : GoodIn wsX3_perform (wsV RX3 142 RX0 yX0_uniteAll wsX0_uniteAll) := goodIn_app (goodIn_of _ (by decide +kernel)) ggX3_perform_X0_uniteAll
set_option maxRecDepth 20000 in
theorem ggX3_perform_X3_takeBack : GoodIn wsX3_perform wsX3_takeBack := goodIn_r _ [143, 2, 3, 144, 145, 146, 7, 147, 9, 16, 15, 17, 14, 148, 149, 150, 28, 151, 53, 134, 135, 136, 137, 24, 67, 68, 69, 70, 71, 133, 129, 130, 131, 30, 132, 152, 153, 154, 155, 156, 157, 158, 159, 160, 161, 162, 163, 164, 165, 50, 51, 52, 35, 166, 167, 168, 169, 76, 59, 60, 61, 62, 40, 63, 64, 65, 66, 72, 73, 74, 75, 77, 78, 79, 80, 81, 82, 45, 46, 47, 48, 49, 170, 171, 172, 173, 174, 175, 176, 177, 178, 179, 180, 181, 182, 183, 184, 185, 186, 187, 192, 193, 194, 195, 196, 197, 198, 199, 200, 188, 189, 190, 191] (by decide +kernel) (by decide +kernel)
set_option maxRecDepth 20000 in
theorem gX3_perform_X3_takeBack : GoodIn wsX3_perform (wsV RX3 201 RX3 yX3_takeBack wsX3_takeBack) := goodIn_app (goodIn_of _ (by decide +kernel)) ggX3_perform_X3_takeBack
set_option maxRecDepth 20000 in
theorem ggX3_takeBack_X0_release : GoodIn wsX3_takeBack wsX0_release := goodIn_r _ [7, 8, 9, 10, 11, 12, 13, 14, 15, 16, 17, 18, 19, 20, 21, 6, 22, 23, 24, 25, 26, 27, 28, 29, 30, 31, 32, 33, 34, 35, 36, 37, 38, 39, 40, 41, 42, 43, 44, 45, 46, 47, 48, 49, 50, 51, 52, 53, 54, 55, 56, 57, 58, 59, 60, 61, 62, 63, 64, 65, 66, 67, 68, 69, 70, 71, 72, 73, 74, 75, 76, 77, 78, 79, 80, 81, 87, 88, 89, 90, 91, 92, 93, 94, 95, 96, 97, 98, 99, 100, 101, 102, 103, 104, 105, 106, 107, 108, 109, 110, 111, 112] (by decide +kernel) (by decide +kernel)
set_option maxRecDepth 20000 in
theorem gX3_takeBack_X0_release : GoodIn wsX3_takeBack (wsV RX3 101 RX0 yX0_release wsX0_release) := goodIn_app (goodIn_of _ (by decide +kernel)) ggX3_takeBack_X0_release
