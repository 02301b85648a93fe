set_option maxRecDepth 20000 in
theorem ggX3_init_X1_init : GoodIn wsX3_init wsX1_init := goodIn_r _ [17, 18, 2, 3, 12, 19, 20, 21, 22, 55, 56, 57, 58] (by decide +kernel) (by decide +kernel)
set_option maxRecDepth 20000 in
theorem gX3_init_X1_init_n11 : GoodIn wsX3_init (wsX1_init) := ggX3_init_X1_init
set_option maxRecDepth 20000 in
theorem ggX3_init_X0_init : GoodIn wsX3_init wsX0_init := goodIn_r _ [24, 25, 2, 3, 26, 5, 6, 27, 28, 29, 30, 31, 12, 32, 33, 34, 35, 36, 37, 38, 39, 40, 41, 42, 16, 17, 18, 19, 20, 21, 22, 43, 44, 45, 46, 47, 48, 49, 50, 51, 52, 53, 54, 55, 56, 57, 58, 64, 65, 66, 67, 68, 69, 70, 71, 72, 73, 74, 75, 76, 77, 78, 79, 80, 81, 82, 83, 84, 85] (by decide +kernel) (by decide +kernel)
set_option maxRecDepth 20000 in
theorem gX3_init_X0_init_n18 : GoodIn wsX3_init (wsX0_init) := ggX3_init_X0_init
set_option maxRecDepth 20000 in
theorem ggX3_row_X3_requireClass : GoodIn wsX3_row wsX3_requireClass := goodIn_ca (goodIn_r _ [5, 6, 7, 8, 9, 4, 10] (by decide +kernel) (by decide +kernel)) (goodIn_sub (fun _ h => List.mem_cons_of_mem _ (List.mem_append_right _ h)) (by decide +kernel))
set_option maxRecDepth 20000 in
theorem gX3_row_X3_requireClass : GoodIn wsX3_row (va_wsS RX3 34 yX3_requireClass wsX3_requireClass) := goodIn_app (goodIn_of _ (by decide +kernel)) ggX3_row_X3_requireClass
set_option maxRecDepth 20000 in
theorem ggX3_row_X1_tell : GoodIn wsX3_row wsX1_tell := goodIn_r _ [15, 16, 17, 18, 24, 25, 26, 27] (by decide +kernel) (by decide +kernel)
set_option maxRecDepth 20000 in
theorem gX3_row_X1_tell : GoodIn wsX3_row (wsV RX3 38 RX1 yX1_tell wsX1_tell) := goodIn_app (goodIn_of _ (by decide +kernel)) ggX3_row_X1_tell
set_option maxRecDepth 20000 in
theorem ggX3_family_X3_requireClass : GoodIn wsX3_family wsX3_requireClass := goodIn_ca (goodIn_r _ [7, 1, 2, 8, 9, 6, 10] (by decide +kernel) (by decide +kernel)) (goodIn_sub (fun _ h => List.mem_cons_of_mem _ (List.mem_append_right _ h)) (by decide +kernel))
set_option maxRecDepth 20000 in
theorem gX3_family_X3_requireClass : GoodIn wsX3_family (va_wsS RX3 34 yX3_requireClass wsX3_requireClass) := goodIn_app (goodIn_of _ (by decide +kernel)) ggX3_family_X3_requireClass
set_option maxRecDepth 20000 in
theorem ggX3_family_X3_isSize : GoodIn wsX3_family wsX3_isSize := goodIn_r _ [13, 14] (by decide +kernel) (by decide +kernel)
set_option maxRecDepth 20000 in
theorem gX3_family_X3_isSize : GoodIn wsX3_family (va_wsS RX3 49 yX3_isSize wsX3_isSize) := goodIn_app (goodIn_of _ (by decide +kernel)) ggX3_family_X3_isSize
set_option maxRecDepth 20000 in
theorem ggX3_family_X1_tellFamily : GoodIn wsX3_family wsX1_tellFamily := goodIn_r _ [19, 20, 21, 22, 23, 18, 24, 25, 26, 27, 28, 29, 30, 31, 32, 33, 34, 40, 41, 42, 43] (by decide +kernel) (by decide +kernel)
set_option maxRecDepth 20000 in
theorem gX3_family_X1_tellFamily : GoodIn wsX3_family (wsV RX3 55 RX1 yX1_tellFamily wsX1_tellFamily) := goodIn_app (goodIn_of _ (by decide +kernel)) ggX3_family_X1_tellFamily
set_option maxRecDepth 20000 in
theorem ggX3_keep_X3_requireMemory : GoodIn wsX3_keep wsX3_requireMemory := goodIn_ca (goodIn_r _ [8, 9, 10, 11, 25, 26, 27, 28, 29] (by decide +kernel) (by decide +kernel)) (goodIn_sub (fun _ h => List.mem_cons_of_mem _ (List.mem_append_right _ h)) (by decide +kernel))
set_option maxRecDepth 20000 in
theorem gX3_keep_X3_requireMemory : GoodIn wsX3_keep (wsV RX3 77 RX3 yX3_requireMemory wsX3_requireMemory) := goodIn_app (goodIn_of _ (by decide +kernel)) ggX3_keep_X3_requireMemory
set_option maxRecDepth 20000 in
theorem ggX3_keep_X3_requireReached : GoodIn wsX3_keep wsX3_requireReached := goodIn_ca (goodIn_r _ [15, 1, 2, 3, 16, 17, 7, 18, 19, 20, 21, 22, 23, 24, 25, 26, 27, 28, 29, 30, 31, 32, 33, 34, 35, 36, 37, 38, 39, 40, 41, 42] (by decide +kernel) (by decide +kernel)) (goodIn_sub (fun _ h => List.mem_cons_of_mem _ (List.mem_append_left _ (List.mem_append_right _ h))) (by decide +kernel))
set_option maxRecDepth 20000 in
theorem gX3_keep_X3_requireReached : GoodIn wsX3_keep (wsV RX3 134 RX3 yX3_requireReached wsX3_requireReached) := goodIn_app (goodIn_of _ (by decide +kernel)) ggX3_keep_X3_requireReached
set_option maxRecDepth 20000 in
theorem ggX3_join_X3_requireMemory : GoodIn wsX3_join wsX3_requireMemory := goodIn_ca (goodIn_r _ [6, 7, 8, 9, 63, 64, 65, 66, 67] (by decide +kernel) (by decide +kernel)) (goodIn_sub (fun _ h => List.mem_cons_of_mem _ (List.mem_append_right _ h)) (by decide +kernel))
set_option maxRecDepth 20000 in
theorem gX3_join_X3_requireMemory : GoodIn wsX3_join (wsV RX3 77 RX3 yX3_requireMemory wsX3_requireMemory) := goodIn_app (goodIn_of _ (by decide +kernel)) ggX3_join_X3_requireMemory
set_option maxRecDepth 20000 in
theorem ggX3_join_X0_uniteAll : GoodIn wsX3_join wsX0_uniteAll := goodIn_r _ [14, 15, 16, 17, 18, 19, 20, 21, 22, 23, 24, 25, 26, 27, 28, 29, 30, 31, 32, 33, 34, 35, 36, 37, 38, 39, 40, 13, 41, 42, 43, 44, 45, 46, 47, 48, 49, 50, 51, 52, 53, 54, 55, 56, 57, 58, 59, 60, 61, 62, 68, 69, 70, 71, 72, 73, 74, 75, 76, 77, 78, 79, 80, 81, 82, 83, 84, 85, 86, 87, 88, 89] (by decide +kernel) (by decide +kernel)
set_option maxRecDepth 20000 in
theorem gX3_join_X0_uniteAll : GoodIn wsX3_join (wsV RX3 142 RX0 yX0_uniteAll wsX0_uniteAll) := goodIn_app (goodIn_of _ (by decide +kernel)) ggX3_join_X0_uniteAll
set_option maxRecDepth 20000 in
theorem ggX3_addressOrNone_X2_addressOf : GoodIn wsX3_addressOrNone wsX2_addressOf := goodIn_r _ [6, 7, 26, 27, 28, 29, 30, 31, 32, 33, 34] (by decide +kernel) (by decide +kernel)
set_option maxRecDepth 20000 in
theorem gX3_addressOrNone_X2_addressOf : GoodIn wsX3_addressOrNone (wsV RX3 157 RX2 yX2_addressOf wsX2_addressOf) := goodIn_app (goodIn_of _ (by decide +kernel)) ggX3_addressOrNone_X2_addressOf
set_option maxRecDepth 20000 in
theorem ggX3_requireBlock_X3_requireMemory : GoodIn wsX3_requireBlock wsX3_requireMemory := goodIn_ca (goodIn_r _ [8, 9, 10, 11, 20, 21, 22, 23, 24] (by decide +kernel) (by decide +kernel)) (goodIn_sub (fun _ h => List.mem_cons_of_mem _ (List.mem_append_right _ h)) (by decide +kernel))
set_option maxRecDepth 20000 in
theorem gX3_requireBlock_X3_requireMemory : GoodIn wsX3_requireBlock (wsV RX3 77 RX3 yX3_requireMemory wsX3_requireMemory) := goodIn_app (goodIn_of _ (by decide +kernel)) ggX3_requireBlock_X3_requireMemory
set_option maxRecDepth 20000 in
theorem ggX3_requireBlock_X2_liveAt : GoodIn wsX3_requireBlock wsX2_liveAt := goodIn_r _ [16, 17, 18, 19, 38, 39, 40, 41, 42, 43, 44, 45, 46] (by decide +kernel) (by decide +kernel)
set_option maxRecDepth 20000 in
theorem gX3_requireBlock_X2_liveAt : GoodIn wsX3_requireBlock (wsV RX3 206 RX2 yX2_liveAt wsX2_liveAt) := goodIn_app (goodIn_of _ (by decide +kernel)) ggX3_requireBlock_X2_liveAt
set_option maxRecDepth 20000 in
theorem ggX3_requireReached_X3_isClass : GoodIn wsX3_requireReached wsX3_isClass := goodIn_r _ [7] (by decide +kernel) (by decide +kernel)
set_option maxRecDepth 20000 in
theorem gX3_requireReached_X3_isClass : GoodIn wsX3_requireReached (va_wsS RX3 211 yX3_isClass wsX3_isClass) := goodIn_app (goodIn_of _ (by decide +kernel)) ggX3_requireReached_X3_isClass
set_option maxRecDepth 20000 in
theorem ggX3_requireReached_X0_reaches : GoodIn wsX3_requireReached wsX0_reaches := goodIn_r _ [12, 13, 19, 20, 21, 22, 23, 24, 25, 26, 27, 28, 29, 30, 31] (by decide +kernel) (by decide +kernel)
set_option maxRecDepth 20000 in
theorem gX3_requireReached_X0_reaches : GoodIn wsX3_requireReached (wsV RX3 214 RX0 yX0_reaches wsX0_reaches) := goodIn_app (goodIn_of _ (by decide +kernel)) ggX3_requireReached_X0_reaches
set_option maxRecDepth 20000 in
theorem ggX3_requireClass_X3_isClass : GoodIn wsX3_requireClass wsX3_isClass := goodIn_r _ [6] (by decide +kernel) (by decide +kernel)
set_option maxRecDepth 20000 in
theorem gX3_requireClass_X3_isClass : GoodIn wsX3_requireClass (va_wsS RX3 211 yX3_isClass wsX3_isClass) := goodIn_app (goodIn_of _ (by decide +kernel)) ggX3_requireClass_X3_isClass
