set_option maxRecDepth 20000 in
theorem ggX0_init_X1_init : GoodIn wsX0_init wsX1_init := goodIn_r _ [25, 26, 2, 3, 12, 27, 28, 29, 30, 43, 44, 45, 46] (by decide +kernel) (by decide +kernel)
set_option maxRecDepth 20000 in
theorem gX0_init_X1_init_n11 : GoodIn wsX0_init (wsX1_init) := ggX0_init_X1_init
set_option maxRecDepth 20000 in
theorem ggX0_init_X2_init : GoodIn wsX0_init wsX2_init := goodIn_r _ [32, 33, 2, 3, 12, 34, 35, 36, 37, 38, 39, 40, 41, 42, 60, 61, 62, 63, 64, 65, 66, 67, 68] (by decide +kernel) (by decide +kernel)
set_option maxRecDepth 20000 in
theorem gX0_init_X2_init_n20 : GoodIn wsX0_init (wsX2_init) := ggX0_init_X2_init
set_option maxRecDepth 20000 in
theorem ggX0_begin_X1_copyFrom : GoodIn wsX0_begin wsX1_copyFrom := goodIn_r _ [15, 16, 17, 18, 19, 20, 21, 22, 74, 75, 76, 77] (by decide +kernel) (by decide +kernel)
set_option maxRecDepth 20000 in
theorem gX0_begin_X1_copyFrom : GoodIn wsX0_begin (wsV RX0 60 RX1 yX1_copyFrom wsX1_copyFrom) := goodIn_app (goodIn_of _ (by decide +kernel)) ggX0_begin_X1_copyFrom
set_option maxRecDepth 20000 in
theorem ggX0_begin_X2_begin : GoodIn wsX0_begin wsX2_begin := goodIn_r _ [27, 28, 29, 30, 31, 32, 26, 33, 34, 35, 36, 37, 38, 39, 40, 41, 42, 43, 44, 45, 78, 79, 80, 81, 82, 83, 84, 85, 86] (by decide +kernel) (by decide +kernel)
set_option maxRecDepth 20000 in
theorem gX0_begin_X2_begin : GoodIn wsX0_begin (wsV RX0 64 RX2 yX2_begin wsX2_begin) := goodIn_app (goodIn_of _ (by decide +kernel)) ggX0_begin_X2_begin
set_option maxRecDepth 20000 in
theorem ggX0_begin_J7_fill_53178 : GoodIn wsX0_begin wsJ7_fill_53178 := goodIn_r _ [49] (by decide +kernel) (by decide +kernel)
set_option maxRecDepth 20000 in
theorem gX0_begin_J7_fill_53178 : GoodIn wsX0_begin (va_wsS RX0 68 yJ7_fill_53178 wsJ7_fill_53178) := goodIn_app (goodIn_of _ (by decide +kernel)) ggX0_begin_J7_fill_53178
set_option maxRecDepth 20000 in
theorem ggX0_begin_X0_sortBySize : GoodIn wsX0_begin wsX0_sortBySize := goodIn_r _ [54, 55, 1, 56, 57, 58, 59, 53, 60, 5, 61, 62, 63, 64, 65, 66, 67, 68, 69, 70, 71, 72, 73, 74, 75, 76, 77] (by decide +kernel) (by decide +kernel)
set_option maxRecDepth 20000 in
theorem gX0_begin_X0_sortBySize : GoodIn wsX0_begin (wsV RX0 74 RX0 yX0_sortBySize wsX0_sortBySize) := goodIn_app (goodIn_of _ (by decide +kernel)) ggX0_begin_X0_sortBySize
set_option maxRecDepth 20000 in
theorem ggX0_sizeOf_X2_kindOf : GoodIn wsX0_sizeOf wsX2_kindOf := goodIn_r _ [7, 8, 26, 27, 28, 29, 30, 31, 32, 33, 34] (by decide +kernel) (by decide +kernel)
set_option maxRecDepth 20000 in
theorem gX0_sizeOf_X2_kindOf : GoodIn wsX0_sizeOf (wsV RX0 80 RX2 yX2_kindOf wsX2_kindOf) := goodIn_app (goodIn_of _ (by decide +kernel)) ggX0_sizeOf_X2_kindOf
set_option maxRecDepth 20000 in
theorem ggX0_grant_X0_tightest : GoodIn wsX0_grant wsX0_tightest := goodIn_r _ [10, 11, 12, 13, 2, 14, 15, 16, 17, 18, 19, 20, 21, 22, 23, 24, 127, 128, 129, 130, 131, 132, 133, 134, 135, 136, 137, 138, 139, 140, 141, 142, 143, 144, 145, 146, 147, 148, 149, 150, 151, 152] (by decide +kernel) (by decide +kernel)
set_option maxRecDepth 20000 in
theorem gX0_grant_X0_tightest : GoodIn wsX0_grant (wsV RX0 84 RX0 yX0_tightest wsX0_tightest) := goodIn_app (goodIn_of _ (by decide +kernel)) ggX0_grant_X0_tightest
set_option maxRecDepth 20000 in
theorem ggX0_grant_X0_uniteAll : GoodIn wsX0_grant wsX0_uniteAll := goodIn_r _ [28, 29, 2, 30, 31, 32, 17, 33, 19, 24, 34, 35, 36, 37, 38, 39, 40, 41, 42, 43, 44, 45, 46, 47, 48, 49, 50, 9, 51, 1, 52, 53, 54, 55, 56, 57, 58, 59, 60, 61, 62, 63, 64, 65, 66, 67, 68, 69, 70, 71, 127, 128, 129, 130, 131, 132, 133, 134, 135, 136, 137, 138, 139, 144, 145, 146, 147, 148, 149, 150, 151, 152] (by decide +kernel) (by decide +kernel)
set_option maxRecDepth 20000 in
theorem gX0_grant_X0_uniteAll : GoodIn wsX0_grant (wsV RX0 87 RX0 yX0_uniteAll wsX0_uniteAll) := goodIn_app (goodIn_of _ (by decide +kernel)) ggX0_grant_X0_uniteAll
set_option maxRecDepth 20000 in
theorem ggX0_grant_X0_carve : GoodIn wsX0_grant wsX0_carve := goodIn_r _ [75, 2, 13, 1, 76, 77, 78, 79, 9, 80, 56, 57, 58, 17, 59, 60, 81, 82, 83, 84, 66, 47, 65, 85, 24, 86, 87, 88, 89, 42, 19, 67, 90, 91, 92, 93, 94, 95, 96, 97, 98, 99, 100, 101, 102, 103, 104, 105, 106, 107, 108, 109, 110, 111, 112, 113, 114, 115, 116, 117, 118, 119, 120, 121, 52, 53, 54, 55, 127, 128, 129, 130, 131, 132, 133, 134, 135, 136, 137, 138, 139, 140, 141, 142, 143, 144, 145, 146, 147, 148, 149, 150, 151, 152] (by decide +kernel) (by decide +kernel)
set_option maxRecDepth 20000 in
theorem gX0_grant_X0_carve : GoodIn wsX0_grant (wsV RX0 91 RX0 yX0_carve wsX0_carve) := goodIn_app (goodIn_of _ (by decide +kernel)) ggX0_grant_X0_carve
set_option maxRecDepth 20000 in
theorem ggX0_grant_X2_kindOf : GoodIn wsX0_grant wsX2_kindOf := goodIn_r _ [59, 60, 144, 145, 146, 147, 148, 149, 150, 151, 152] (by decide +kernel) (by decide +kernel)
set_option maxRecDepth 20000 in
theorem gX0_grant_X2_kindOf : GoodIn wsX0_grant (wsV RX0 80 RX2 yX2_kindOf wsX2_kindOf) := goodIn_app (goodIn_of _ (by decide +kernel)) ggX0_grant_X2_kindOf
set_option maxRecDepth 20000 in
theorem ggX0_grant_X2_setRequest : GoodIn wsX0_grant wsX2_setRequest := goodIn_r _ [120, 42, 19, 60, 121, 144, 145, 146, 147, 148, 149, 150, 151, 152] (by decide +kernel) (by decide +kernel)
set_option maxRecDepth 20000 in
theorem gX0_grant_X2_setRequest : GoodIn wsX0_grant (wsV RX0 95 RX2 yX2_setRequest wsX2_setRequest) := goodIn_app (goodIn_of _ (by decide +kernel)) ggX0_grant_X2_setRequest
set_option maxRecDepth 20000 in
theorem ggX0_grant_X2_refreshAbove : GoodIn wsX0_grant wsX2_refreshAbove := goodIn_r _ [71, 65, 24, 19, 67, 34, 35, 36, 17, 37, 38, 39, 40, 41, 42, 144, 145, 146, 147, 148, 149, 150, 151, 152] (by decide +kernel) (by decide +kernel)
set_option maxRecDepth 20000 in
theorem gX0_grant_X2_refreshAbove : GoodIn wsX0_grant (wsV RX0 99 RX2 yX2_refreshAbove wsX2_refreshAbove) := goodIn_app (goodIn_of _ (by decide +kernel)) ggX0_grant_X2_refreshAbove
set_option maxRecDepth 20000 in
theorem ggX0_grant_X0_sizeOf : GoodIn wsX0_grant wsX0_sizeOf := goodIn_r _ [126, 13, 2, 56, 57, 58, 17, 59, 60, 127, 128, 129, 130, 131, 132, 133, 134, 135, 136, 137, 138, 139, 140, 141, 142, 143, 144, 145, 146, 147, 148, 149, 150, 151, 152] (by decide +kernel) (by decide +kernel)
set_option maxRecDepth 20000 in
theorem gX0_grant_X0_sizeOf : GoodIn wsX0_grant (wsV RX0 102 RX0 yX0_sizeOf wsX0_sizeOf) := goodIn_app (goodIn_of _ (by decide +kernel)) ggX0_grant_X0_sizeOf
set_option maxRecDepth 20000 in
theorem ggX0_renew_X2_requestOf : GoodIn wsX0_renew wsX2_requestOf := goodIn_r _ [7, 8, 29, 30, 31, 32, 33, 34, 35, 36, 37] (by decide +kernel) (by decide +kernel)
set_option maxRecDepth 20000 in
theorem gX0_renew_X2_requestOf : GoodIn wsX0_renew (wsV RX0 105 RX2 yX2_requestOf wsX2_requestOf) := goodIn_app (goodIn_of _ (by decide +kernel)) ggX0_renew_X2_requestOf
set_option maxRecDepth 20000 in
theorem ggX0_renew_X2_setRequest : GoodIn wsX0_renew wsX2_setRequest := goodIn_r _ [12, 8, 13, 14, 15, 29, 30, 31, 32, 33, 34, 35, 36, 37] (by decide +kernel) (by decide +kernel)
set_option maxRecDepth 20000 in
theorem gX0_renew_X2_setRequest : GoodIn wsX0_renew (wsV RX0 95 RX2 yX2_setRequest wsX2_setRequest) := goodIn_app (goodIn_of _ (by decide +kernel)) ggX0_renew_X2_setRequest
set_option maxRecDepth 20000 in
theorem ggX0_release_X2_requestOf : GoodIn wsX0_release wsX2_requestOf := goodIn_r _ [10, 11, 89, 90, 91, 92, 93, 94, 95, 96, 97] (by decide +kernel) (by decide +kernel)
set_option maxRecDepth 20000 in
theorem gX0_release_X2_requestOf : GoodIn wsX0_release (wsV RX0 105 RX2 yX2_requestOf wsX2_requestOf) := goodIn_app (goodIn_of _ (by decide +kernel)) ggX0_release_X2_requestOf
set_option maxRecDepth 20000 in
theorem ggX0_release_X0_sizeOf : GoodIn wsX0_release wsX0_sizeOf := goodIn_r _ [16, 17, 3, 18, 19, 20, 9, 21, 22, 76, 77, 78, 79, 80, 81, 82, 83, 84, 85, 86, 87, 88, 98, 99, 100, 101, 89, 90, 91, 92, 93, 94, 95, 96, 97] (by decide +kernel) (by decide +kernel)
set_option maxRecDepth 20000 in
theorem gX0_release_X0_sizeOf : GoodIn wsX0_release (wsV RX0 102 RX0 yX0_sizeOf wsX0_sizeOf) := goodIn_app (goodIn_of _ (by decide +kernel)) ggX0_release_X0_sizeOf
set_option maxRecDepth 20000 in
theorem ggX0_release_X2_setRequest : GoodIn wsX0_release wsX2_setRequest := goodIn_r _ [26, 11, 27, 22, 28, 89, 90, 91, 92, 93, 94, 95, 96, 97] (by decide +kernel) (by decide +kernel)
set_option maxRecDepth 20000 in
theorem gX0_release_X2_setRequest : GoodIn wsX0_release (wsV RX0 95 RX2 yX2_setRequest wsX2_setRequest) := goodIn_app (goodIn_of _ (by decide +kernel)) ggX0_release_X2_setRequest
set_option maxRecDepth 20000 in
theorem ggX0_release_X2_kindOf : GoodIn wsX0_release wsX2_kindOf := goodIn_r _ [21, 22, 89, 90, 91, 92, 93, 94, 95, 96, 97] (by decide +kernel) (by decide +kernel)
set_option maxRecDepth 20000 in
theorem gX0_release_X2_kindOf : GoodIn wsX0_release (wsV RX0 80 RX2 yX2_kindOf wsX2_kindOf) := goodIn_app (goodIn_of _ (by decide +kernel)) ggX0_release_X2_kindOf
set_option maxRecDepth 20000 in
theorem ggX0_release_X0_uniteUpward : GoodIn wsX0_release wsX0_uniteUpward := goodIn_r _ [32, 3, 18, 19, 20, 9, 21, 22, 33, 34, 35, 15, 36, 5, 37, 38, 39, 40, 41, 42, 43, 44, 45, 46, 11, 47, 48, 49, 50, 51, 52, 53, 54, 55, 56, 57, 58, 59, 60, 61, 62, 63, 64, 65, 66, 27, 76, 77, 78, 79, 80, 81, 82, 83, 84, 85, 86, 87, 88, 89, 90, 91, 92, 93, 94, 95, 96, 97] (by decide +kernel) (by decide +kernel)
set_option maxRecDepth 20000 in
theorem gX0_release_X0_uniteUpward : GoodIn wsX0_release (wsV RX0 108 RX0 yX0_uniteUpward wsX0_uniteUpward) := goodIn_app (goodIn_of _ (by decide +kernel)) ggX0_release_X0_uniteUpward
set_option maxRecDepth 20000 in
theorem ggX0_release_X2_refreshAbove : GoodIn wsX0_release wsX2_refreshAbove := goodIn_r _ [70, 51, 46, 27, 66, 71, 72, 73, 9, 74, 75, 43, 44, 45, 11, 89, 90, 91, 92, 93, 94, 95, 96, 97] (by decide +kernel) (by decide +kernel)
set_option maxRecDepth 20000 in
theorem gX0_release_X2_refreshAbove : GoodIn wsX0_release (wsV RX0 99 RX2 yX2_refreshAbove wsX2_refreshAbove) := goodIn_app (goodIn_of _ (by decide +kernel)) ggX0_release_X2_refreshAbove
set_option maxRecDepth 20000 in
theorem ggX0_uniteAll_X2_joinable : GoodIn wsX0_uniteAll wsX2_joinable := goodIn_r _ [7, 8, 9, 10, 11, 12, 6, 13, 14, 15, 16, 17, 18, 63, 64, 65, 66, 67, 68, 69, 70, 71] (by decide +kernel) (by decide +kernel)
set_option maxRecDepth 20000 in
theorem gX0_uniteAll_X2_joinable : GoodIn wsX0_uniteAll (wsV RX0 111 RX2 yX2_joinable wsX2_joinable) := goodIn_app (goodIn_of _ (by decide +kernel)) ggX0_uniteAll_X2_joinable
set_option maxRecDepth 20000 in
theorem ggX0_uniteAll_X2_made : GoodIn wsX0_uniteAll wsX2_made := goodIn_r _ [22, 23, 63, 64, 65, 66, 67, 68, 69, 70, 71] (by decide +kernel) (by decide +kernel)
set_option maxRecDepth 20000 in
theorem gX0_uniteAll_X2_made : GoodIn wsX0_uniteAll (wsV RX0 114 RX2 yX2_made wsX2_made) := goodIn_app (goodIn_of _ (by decide +kernel)) ggX0_uniteAll_X2_made
set_option maxRecDepth 20000 in
theorem ggX0_uniteAll_X0_unite : GoodIn wsX0_uniteAll wsX0_unite := goodIn_r _ [28, 2, 29, 1, 30, 31, 32, 6, 33, 9, 34, 35, 36, 37, 38, 39, 40, 41, 42, 43, 44, 45, 8, 50, 51, 52, 53, 54, 55, 56, 57, 58, 59, 60, 61, 62, 63, 64, 65, 66, 67, 68, 69, 70, 71] (by decide +kernel) (by decide +kernel)
set_option maxRecDepth 20000 in
theorem gX0_uniteAll_X0_unite : GoodIn wsX0_uniteAll (wsV RX0 117 RX0 yX0_unite wsX0_unite) := goodIn_app (goodIn_of _ (by decide +kernel)) ggX0_uniteAll_X0_unite
set_option maxRecDepth 20000 in
theorem ggX0_uniteAll_X2_refreshAbove : GoodIn wsX0_uniteAll wsX2_refreshAbove := goodIn_r _ [49, 43, 9, 8, 45, 10, 11, 12, 6, 13, 14, 15, 16, 17, 18, 63, 64, 65, 66, 67, 68, 69, 70, 71] (by decide +kernel) (by decide +kernel)
set_option maxRecDepth 20000 in
theorem gX0_uniteAll_X2_refreshAbove : GoodIn wsX0_uniteAll (wsV RX0 99 RX2 yX2_refreshAbove wsX2_refreshAbove) := goodIn_app (goodIn_of _ (by decide +kernel)) ggX0_uniteAll_X2_refreshAbove
set_option maxRecDepth 20000 in
theorem ggX0_greatestIfJoined_X2_wholeFrom : GoodIn wsX0_greatestIfJoined wsX2_wholeFrom := goodIn_r _ [10, 11, 12, 13, 14, 15, 9, 16, 17, 18, 19, 20, 21, 22, 23, 53, 54, 55, 56, 57, 58, 59, 60, 61] (by decide +kernel) (by decide +kernel)
set_option maxRecDepth 20000 in
theorem gX0_greatestIfJoined_X2_wholeFrom : GoodIn wsX0_greatestIfJoined (wsV RX0 120 RX2 yX2_wholeFrom wsX2_wholeFrom) := goodIn_app (goodIn_of _ (by decide +kernel)) ggX0_greatestIfJoined_X2_wholeFrom
set_option maxRecDepth 20000 in
theorem ggX0_greatestIfJoined_X2_made : GoodIn wsX0_greatestIfJoined wsX2_made := goodIn_r _ [27, 11, 53, 54, 55, 56, 57, 58, 59, 60, 61] (by decide +kernel) (by decide +kernel)
set_option maxRecDepth 20000 in
theorem gX0_greatestIfJoined_X2_made : GoodIn wsX0_greatestIfJoined (wsV RX0 114 RX2 yX2_made wsX2_made) := goodIn_app (goodIn_of _ (by decide +kernel)) ggX0_greatestIfJoined_X2_made
set_option maxRecDepth 20000 in
theorem ggX0_greatestIfJoined_X0_sizeOf : GoodIn wsX0_greatestIfJoined wsX0_sizeOf := goodIn_r _ [32, 33, 1, 34, 35, 36, 9, 37, 38, 40, 41, 42, 43, 44, 45, 46, 47, 48, 49, 50, 51, 52, 62, 63, 64, 65, 53, 54, 55, 56, 57, 58, 59, 60, 61] (by decide +kernel) (by decide +kernel)
set_option maxRecDepth 20000 in
theorem gX0_greatestIfJoined_X0_sizeOf : GoodIn wsX0_greatestIfJoined (wsV RX0 102 RX0 yX0_sizeOf wsX0_sizeOf) := goodIn_app (goodIn_of _ (by decide +kernel)) ggX0_greatestIfJoined_X0_sizeOf
set_option maxRecDepth 20000 in
theorem ggX0_greatestIfJoined_X2_behind : GoodIn wsX0_greatestIfJoined wsX2_behind := goodIn_r _ [22, 23, 53, 54, 55, 56, 57, 58, 59, 60, 61] (by decide +kernel) (by decide +kernel)
set_option maxRecDepth 20000 in
theorem gX0_greatestIfJoined_X2_behind : GoodIn wsX0_greatestIfJoined (wsV RX0 128 RX2 yX2_behind wsX2_behind) := goodIn_app (goodIn_of _ (by decide +kernel)) ggX0_greatestIfJoined_X2_behind
set_option maxRecDepth 20000 in
theorem ggX0_freeNodesIfJoined_X2_wholeFrom : GoodIn wsX0_freeNodesIfJoined wsX2_wholeFrom := goodIn_r _ [6, 7, 8, 9, 10, 11, 5, 12, 13, 14, 15, 16, 17, 18, 19, 38, 39, 40, 41, 42, 43, 44, 45, 46] (by decide +kernel) (by decide +kernel)
set_option maxRecDepth 20000 in
theorem gX0_freeNodesIfJoined_X2_wholeFrom : GoodIn wsX0_freeNodesIfJoined (wsV RX0 120 RX2 yX2_wholeFrom wsX2_wholeFrom) := goodIn_app (goodIn_of _ (by decide +kernel)) ggX0_freeNodesIfJoined_X2_wholeFrom
set_option maxRecDepth 20000 in
theorem ggX0_freeNodesIfJoined_X2_made : GoodIn wsX0_freeNodesIfJoined wsX2_made := goodIn_r _ [23, 7, 38, 39, 40, 41, 42, 43, 44, 45, 46] (by decide +kernel) (by decide +kernel)
set_option maxRecDepth 20000 in
theorem gX0_freeNodesIfJoined_X2_made : GoodIn wsX0_freeNodesIfJoined (wsV RX0 114 RX2 yX2_made wsX2_made) := goodIn_app (goodIn_of _ (by decide +kernel)) ggX0_freeNodesIfJoined_X2_made
set_option maxRecDepth 20000 in
theorem ggX0_freeNodesIfJoined_X2_behind : GoodIn wsX0_freeNodesIfJoined wsX2_behind := goodIn_r _ [18, 19, 38, 39, 40, 41, 42, 43, 44, 45, 46] (by decide +kernel) (by decide +kernel)
set_option maxRecDepth 20000 in
theorem gX0_freeNodesIfJoined_X2_behind : GoodIn wsX0_freeNodesIfJoined (wsV RX0 128 RX2 yX2_behind wsX2_behind) := goodIn_app (goodIn_of _ (by decide +kernel)) ggX0_freeNodesIfJoined_X2_behind
set_option maxRecDepth 20000 in
theorem ggX0_grantsLeft_X0_fillShares : GoodIn wsX0_grantsLeft wsX0_fillShares := goodIn_r _ [7, 8, 9, 2, 10, 11, 12, 13, 14, 46, 47, 48, 49, 50, 51, 52, 53, 54, 55, 56, 57, 58, 59, 60, 61, 62] (by decide +kernel) (by decide +kernel)
set_option maxRecDepth 20000 in
theorem gX0_grantsLeft_X0_fillShares : GoodIn wsX0_grantsLeft (wsV RX0 131 RX0 yX0_fillShares wsX0_fillShares) := goodIn_app (goodIn_of _ (by decide +kernel)) ggX0_grantsLeft_X0_fillShares
set_option maxRecDepth 20000 in
theorem ggX0_grantsLeft_X2_made : GoodIn wsX0_grantsLeft wsX2_made := goodIn_r _ [19, 20, 63, 64, 65, 66, 67, 68, 69, 70, 71] (by decide +kernel) (by decide +kernel)
set_option maxRecDepth 20000 in
theorem gX0_grantsLeft_X2_made : GoodIn wsX0_grantsLeft (wsV RX0 114 RX2 yX2_made wsX2_made) := goodIn_app (goodIn_of _ (by decide +kernel)) ggX0_grantsLeft_X2_made
set_option maxRecDepth 20000 in
theorem ggX0_grantsLeft_X2_childOf : GoodIn wsX0_grantsLeft wsX2_childOf := goodIn_r _ [24, 25, 63, 64, 65, 66, 67, 68, 69, 70, 71] (by decide +kernel) (by decide +kernel)
set_option maxRecDepth 20000 in
theorem gX0_grantsLeft_X2_childOf : GoodIn wsX0_grantsLeft (wsV RX0 134 RX2 yX2_childOf wsX2_childOf) := goodIn_app (goodIn_of _ (by decide +kernel)) ggX0_grantsLeft_X2_childOf
set_option maxRecDepth 20000 in
theorem ggX0_grantsLeft_X0_childHolds : GoodIn wsX0_grantsLeft wsX0_childHolds := goodIn_r _ [29, 1, 10, 30, 31, 32, 18, 33, 34, 46, 47, 48, 49, 50, 51, 52, 53, 54, 55, 56, 57, 58, 59, 60, 61, 62, 63, 64, 65, 66, 67, 68, 69, 70, 71] (by decide +kernel) (by decide +kernel)
set_option maxRecDepth 20000 in
theorem gX0_grantsLeft_X0_childHolds : GoodIn wsX0_grantsLeft (wsV RX0 137 RX0 yX0_childHolds wsX0_childHolds) := goodIn_app (goodIn_of _ (by decide +kernel)) ggX0_grantsLeft_X0_childHolds
set_option maxRecDepth 20000 in
theorem ggX0_grantsLeft_X2_hasLive : GoodIn wsX0_grantsLeft wsX2_hasLive := goodIn_r _ [38, 39, 40, 63, 64, 65, 66, 67, 68, 69, 70, 71] (by decide +kernel) (by decide +kernel)
set_option maxRecDepth 20000 in
theorem gX0_grantsLeft_X2_hasLive : GoodIn wsX0_grantsLeft (wsV RX0 141 RX2 yX2_hasLive wsX2_hasLive) := goodIn_app (goodIn_of _ (by decide +kernel)) ggX0_grantsLeft_X2_hasLive
set_option maxRecDepth 20000 in
theorem ggX0_grantsLeft_X2_kindOf : GoodIn wsX0_grantsLeft wsX2_kindOf := goodIn_r _ [33, 34, 63, 64, 65, 66, 67, 68, 69, 70, 71] (by decide +kernel) (by decide +kernel)
set_option maxRecDepth 20000 in
theorem gX0_grantsLeft_X2_kindOf : GoodIn wsX0_grantsLeft (wsV RX0 80 RX2 yX2_kindOf wsX2_kindOf) := goodIn_app (goodIn_of _ (by decide +kernel)) ggX0_grantsLeft_X2_kindOf
set_option maxRecDepth 20000 in
theorem ggX0_grantsLeft_X2_behind : GoodIn wsX0_grantsLeft wsX2_behind := goodIn_r _ [44, 45, 63, 64, 65, 66, 67, 68, 69, 70, 71] (by decide +kernel) (by decide +kernel)
set_option maxRecDepth 20000 in
theorem gX0_grantsLeft_X2_behind : GoodIn wsX0_grantsLeft (wsV RX0 128 RX2 yX2_behind wsX2_behind) := goodIn_app (goodIn_of _ (by decide +kernel)) ggX0_grantsLeft_X2_behind
set_option maxRecDepth 20000 in
theorem ggX0_childHolds_X2_kindOf : GoodIn wsX0_childHolds wsX2_kindOf := goodIn_r _ [7, 8, 26, 27, 28, 29, 30, 31, 32, 33, 34] (by decide +kernel) (by decide +kernel)
set_option maxRecDepth 20000 in
theorem gX0_childHolds_X2_kindOf : GoodIn wsX0_childHolds (wsV RX0 80 RX2 yX2_kindOf wsX2_kindOf) := goodIn_app (goodIn_of _ (by decide +kernel)) ggX0_childHolds_X2_kindOf
set_option maxRecDepth 20000 in
theorem ggX0_sortBySize_X0_reaches : GoodIn wsX0_sortBySize wsX0_reaches := goodIn_r _ [8, 9, 10, 11, 12, 13, 14, 15, 16, 17, 18, 19, 20, 21, 22] (by decide +kernel) (by decide +kernel)
set_option maxRecDepth 20000 in
theorem gX0_sortBySize_X0_reaches : GoodIn wsX0_sortBySize (wsV RX0 151 RX0 yX0_reaches wsX0_reaches) := goodIn_app (goodIn_of _ (by decide +kernel)) ggX0_sortBySize_X0_reaches
set_option maxRecDepth 20000 in
theorem ggX0_tightest_X2_hasFree : GoodIn wsX0_tightest wsX2_hasFree := goodIn_r _ [9, 10, 33, 34, 35, 36, 37, 38, 39, 40, 41] (by decide +kernel) (by decide +kernel)
set_option maxRecDepth 20000 in
theorem gX0_tightest_X2_hasFree : GoodIn wsX0_tightest (wsV RX0 154 RX2 yX2_hasFree wsX2_hasFree) := goodIn_app (goodIn_of _ (by decide +kernel)) ggX0_tightest_X2_hasFree
set_option maxRecDepth 20000 in
theorem ggX0_tightest_X2_outermost : GoodIn wsX0_tightest wsX2_outermost := goodIn_r _ [14, 10, 15, 33, 34, 35, 36, 37, 38, 39, 40, 41] (by decide +kernel) (by decide +kernel)
set_option maxRecDepth 20000 in
theorem gX0_tightest_X2_outermost : GoodIn wsX0_tightest (wsV RX0 157 RX2 yX2_outermost wsX2_outermost) := goodIn_app (goodIn_of _ (by decide +kernel)) ggX0_tightest_X2_outermost
set_option maxRecDepth 20000 in
theorem ggX0_carve_X0_childHolds : GoodIn wsX0_carve wsX0_childHolds := goodIn_r _ [9, 1, 2, 10, 11, 12, 13, 14, 15, 68, 69, 70, 71, 72, 73, 74, 75, 76, 77, 78, 79, 80, 81, 82, 83, 84, 85, 86, 87, 88, 89, 90, 91, 92, 93] (by decide +kernel) (by decide +kernel)
set_option maxRecDepth 20000 in
theorem gX0_carve_X0_childHolds : GoodIn wsX0_carve (wsV RX0 137 RX0 yX0_childHolds wsX0_childHolds) := goodIn_app (goodIn_of _ (by decide +kernel)) ggX0_carve_X0_childHolds
set_option maxRecDepth 20000 in
theorem ggX0_carve_X2_kindOf : GoodIn wsX0_carve wsX2_kindOf := goodIn_r _ [14, 15, 85, 86, 87, 88, 89, 90, 91, 92, 93] (by decide +kernel) (by decide +kernel)
set_option maxRecDepth 20000 in
theorem gX0_carve_X2_kindOf : GoodIn wsX0_carve (wsV RX0 80 RX2 yX2_kindOf wsX2_kindOf) := goodIn_app (goodIn_of _ (by decide +kernel)) ggX0_carve_X2_kindOf
set_option maxRecDepth 20000 in
theorem ggX0_carve_X2_split : GoodIn wsX0_carve wsX2_split := goodIn_r _ [19, 20, 21, 22, 23, 24, 25, 26, 27, 13, 28, 15, 29, 30, 31, 32, 33, 34, 35, 36, 37, 38, 39, 40, 41, 42, 43, 44, 45, 46, 47, 48, 49, 50, 51, 52, 53, 54, 55, 56, 57, 58, 59, 60, 61, 62, 63, 85, 86, 87, 88, 89, 90, 91, 92, 93] (by decide +kernel) (by decide +kernel)
set_option maxRecDepth 20000 in
theorem gX0_carve_X2_split : GoodIn wsX0_carve (wsV RX0 160 RX2 yX2_split wsX2_split) := goodIn_app (goodIn_of _ (by decide +kernel)) ggX0_carve_X2_split
set_option maxRecDepth 20000 in
theorem ggX0_carve_X2_childOf : GoodIn wsX0_carve wsX2_childOf := goodIn_r _ [67, 24, 85, 86, 87, 88, 89, 90, 91, 92, 93] (by decide +kernel) (by decide +kernel)
set_option maxRecDepth 20000 in
theorem gX0_carve_X2_childOf : GoodIn wsX0_carve (wsV RX0 134 RX2 yX2_childOf wsX2_childOf) := goodIn_app (goodIn_of _ (by decide +kernel)) ggX0_carve_X2_childOf
set_option maxRecDepth 20000 in
theorem ggX0_uniteUpward_X2_kindOf : GoodIn wsX0_uniteUpward wsX2_kindOf := goodIn_r _ [6, 7, 59, 60, 61, 62, 63, 64, 65, 66, 67] (by decide +kernel) (by decide +kernel)
set_option maxRecDepth 20000 in
theorem gX0_uniteUpward_X2_kindOf : GoodIn wsX0_uniteUpward (wsV RX0 80 RX2 yX2_kindOf wsX2_kindOf) := goodIn_app (goodIn_of _ (by decide +kernel)) ggX0_uniteUpward_X2_kindOf
set_option maxRecDepth 20000 in
theorem ggX0_uniteUpward_X0_isTooMany : GoodIn wsX0_uniteUpward wsX0_isTooMany := goodIn_r _ [12, 13, 14, 46, 47, 48, 49, 50, 51, 52, 53, 54, 55, 56, 57, 58] (by decide +kernel) (by decide +kernel)
set_option maxRecDepth 20000 in
theorem gX0_uniteUpward_X0_isTooMany : GoodIn wsX0_uniteUpward (wsV RX0 164 RX0 yX0_isTooMany wsX0_isTooMany) := goodIn_app (goodIn_of _ (by decide +kernel)) ggX0_uniteUpward_X0_isTooMany
set_option maxRecDepth 20000 in
theorem ggX0_uniteUpward_X2_buddyOf : GoodIn wsX0_uniteUpward wsX2_buddyOf := goodIn_r _ [18] (by decide +kernel) (by decide +kernel)
set_option maxRecDepth 20000 in
theorem gX0_uniteUpward_X2_buddyOf : GoodIn wsX0_uniteUpward (wsV RX0 167 RX2 yX2_buddyOf wsX2_buddyOf) := goodIn_app (goodIn_of _ (by decide +kernel)) ggX0_uniteUpward_X2_buddyOf
set_option maxRecDepth 20000 in
theorem ggX0_uniteUpward_X2_isFree : GoodIn wsX0_uniteUpward wsX2_isFree := goodIn_r _ [22, 23, 24, 59, 60, 61, 62, 63, 64, 65, 66, 67] (by decide +kernel) (by decide +kernel)
set_option maxRecDepth 20000 in
theorem gX0_uniteUpward_X2_isFree : GoodIn wsX0_uniteUpward (wsV RX0 170 RX2 yX2_isFree wsX2_isFree) := goodIn_app (goodIn_of _ (by decide +kernel)) ggX0_uniteUpward_X2_isFree
set_option maxRecDepth 20000 in
theorem ggX0_uniteUpward_X2_parentOf : GoodIn wsX0_uniteUpward wsX2_parentOf := goodIn_r _ [28, 29, 59, 60, 61, 62, 63, 64, 65, 66, 67] (by decide +kernel) (by decide +kernel)
set_option maxRecDepth 20000 in
theorem gX0_uniteUpward_X2_parentOf : GoodIn wsX0_uniteUpward (wsV RX0 173 RX2 yX2_parentOf wsX2_parentOf) := goodIn_app (goodIn_of _ (by decide +kernel)) ggX0_uniteUpward_X2_parentOf
set_option maxRecDepth 20000 in
theorem ggX0_uniteUpward_X0_unite : GoodIn wsX0_uniteUpward wsX0_unite := goodIn_r _ [33, 1, 13, 34, 35, 36, 37, 5, 38, 23, 2, 3, 4, 6, 7, 39, 40, 41, 42, 29, 43, 44, 45, 46, 47, 48, 49, 50, 51, 52, 53, 54, 55, 56, 57, 58, 59, 60, 61, 62, 63, 64, 65, 66, 67] (by decide +kernel) (by decide +kernel)
set_option maxRecDepth 20000 in
theorem gX0_uniteUpward_X0_unite : GoodIn wsX0_uniteUpward (wsV RX0 117 RX0 yX0_unite wsX0_unite) := goodIn_app (goodIn_of _ (by decide +kernel)) ggX0_uniteUpward_X0_unite
set_option maxRecDepth 20000 in
theorem ggX0_unite_X2_childOf : GoodIn wsX0_unite wsX2_childOf := goodIn_r _ [8, 9, 36, 37, 38, 39, 40, 41, 42, 43, 44] (by decide +kernel) (by decide +kernel)
set_option maxRecDepth 20000 in
theorem gX0_unite_X2_childOf : GoodIn wsX0_unite (wsV RX0 134 RX2 yX2_childOf wsX2_childOf) := goodIn_app (goodIn_of _ (by decide +kernel)) ggX0_unite_X2_childOf
set_option maxRecDepth 20000 in
theorem ggX0_unite_X2_kindOf : GoodIn wsX0_unite wsX2_kindOf := goodIn_r _ [13, 14, 36, 37, 38, 39, 40, 41, 42, 43, 44] (by decide +kernel) (by decide +kernel)
set_option maxRecDepth 20000 in
theorem gX0_unite_X2_kindOf : GoodIn wsX0_unite (wsV RX0 80 RX2 yX2_kindOf wsX2_kindOf) := goodIn_app (goodIn_of _ (by decide +kernel)) ggX0_unite_X2_kindOf
set_option maxRecDepth 20000 in
theorem ggX0_unite_X2_unite : GoodIn wsX0_unite wsX2_unite := goodIn_r _ [18, 9, 19, 20, 21, 22, 14, 36, 37, 38, 39, 40, 41, 42, 43, 44] (by decide +kernel) (by decide +kernel)
set_option maxRecDepth 20000 in
theorem gX0_unite_X2_unite : GoodIn wsX0_unite (wsV RX0 176 RX2 yX2_unite wsX2_unite) := goodIn_app (goodIn_of _ (by decide +kernel)) ggX0_unite_X2_unite
set_option maxRecDepth 20000 in
theorem ggX1_tellFamily_X1_leafSize : GoodIn wsX1_tellFamily wsX1_leafSize := goodIn_r _ [6] (by decide +kernel) (by decide +kernel)
set_option maxRecDepth 20000 in
theorem gX1_tellFamily_X1_leafSize : GoodIn wsX1_tellFamily (va_wsS RX1 30 yX1_leafSize wsX1_leafSize) := goodIn_app (goodIn_of _ (by decide +kernel)) ggX1_tellFamily_X1_leafSize
set_option maxRecDepth 20000 in
theorem ggX1_tellFamily_X1_familyRight : GoodIn wsX1_tellFamily wsX1_familyRight := goodIn_r _ [9] (by decide +kernel) (by decide +kernel)
set_option maxRecDepth 20000 in
theorem gX1_tellFamily_X1_familyRight : GoodIn wsX1_tellFamily (va_wsS RX1 34 yX1_familyRight wsX1_familyRight) := goodIn_app (goodIn_of _ (by decide +kernel)) ggX1_tellFamily_X1_familyRight
set_option maxRecDepth 20000 in
theorem ggX1_tellFamily_X1_tell : GoodIn wsX1_tellFamily wsX1_tell := goodIn_r _ [13, 14, 15, 16, 17, 18, 19, 20] (by decide +kernel) (by decide +kernel)
set_option maxRecDepth 20000 in
theorem gX1_tellFamily_X1_tell : GoodIn wsX1_tellFamily (wsV RX1 39 RX1 yX1_tell wsX1_tell) := goodIn_app (goodIn_of _ (by decide +kernel)) ggX1_tellFamily_X1_tell
set_option maxRecDepth 20000 in
theorem ggX1_reachedFrom_J6_numberOfTrailingZeros_0f7a4 : GoodIn wsX1_reachedFrom wsJ6_numberOfTrailingZeros_0f7a4 := goodIn_r _ [6, 7] (by decide +kernel) (by decide +kernel)
set_option maxRecDepth 20000 in
theorem gX1_reachedFrom_J6_numberOfTrailingZeros_0f7a4 : GoodIn wsX1_reachedFrom (va_wsS RX1 43 yJ6_numberOfTrailingZeros_0f7a4 wsJ6_numberOfTrailingZeros_0f7a4) := goodIn_app (goodIn_of _ (by decide +kernel)) ggX1_reachedFrom_J6_numberOfTrailingZeros_0f7a4
set_option maxRecDepth 20000 in
theorem ggX1_reachedFrom_X1_isBad : GoodIn wsX1_reachedFrom wsX1_isBad := goodIn_r _ [12, 13, 1, 2, 14, 15, 16, 17, 18, 19, 20, 21, 22, 23] (by decide +kernel) (by decide +kernel)
set_option maxRecDepth 20000 in
theorem gX1_reachedFrom_X1_isBad : GoodIn wsX1_reachedFrom (wsV RX1 49 RX1 yX1_isBad wsX1_isBad) := goodIn_app (goodIn_of _ (by decide +kernel)) ggX1_reachedFrom_X1_isBad
set_option maxRecDepth 20000 in
theorem ggX1_lowestBad_X1_isBad : GoodIn wsX1_lowestBad wsX1_isBad := goodIn_r _ [5, 6, 7, 8, 9, 10, 11, 12, 13, 14, 15, 16, 17, 18] (by decide +kernel) (by decide +kernel)
set_option maxRecDepth 20000 in
theorem gX1_lowestBad_X1_isBad : GoodIn wsX1_lowestBad (wsV RX1 49 RX1 yX1_isBad wsX1_isBad) := goodIn_app (goodIn_of _ (by decide +kernel)) ggX1_lowestBad_X1_isBad
set_option maxRecDepth 20000 in
theorem ggX1_isBad_X3_isSize : GoodIn wsX1_isBad wsX3_isSize := goodIn_r _ [6, 7] (by decide +kernel) (by decide +kernel)
set_option maxRecDepth 20000 in
theorem gX1_isBad_X3_isSize_n53 : GoodIn wsX1_isBad (wsX3_isSize) := ggX1_isBad_X3_isSize
set_option maxRecDepth 20000 in
theorem ggX1_isBad_X3_isClass : GoodIn wsX1_isBad wsX3_isClass := goodIn_r _ [9] (by decide +kernel) (by decide +kernel)
set_option maxRecDepth 20000 in
theorem gX1_isBad_X3_isClass_n56 : GoodIn wsX1_isBad (wsX3_isClass) := ggX1_isBad_X3_isClass
set_option maxRecDepth 20000 in
theorem ggX2_begin_X2_put : GoodIn wsX2_begin wsX2_put := goodIn_r _ [7, 8, 9, 10, 11, 12, 13, 14, 15, 6, 16, 17, 18, 19, 20, 21, 22, 23, 24, 25, 26, 27, 28] (by decide +kernel) (by decide +kernel)
set_option maxRecDepth 20000 in
theorem gX2_begin_X2_put : GoodIn wsX2_begin (wsV RX2 40 RX2 yX2_put wsX2_put) := goodIn_app (goodIn_of _ (by decide +kernel)) ggX2_begin_X2_put
set_option maxRecDepth 20000 in
theorem ggX2_sideAt_X2_depthOf : GoodIn wsX2_sideAt wsX2_depthOf := goodIn_r _ [6, 1, 7, 8, 9, 10, 11, 12, 13, 14, 15] (by decide +kernel) (by decide +kernel)
set_option maxRecDepth 20000 in
theorem gX2_sideAt_X2_depthOf : GoodIn wsX2_sideAt (wsV RX2 45 RX2 yX2_depthOf wsX2_depthOf) := goodIn_app (goodIn_of _ (by decide +kernel)) ggX2_sideAt_X2_depthOf
set_option maxRecDepth 20000 in
theorem ggX2_joinable_X2_hasFreePair : GoodIn wsX2_joinable wsX2_hasFreePair := goodIn_r _ [7, 2, 8, 9, 10, 6, 11, 12, 13, 14, 15, 16, 17, 18, 19, 20, 21] (by decide +kernel) (by decide +kernel)
set_option maxRecDepth 20000 in
theorem gX2_joinable_X2_hasFreePair : GoodIn wsX2_joinable (wsV RX2 49 RX2 yX2_hasFreePair wsX2_hasFreePair) := goodIn_app (goodIn_of _ (by decide +kernel)) ggX2_joinable_X2_hasFreePair
set_option maxRecDepth 20000 in
theorem ggX2_wholeFrom_X2_hasLive : GoodIn wsX2_wholeFrom wsX2_hasLive := goodIn_r _ [7, 8, 9, 15, 16, 17, 18, 19, 20, 21, 22, 23] (by decide +kernel) (by decide +kernel)
set_option maxRecDepth 20000 in
theorem gX2_wholeFrom_X2_hasLive : GoodIn wsX2_wholeFrom (wsV RX2 53 RX2 yX2_hasLive wsX2_hasLive) := goodIn_app (goodIn_of _ (by decide +kernel)) ggX2_wholeFrom_X2_hasLive
set_option maxRecDepth 20000 in
theorem ggX2_wholeFrom_X2_behind : GoodIn wsX2_wholeFrom wsX2_behind := goodIn_r _ [13, 14, 15, 16, 17, 18, 19, 20, 21, 22, 23] (by decide +kernel) (by decide +kernel)
set_option maxRecDepth 20000 in
theorem gX2_wholeFrom_X2_behind : GoodIn wsX2_wholeFrom (wsV RX2 56 RX2 yX2_behind wsX2_behind) := goodIn_app (goodIn_of _ (by decide +kernel)) ggX2_wholeFrom_X2_behind
set_option maxRecDepth 20000 in
theorem ggX2_split_X2_grow : GoodIn wsX2_split wsX2_grow := goodIn_r _ [10, 3, 5, 11, 4, 12, 13, 14, 15, 16, 17, 18, 19, 20, 21, 22, 23, 24, 25, 26, 27, 28, 29, 30, 31, 32, 33, 47, 48, 49, 50, 51, 52, 53, 54, 55] (by decide +kernel) (by decide +kernel)
set_option maxRecDepth 20000 in
theorem ggX2_split_X2_takePair : GoodIn wsX2_split wsX2_takePair := goodIn_r _ [37, 1, 3, 2, 47, 48, 49, 50, 51, 52, 53, 54, 55] (by decide +kernel) (by decide +kernel)
set_option maxRecDepth 20000 in
theorem gX2_split_X2_grow : GoodIn wsX2_split (wsV RX2 59 RX2 yX2_grow wsX2_grow) := goodIn_app (goodIn_of _ (by decide +kernel)) ggX2_split_X2_grow
set_option maxRecDepth 20000 in
theorem gX2_split_X2_takePair : GoodIn wsX2_split (wsV RX2 63 RX2 yX2_takePair wsX2_takePair) := goodIn_app (goodIn_of _ (by decide +kernel)) ggX2_split_X2_takePair
set_option maxRecDepth 20000 in
theorem ggX2_split_X2_put : GoodIn wsX2_split wsX2_put := goodIn_r _ [41, 3, 5, 11, 4, 14, 42, 43, 44, 9, 45, 12, 13, 46, 47, 48, 49, 50, 51, 52, 53, 54, 55] (by decide +kernel) (by decide +kernel)
set_option maxRecDepth 20000 in
theorem gX2_split_X2_put : GoodIn wsX2_split (wsV RX2 40 RX2 yX2_put wsX2_put) := goodIn_app (goodIn_of _ (by decide +kernel)) ggX2_split_X2_put
set_option maxRecDepth 20000 in
theorem ggX2_refreshAbove_X2_hasFreePair : GoodIn wsX2_refreshAbove wsX2_hasFreePair := goodIn_r _ [9, 2, 10, 11, 12, 8, 13, 14, 15, 16, 17, 18, 19, 20, 21, 22, 23] (by decide +kernel) (by decide +kernel)
set_option maxRecDepth 20000 in
theorem gX2_refreshAbove_X2_hasFreePair : GoodIn wsX2_refreshAbove (wsV RX2 49 RX2 yX2_hasFreePair wsX2_hasFreePair) := goodIn_app (goodIn_of _ (by decide +kernel)) ggX2_refreshAbove_X2_hasFreePair
set_option maxRecDepth 20000 in
theorem ggX2_hasFreePair_X2_isFree : GoodIn wsX2_hasFreePair wsX2_isFree := goodIn_r _ [6, 1, 7, 8, 9, 10, 11, 12, 13, 14, 15, 16] (by decide +kernel) (by decide +kernel)
set_option maxRecDepth 20000 in
theorem gX2_hasFreePair_X2_isFree : GoodIn wsX2_hasFreePair (wsV RX2 67 RX2 yX2_isFree wsX2_isFree) := goodIn_app (goodIn_of _ (by decide +kernel)) ggX2_hasFreePair_X2_isFree
set_option maxRecDepth 20000 in
theorem ggX2_put_X2_setRequest : GoodIn wsX2_put wsX2_setRequest := goodIn_r _ [10, 11, 12, 3, 13, 14, 15, 16, 17, 18, 19, 20, 21, 22] (by decide +kernel) (by decide +kernel)
set_option maxRecDepth 20000 in
theorem gX2_put_X2_setRequest : GoodIn wsX2_put (wsV RX2 70 RX2 yX2_setRequest wsX2_setRequest) := goodIn_app (goodIn_of _ (by decide +kernel)) ggX2_put_X2_setRequest
set_option maxRecDepth 20000 in
theorem ggX2_grow_J7_copyOf_59c91 : GoodIn wsX2_grow wsJ7_copyOf_59c91 := goodIn_r _ [11, 12, 13, 14, 15, 16, 17, 18, 19, 20, 21, 22, 23, 24, 25, 26] (by decide +kernel) (by decide +kernel)
set_option maxRecDepth 20000 in
theorem gX2_grow_J7_copyOf_59c91 : GoodIn wsX2_grow (va_wsS RX2 74 yJ7_copyOf_59c91 wsJ7_copyOf_59c91) := goodIn_app (goodIn_of _ (by decide +kernel)) ggX2_grow_J7_copyOf_59c91
