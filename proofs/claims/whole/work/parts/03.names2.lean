theorem dX0_renew_5 : decode cX0_renew 5 = .ok (.iload_n 2, 1) := by decide +kernel
theorem dX0_renew_6 : decode cX0_renew 6 = .ok (.aload_n 0, 1) := by decide +kernel
theorem dX0_renew_7 : decode cX0_renew 7 = .ok (.getfield 21, 3) := by decide +kernel
theorem dX0_renew_10 : decode cX0_renew 10 = .ok (.iload_n 1, 1) := by decide +kernel
theorem dX0_renew_11 : decode cX0_renew 11 = .ok (.invokevirtual 105, 3) := by decide +kernel
theorem dX0_renew_14 : decode cX0_renew 14 = .ok (.isub, 1) := by decide +kernel
theorem dX0_renew_15 : decode cX0_renew 15 = .ok (.iadd, 1) := by decide +kernel
theorem dX0_renew_16 : decode cX0_renew 16 = .ok (.putfield 48, 3) := by decide +kernel
theorem dX0_renew_19 : decode cX0_renew 19 = .ok (.aload_n 0, 1) := by decide +kernel
theorem dX0_renew_20 : decode cX0_renew 20 = .ok (.getfield 21, 3) := by decide +kernel
theorem dX0_renew_23 : decode cX0_renew 23 = .ok (.iload_n 1, 1) := by decide +kernel
theorem dX0_renew_24 : decode cX0_renew 24 = .ok (.iload_n 2, 1) := by decide +kernel
theorem dX0_renew_25 : decode cX0_renew 25 = .ok (.invokevirtual 95, 3) := by decide +kernel
theorem dX0_renew_28 : decode cX0_renew 28 = .ok (.return_, 1) := by decide +kernel
set_option maxRecDepth 20000 in
theorem ggX0_release_X2_requestOf : GoodIn wsX0_release wsX2_requestOf := goodIn_r _ [10, 11, 95, 96, 97, 98, 99, 100, 101, 102, 103] (by decide +kernel) (by decide +kernel)
set_option maxRecDepth 20000 in
theorem gX0_release_X2_requestOf : GoodIn wsX0_release (wsV RX0 105 RX2 yX2_requestOf wsX2_requestOf) := goodIn_app (goodIn_of _ (by decide +kernel)) ggX0_release_X2_requestOf
set_option maxRecDepth 20000 in
theorem ggX0_release_X0_sizeOf : GoodIn wsX0_release wsX0_sizeOf := goodIn_r _ [16, 17, 3, 18, 19, 20, 9, 21, 22, 82, 83, 84, 85, 86, 87, 88, 89, 90, 91, 92, 93, 94, 104, 105, 106, 107, 95, 96, 97, 98, 99, 100, 101, 102, 103] (by decide +kernel) (by decide +kernel)
set_option maxRecDepth 20000 in
theorem gX0_release_X0_sizeOf : GoodIn wsX0_release (wsV RX0 102 RX0 yX0_sizeOf wsX0_sizeOf) := goodIn_app (goodIn_of _ (by decide +kernel)) ggX0_release_X0_sizeOf
set_option maxRecDepth 20000 in
theorem ggX0_release_X2_setRequest : GoodIn wsX0_release wsX2_setRequest := goodIn_r _ [26, 11, 27, 22, 28, 95, 96, 97, 98, 99, 100, 101, 102, 103] (by decide +kernel) (by decide +kernel)
set_option maxRecDepth 20000 in
theorem gX0_release_X2_setRequest : GoodIn wsX0_release (wsV RX0 95 RX2 yX2_setRequest wsX2_setRequest) := goodIn_app (goodIn_of _ (by decide +kernel)) ggX0_release_X2_setRequest
set_option maxRecDepth 20000 in
theorem ggX0_release_X2_kindOf : GoodIn wsX0_release wsX2_kindOf := goodIn_r _ [21, 22, 95, 96, 97, 98, 99, 100, 101, 102, 103] (by decide +kernel) (by decide +kernel)
set_option maxRecDepth 20000 in
theorem gX0_release_X2_kindOf : GoodIn wsX0_release (wsV RX0 80 RX2 yX2_kindOf wsX2_kindOf) := goodIn_app (goodIn_of _ (by decide +kernel)) ggX0_release_X2_kindOf
set_option maxRecDepth 20000 in
theorem ggX0_release_X0_uniteUpward : GoodIn wsX0_release wsX0_uniteUpward := goodIn_r _ [32, 3, 18, 19, 20, 9, 21, 22, 33, 34, 35, 15, 36, 5, 37, 38, 39, 40, 41, 42, 43, 44, 45, 46, 11, 47, 48, 49, 50, 51, 52, 53, 54, 55, 56, 57, 58, 59, 60, 61, 62, 63, 64, 65, 66, 67, 68, 69, 70, 71, 72, 24, 25, 26, 27, 28, 82, 83, 84, 85, 86, 87, 88, 89, 90, 91, 92, 93, 94, 95, 96, 97, 98, 99, 100, 101, 102, 103] (by decide +kernel) (by decide +kernel)
set_option maxRecDepth 20000 in
theorem gX0_release_X0_uniteUpward : GoodIn wsX0_release (wsV RX0 108 RX0 yX0_uniteUpward wsX0_uniteUpward) := goodIn_app (goodIn_of _ (by decide +kernel)) ggX0_release_X0_uniteUpward
set_option maxRecDepth 20000 in
theorem ggX0_release_X2_refreshAbove : GoodIn wsX0_release wsX2_refreshAbove := goodIn_r _ [76, 51, 46, 27, 71, 77, 78, 79, 9, 80, 81, 43, 44, 45, 11, 95, 96, 97, 98, 99, 100, 101, 102, 103] (by decide +kernel) (by decide +kernel)
set_option maxRecDepth 20000 in
theorem gX0_release_X2_refreshAbove : GoodIn wsX0_release (wsV RX0 99 RX2 yX2_refreshAbove wsX2_refreshAbove) := goodIn_app (goodIn_of _ (by decide +kernel)) ggX0_release_X2_refreshAbove
theorem dX0_release_0 : decode cX0_release 0 = .ok (.aload_n 0, 1) := by decide +kernel
theorem dX0_release_1 : decode cX0_release 1 = .ok (.dup, 1) := by decide +kernel
theorem dX0_release_2 : decode cX0_release 2 = .ok (.getfield 45, 3) := by decide +kernel
theorem dX0_release_5 : decode cX0_release 5 = .ok (.iconst 1, 1) := by decide +kernel
theorem dX0_release_6 : decode cX0_release 6 = .ok (.isub, 1) := by decide +kernel
theorem dX0_release_7 : decode cX0_release 7 = .ok (.putfield 45, 3) := by decide +kernel
theorem dX0_release_10 : decode cX0_release 10 = .ok (.aload_n 0, 1) := by decide +kernel
theorem dX0_release_11 : decode cX0_release 11 = .ok (.dup, 1) := by decide +kernel
theorem dX0_release_12 : decode cX0_release 12 = .ok (.getfield 48, 3) := by decide +kernel
theorem dX0_release_15 : decode cX0_release 15 = .ok (.aload_n 0, 1) := by decide +kernel
theorem dX0_release_16 : decode cX0_release 16 = .ok (.getfield 21, 3) := by decide +kernel
theorem dX0_release_19 : decode cX0_release 19 = .ok (.iload_n 1, 1) := by decide +kernel
theorem dX0_release_20 : decode cX0_release 20 = .ok (.invokevirtual 105, 3) := by decide +kernel
theorem dX0_release_23 : decode cX0_release 23 = .ok (.isub, 1) := by decide +kernel
theorem dX0_release_24 : decode cX0_release 24 = .ok (.putfield 48, 3) := by decide +kernel
theorem dX0_release_27 : decode cX0_release 27 = .ok (.aload_n 0, 1) := by decide +kernel
theorem dX0_release_28 : decode cX0_release 28 = .ok (.dup, 1) := by decide +kernel
theorem dX0_release_29 : decode cX0_release 29 = .ok (.getfield 51, 3) := by decide +kernel
theorem dX0_release_32 : decode cX0_release 32 = .ok (.aload_n 0, 1) := by decide +kernel
theorem dX0_release_33 : decode cX0_release 33 = .ok (.iload_n 1, 1) := by decide +kernel
theorem dX0_release_34 : decode cX0_release 34 = .ok (.invokevirtual 102, 3) := by decide +kernel
theorem dX0_release_37 : decode cX0_release 37 = .ok (.isub, 1) := by decide +kernel
theorem dX0_release_38 : decode cX0_release 38 = .ok (.putfield 51, 3) := by decide +kernel
theorem dX0_release_41 : decode cX0_release 41 = .ok (.aload_n 0, 1) := by decide +kernel
theorem dX0_release_42 : decode cX0_release 42 = .ok (.getfield 21, 3) := by decide +kernel
theorem dX0_release_45 : decode cX0_release 45 = .ok (.iload_n 1, 1) := by decide +kernel
theorem dX0_release_46 : decode cX0_release 46 = .ok (.iconst 0, 1) := by decide +kernel
theorem dX0_release_47 : decode cX0_release 47 = .ok (.invokevirtual 95, 3) := by decide +kernel
theorem dX0_release_50 : decode cX0_release 50 = .ok (.aload_n 0, 1) := by decide +kernel
theorem dX0_release_51 : decode cX0_release 51 = .ok (.getfield 29, 3) := by decide +kernel
theorem dX0_release_54 : decode cX0_release 54 = .ok (.aload_n 0, 1) := by decide +kernel
theorem dX0_release_55 : decode cX0_release 55 = .ok (.getfield 21, 3) := by decide +kernel
theorem dX0_release_58 : decode cX0_release 58 = .ok (.iload_n 1, 1) := by decide +kernel
theorem dX0_release_59 : decode cX0_release 59 = .ok (.invokevirtual 80, 3) := by decide +kernel
theorem dX0_release_62 : decode cX0_release 62 = .ok (.dup2, 1) := by decide +kernel
theorem dX0_release_63 : decode cX0_release 63 = .ok (.iaload, 1) := by decide +kernel
theorem dX0_release_64 : decode cX0_release 64 = .ok (.iconst 1, 1) := by decide +kernel
theorem dX0_release_65 : decode cX0_release 65 = .ok (.iadd, 1) := by decide +kernel
theorem dX0_release_66 : decode cX0_release 66 = .ok (.iastore, 1) := by decide +kernel
theorem dX0_release_67 : decode cX0_release 67 = .ok (.aload_n 0, 1) := by decide +kernel
theorem dX0_release_68 : decode cX0_release 68 = .ok (.getfield 21, 3) := by decide +kernel
theorem dX0_release_71 : decode cX0_release 71 = .ok (.aload_n 0, 1) := by decide +kernel
theorem dX0_release_72 : decode cX0_release 72 = .ok (.iload_n 1, 1) := by decide +kernel
theorem dX0_release_73 : decode cX0_release 73 = .ok (.invokevirtual 108, 3) := by decide +kernel
theorem dX0_release_76 : decode cX0_release 76 = .ok (.invokevirtual 99, 3) := by decide +kernel
theorem dX0_release_79 : decode cX0_release 79 = .ok (.return_, 1) := by decide +kernel
set_option maxRecDepth 20000 in
theorem ggX0_uniteAll_X2_joinable : GoodIn wsX0_uniteAll wsX2_joinable := goodIn_r _ [7, 8, 9, 10, 11, 12, 6, 13, 14, 15, 16, 17, 18, 73, 74, 75, 76, 77, 78, 79, 80, 81] (by decide +kernel) (by decide +kernel)
set_option maxRecDepth 20000 in
theorem gX0_uniteAll_X2_joinable : GoodIn wsX0_uniteAll (wsV RX0 111 RX2 yX2_joinable wsX2_joinable) := goodIn_app (goodIn_of _ (by decide +kernel)) ggX0_uniteAll_X2_joinable
set_option maxRecDepth 20000 in
theorem ggX0_uniteAll_X2_made : GoodIn wsX0_uniteAll wsX2_made := goodIn_r _ [22, 23, 73, 74, 75, 76, 77, 78, 79, 80, 81] (by decide +kernel) (by decide +kernel)
set_option maxRecDepth 20000 in
theorem gX0_uniteAll_X2_made : GoodIn wsX0_uniteAll (wsV RX0 114 RX2 yX2_made wsX2_made) := goodIn_app (goodIn_of _ (by decide +kernel)) ggX0_uniteAll_X2_made
set_option maxRecDepth 20000 in
theorem ggX0_uniteAll_X0_unite : GoodIn wsX0_uniteAll wsX0_unite := goodIn_r _ [28, 2, 29, 1, 30, 31, 32, 6, 33, 9, 34, 35, 36, 37, 38, 39, 40, 41, 42, 43, 44, 45, 46, 47, 48, 49, 50, 51, 52, 53, 54, 18, 8, 55, 60, 61, 62, 63, 64, 65, 66, 67, 68, 69, 70, 71, 72, 73, 74, 75, 76, 77, 78, 79, 80, 81] (by decide +kernel) (by decide +kernel)
set_option maxRecDepth 20000 in
theorem gX0_uniteAll_X0_unite : GoodIn wsX0_uniteAll (wsV RX0 117 RX0 yX0_unite wsX0_unite) := goodIn_app (goodIn_of _ (by decide +kernel)) ggX0_uniteAll_X0_unite
set_option maxRecDepth 20000 in
theorem ggX0_uniteAll_X2_refreshAbove : GoodIn wsX0_uniteAll wsX2_refreshAbove := goodIn_r _ [59, 43, 9, 8, 50, 10, 11, 12, 6, 13, 14, 15, 16, 17, 18, 73, 74, 75, 76, 77, 78, 79, 80, 81] (by decide +kernel) (by decide +kernel)
set_option maxRecDepth 20000 in
theorem gX0_uniteAll_X2_refreshAbove : GoodIn wsX0_uniteAll (wsV RX0 99 RX2 yX2_refreshAbove wsX2_refreshAbove) := goodIn_app (goodIn_of _ (by decide +kernel)) ggX0_uniteAll_X2_refreshAbove
theorem dX0_uniteAll_0 : decode cX0_uniteAll 0 = .ok (.aload_n 0, 1) := by decide +kernel
theorem dX0_uniteAll_1 : decode cX0_uniteAll 1 = .ok (.getfield 54, 3) := by decide +kernel
theorem dX0_uniteAll_4 : decode cX0_uniteAll 4 = .ok (.istore_n 1, 1) := by decide +kernel
theorem dX0_uniteAll_5 : decode cX0_uniteAll 5 = .ok (.aload_n 0, 1) := by decide +kernel
theorem dX0_uniteAll_6 : decode cX0_uniteAll 6 = .ok (.getfield 21, 3) := by decide +kernel
theorem dX0_uniteAll_9 : decode cX0_uniteAll 9 = .ok (.invokevirtual 111, 3) := by decide +kernel
theorem dX0_uniteAll_12 : decode cX0_uniteAll 12 = .ok (.istore_n 2, 1) := by decide +kernel
theorem dX0_uniteAll_13 : decode cX0_uniteAll 13 = .ok (.aload_n 0, 1) := by decide +kernel
theorem dX0_uniteAll_14 : decode cX0_uniteAll 14 = .ok (.getfield 21, 3) := by decide +kernel
theorem dX0_uniteAll_17 : decode cX0_uniteAll 17 = .ok (.invokevirtual 114, 3) := by decide +kernel
theorem dX0_uniteAll_20 : decode cX0_uniteAll 20 = .ok (.istore_n 3, 1) := by decide +kernel
theorem dX0_uniteAll_21 : decode cX0_uniteAll 21 = .ok (.iload_n 3, 1) := by decide +kernel
theorem dX0_uniteAll_22 : decode cX0_uniteAll 22 = .ok (.ifCond .le 34, 3) := by decide +kernel
theorem dX0_uniteAll_25 : decode cX0_uniteAll 25 = .ok (.iload_n 2, 1) := by decide +kernel
theorem dX0_uniteAll_26 : decode cX0_uniteAll 26 = .ok (.ifCond .eq 30, 3) := by decide +kernel
theorem dX0_uniteAll_29 : decode cX0_uniteAll 29 = .ok (.aload_n 0, 1) := by decide +kernel
theorem dX0_uniteAll_30 : decode cX0_uniteAll 30 = .ok (.iload_n 2, 1) := by decide +kernel
theorem dX0_uniteAll_31 : decode cX0_uniteAll 31 = .ok (.invokevirtual 117, 3) := by decide +kernel
theorem dX0_uniteAll_34 : decode cX0_uniteAll 34 = .ok (.aload_n 0, 1) := by decide +kernel
theorem dX0_uniteAll_35 : decode cX0_uniteAll 35 = .ok (.getfield 21, 3) := by decide +kernel
theorem dX0_uniteAll_38 : decode cX0_uniteAll 38 = .ok (.iload_n 2, 1) := by decide +kernel
theorem dX0_uniteAll_39 : decode cX0_uniteAll 39 = .ok (.invokevirtual 99, 3) := by decide +kernel
theorem dX0_uniteAll_42 : decode cX0_uniteAll 42 = .ok (.aload_n 0, 1) := by decide +kernel
theorem dX0_uniteAll_43 : decode cX0_uniteAll 43 = .ok (.getfield 21, 3) := by decide +kernel
theorem dX0_uniteAll_46 : decode cX0_uniteAll 46 = .ok (.invokevirtual 111, 3) := by decide +kernel
theorem dX0_uniteAll_49 : decode cX0_uniteAll 49 = .ok (.istore_n 2, 1) := by decide +kernel
theorem dX0_uniteAll_50 : decode cX0_uniteAll 50 = .ok (.iinc 3 (-1), 3) := by decide +kernel
theorem dX0_uniteAll_53 : decode cX0_uniteAll 53 = .ok (.goto (-32), 3) := by decide +kernel
theorem dX0_uniteAll_56 : decode cX0_uniteAll 56 = .ok (.aload_n 0, 1) := by decide +kernel
theorem dX0_uniteAll_57 : decode cX0_uniteAll 57 = .ok (.getfield 54, 3) := by decide +kernel
theorem dX0_uniteAll_60 : decode cX0_uniteAll 60 = .ok (.iload_n 1, 1) := by decide +kernel
theorem dX0_uniteAll_61 : decode cX0_uniteAll 61 = .ok (.isub, 1) := by decide +kernel
theorem dX0_uniteAll_62 : decode cX0_uniteAll 62 = .ok (.ireturn, 1) := by decide +kernel
set_option maxRecDepth 20000 in
theorem ggX0_greatestIfJoined_X2_wholeFrom : GoodIn wsX0_greatestIfJoined wsX2_wholeFrom := goodIn_r _ [10, 11, 12, 13, 14, 15, 9, 16, 17, 18, 19, 20, 21, 22, 23, 53, 54, 55, 56, 57, 58, 59, 60, 61] (by decide +kernel) (by decide +kernel)
set_option maxRecDepth 20000 in
theorem gX0_greatestIfJoined_X2_wholeFrom : GoodIn wsX0_greatestIfJoined (wsV RX0 120 RX2 yX2_wholeFrom wsX2_wholeFrom) := goodIn_app (goodIn_of _ (by decide +kernel)) ggX0_greatestIfJoined_X2_wholeFrom
set_option maxRecDepth 20000 in
theorem ggX0_greatestIfJoined_X2_made : GoodIn wsX0_greatestIfJoined wsX2_made := goodIn_r _ [27, 11, 53, 54, 55, 56, 57, 58, 59, 60, 61] (by decide +kernel) (by decide +kernel)
set_option maxRecDepth 20000 in
theorem gX0_greatestIfJoined_X2_made : GoodIn wsX0_greatestIfJoined (wsV RX0 114 RX2 yX2_made wsX2_made) := goodIn_app (goodIn_of _ (by decide +kernel)) ggX0_greatestIfJoined_X2_made
set_option maxRecDepth 20000 in
theorem ggX0_greatestIfJoined_X0_sizeOf : GoodIn wsX0_greatestIfJoined wsX0_sizeOf := goodIn_r _ [32, 33, 1, 34, 35, 36, 9, 37, 38, 40, 41, 42, 43, 44, 45, 46, 47, 48, 49, 50, 51, 52, 62, 63, 64, 65, 53, 54, 55, 56, 57, 58, 59, 60, 61] (by decide +kernel) (by decide +kernel)
set_option maxRecDepth 20000 in
theorem gX0_greatestIfJoined_X0_sizeOf : GoodIn wsX0_greatestIfJoined (wsV RX0 102 RX0 yX0_sizeOf wsX0_sizeOf) := goodIn_app (goodIn_of _ (by decide +kernel)) ggX0_greatestIfJoined_X0_sizeOf
set_option maxRecDepth 20000 in
theorem ggX0_greatestIfJoined_X2_behind : GoodIn wsX0_greatestIfJoined wsX2_behind := goodIn_r _ [22, 23, 53, 54, 55, 56, 57, 58, 59, 60, 61] (by decide +kernel) (by decide +kernel)
set_option maxRecDepth 20000 in
theorem gX0_greatestIfJoined_X2_behind : GoodIn wsX0_greatestIfJoined (wsV RX0 128 RX2 yX2_behind wsX2_behind) := goodIn_app (goodIn_of _ (by decide +kernel)) ggX0_greatestIfJoined_X2_behind
theorem dX0_greatestIfJoined_0 : decode cX0_greatestIfJoined 0 = .ok (.iconst 0, 1) := by decide +kernel
theorem dX0_greatestIfJoined_1 : decode cX0_greatestIfJoined 1 = .ok (.istore_n 1, 1) := by decide +kernel
theorem dX0_greatestIfJoined_2 : decode cX0_greatestIfJoined 2 = .ok (.aload_n 0, 1) := by decide +kernel
theorem dX0_greatestIfJoined_3 : decode cX0_greatestIfJoined 3 = .ok (.getfield 21, 3) := by decide +kernel
theorem dX0_greatestIfJoined_6 : decode cX0_greatestIfJoined 6 = .ok (.iconst 1, 1) := by decide +kernel
theorem dX0_greatestIfJoined_7 : decode cX0_greatestIfJoined 7 = .ok (.invokevirtual 120, 3) := by decide +kernel
theorem dX0_greatestIfJoined_10 : decode cX0_greatestIfJoined 10 = .ok (.istore_n 2, 1) := by decide +kernel
theorem dX0_greatestIfJoined_11 : decode cX0_greatestIfJoined 11 = .ok (.aload_n 0, 1) := by decide +kernel
theorem dX0_greatestIfJoined_12 : decode cX0_greatestIfJoined 12 = .ok (.getfield 21, 3) := by decide +kernel
theorem dX0_greatestIfJoined_15 : decode cX0_greatestIfJoined 15 = .ok (.invokevirtual 114, 3) := by decide +kernel
theorem dX0_greatestIfJoined_18 : decode cX0_greatestIfJoined 18 = .ok (.istore_n 3, 1) := by decide +kernel
theorem dX0_greatestIfJoined_19 : decode cX0_greatestIfJoined 19 = .ok (.iload_n 3, 1) := by decide +kernel
theorem dX0_greatestIfJoined_20 : decode cX0_greatestIfJoined 20 = .ok (.ifCond .le 39, 3) := by decide +kernel
theorem dX0_greatestIfJoined_23 : decode cX0_greatestIfJoined 23 = .ok (.iload_n 2, 1) := by decide +kernel
theorem dX0_greatestIfJoined_24 : decode cX0_greatestIfJoined 24 = .ok (.ifCond .eq 35, 3) := by decide +kernel
theorem dX0_greatestIfJoined_27 : decode cX0_greatestIfJoined 27 = .ok (.iload_n 1, 1) := by decide +kernel
theorem dX0_greatestIfJoined_28 : decode cX0_greatestIfJoined 28 = .ok (.aload_n 0, 1) := by decide +kernel
theorem dX0_greatestIfJoined_29 : decode cX0_greatestIfJoined 29 = .ok (.iload_n 2, 1) := by decide +kernel
theorem dX0_greatestIfJoined_30 : decode cX0_greatestIfJoined 30 = .ok (.invokevirtual 102, 3) := by decide +kernel
theorem dX0_greatestIfJoined_33 : decode cX0_greatestIfJoined 33 = .ok (.invokestatic 123, 3) := by decide +kernel
theorem dX0_greatestIfJoined_36 : decode cX0_greatestIfJoined 36 = .ok (.istore_n 1, 1) := by decide +kernel
theorem dX0_greatestIfJoined_37 : decode cX0_greatestIfJoined 37 = .ok (.aload_n 0, 1) := by decide +kernel
theorem dX0_greatestIfJoined_38 : decode cX0_greatestIfJoined 38 = .ok (.getfield 21, 3) := by decide +kernel
theorem dX0_greatestIfJoined_41 : decode cX0_greatestIfJoined 41 = .ok (.aload_n 0, 1) := by decide +kernel
theorem dX0_greatestIfJoined_42 : decode cX0_greatestIfJoined 42 = .ok (.getfield 21, 3) := by decide +kernel
theorem dX0_greatestIfJoined_45 : decode cX0_greatestIfJoined 45 = .ok (.iload_n 2, 1) := by decide +kernel
theorem dX0_greatestIfJoined_46 : decode cX0_greatestIfJoined 46 = .ok (.invokevirtual 128, 3) := by decide +kernel
theorem dX0_greatestIfJoined_49 : decode cX0_greatestIfJoined 49 = .ok (.invokevirtual 120, 3) := by decide +kernel
theorem dX0_greatestIfJoined_52 : decode cX0_greatestIfJoined 52 = .ok (.istore_n 2, 1) := by decide +kernel
theorem dX0_greatestIfJoined_53 : decode cX0_greatestIfJoined 53 = .ok (.iinc 3 (-1), 3) := by decide +kernel
theorem dX0_greatestIfJoined_56 : decode cX0_greatestIfJoined 56 = .ok (.goto (-37), 3) := by decide +kernel
theorem dX0_greatestIfJoined_59 : decode cX0_greatestIfJoined 59 = .ok (.iload_n 1, 1) := by decide +kernel
theorem dX0_greatestIfJoined_60 : decode cX0_greatestIfJoined 60 = .ok (.ireturn, 1) := by decide +kernel
set_option maxRecDepth 20000 in
theorem ggX0_freeNodesIfJoined_X2_wholeFrom : GoodIn wsX0_freeNodesIfJoined wsX2_wholeFrom := goodIn_r _ [6, 7, 8, 9, 10, 11, 5, 12, 13, 14, 15, 16, 17, 18, 19, 38, 39, 40, 41, 42, 43, 44, 45, 46] (by decide +kernel) (by decide +kernel)
set_option maxRecDepth 20000 in
theorem gX0_freeNodesIfJoined_X2_wholeFrom : GoodIn wsX0_freeNodesIfJoined (wsV RX0 120 RX2 yX2_wholeFrom wsX2_wholeFrom) := goodIn_app (goodIn_of _ (by decide +kernel)) ggX0_freeNodesIfJoined_X2_wholeFrom
set_option maxRecDepth 20000 in
theorem ggX0_freeNodesIfJoined_X2_made : GoodIn wsX0_freeNodesIfJoined wsX2_made := goodIn_r _ [23, 7, 38, 39, 40, 41, 42, 43, 44, 45, 46] (by decide +kernel) (by decide +kernel)
set_option maxRecDepth 20000 in
theorem gX0_freeNodesIfJoined_X2_made : GoodIn wsX0_freeNodesIfJoined (wsV RX0 114 RX2 yX2_made wsX2_made) := goodIn_app (goodIn_of _ (by decide +kernel)) ggX0_freeNodesIfJoined_X2_made
set_option maxRecDepth 20000 in
theorem ggX0_freeNodesIfJoined_X2_behind : GoodIn wsX0_freeNodesIfJoined wsX2_behind := goodIn_r _ [18, 19, 38, 39, 40, 41, 42, 43, 44, 45, 46] (by decide +kernel) (by decide +kernel)
set_option maxRecDepth 20000 in
theorem gX0_freeNodesIfJoined_X2_behind : GoodIn wsX0_freeNodesIfJoined (wsV RX0 128 RX2 yX2_behind wsX2_behind) := goodIn_app (goodIn_of _ (by decide +kernel)) ggX0_freeNodesIfJoined_X2_behind
theorem dX0_freeNodesIfJoined_0 : decode cX0_freeNodesIfJoined 0 = .ok (.iconst 0, 1) := by decide +kernel
theorem dX0_freeNodesIfJoined_1 : decode cX0_freeNodesIfJoined 1 = .ok (.istore_n 1, 1) := by decide +kernel
theorem dX0_freeNodesIfJoined_2 : decode cX0_freeNodesIfJoined 2 = .ok (.aload_n 0, 1) := by decide +kernel
theorem dX0_freeNodesIfJoined_3 : decode cX0_freeNodesIfJoined 3 = .ok (.getfield 21, 3) := by decide +kernel
theorem dX0_freeNodesIfJoined_6 : decode cX0_freeNodesIfJoined 6 = .ok (.iconst 1, 1) := by decide +kernel
theorem dX0_freeNodesIfJoined_7 : decode cX0_freeNodesIfJoined 7 = .ok (.invokevirtual 120, 3) := by decide +kernel
theorem dX0_freeNodesIfJoined_10 : decode cX0_freeNodesIfJoined 10 = .ok (.istore_n 2, 1) := by decide +kernel
theorem dX0_freeNodesIfJoined_11 : decode cX0_freeNodesIfJoined 11 = .ok (.aload_n 0, 1) := by decide +kernel
theorem dX0_freeNodesIfJoined_12 : decode cX0_freeNodesIfJoined 12 = .ok (.getfield 21, 3) := by decide +kernel
theorem dX0_freeNodesIfJoined_15 : decode cX0_freeNodesIfJoined 15 = .ok (.invokevirtual 114, 3) := by decide +kernel
theorem dX0_freeNodesIfJoined_18 : decode cX0_freeNodesIfJoined 18 = .ok (.istore_n 3, 1) := by decide +kernel
theorem dX0_freeNodesIfJoined_19 : decode cX0_freeNodesIfJoined 19 = .ok (.iload_n 3, 1) := by decide +kernel
theorem dX0_freeNodesIfJoined_20 : decode cX0_freeNodesIfJoined 20 = .ok (.ifCond .le 32, 3) := by decide +kernel
theorem dX0_freeNodesIfJoined_23 : decode cX0_freeNodesIfJoined 23 = .ok (.iload_n 2, 1) := by decide +kernel
theorem dX0_freeNodesIfJoined_24 : decode cX0_freeNodesIfJoined 24 = .ok (.ifCond .eq 28, 3) := by decide +kernel
theorem dX0_freeNodesIfJoined_27 : decode cX0_freeNodesIfJoined 27 = .ok (.iinc 1 1, 3) := by decide +kernel
theorem dX0_freeNodesIfJoined_30 : decode cX0_freeNodesIfJoined 30 = .ok (.aload_n 0, 1) := by decide +kernel
theorem dX0_freeNodesIfJoined_31 : decode cX0_freeNodesIfJoined 31 = .ok (.getfield 21, 3) := by decide +kernel
theorem dX0_freeNodesIfJoined_34 : decode cX0_freeNodesIfJoined 34 = .ok (.aload_n 0, 1) := by decide +kernel
theorem dX0_freeNodesIfJoined_35 : decode cX0_freeNodesIfJoined 35 = .ok (.getfield 21, 3) := by decide +kernel
theorem dX0_freeNodesIfJoined_38 : decode cX0_freeNodesIfJoined 38 = .ok (.iload_n 2, 1) := by decide +kernel
theorem dX0_freeNodesIfJoined_39 : decode cX0_freeNodesIfJoined 39 = .ok (.invokevirtual 128, 3) := by decide +kernel
theorem dX0_freeNodesIfJoined_42 : decode cX0_freeNodesIfJoined 42 = .ok (.invokevirtual 120, 3) := by decide +kernel
theorem dX0_freeNodesIfJoined_45 : decode cX0_freeNodesIfJoined 45 = .ok (.istore_n 2, 1) := by decide +kernel
theorem dX0_freeNodesIfJoined_46 : decode cX0_freeNodesIfJoined 46 = .ok (.iinc 3 (-1), 3) := by decide +kernel
theorem dX0_freeNodesIfJoined_49 : decode cX0_freeNodesIfJoined 49 = .ok (.goto (-30), 3) := by decide +kernel
theorem dX0_freeNodesIfJoined_52 : decode cX0_freeNodesIfJoined 52 = .ok (.iload_n 1, 1) := by decide +kernel
theorem dX0_freeNodesIfJoined_53 : decode cX0_freeNodesIfJoined 53 = .ok (.ireturn, 1) := by decide +kernel
set_option maxRecDepth 20000 in
theorem ggX0_grantsLeft_X0_fillShares : GoodIn wsX0_grantsLeft wsX0_fillShares := goodIn_r _ [7, 8, 9, 2, 10, 11, 12, 13, 14, 46, 47, 48, 49, 50, 51, 52, 53, 54, 55, 56, 57, 58, 59, 60, 61, 62] (by decide +kernel) (by decide +kernel)
set_option maxRecDepth 20000 in
theorem gX0_grantsLeft_X0_fillShares : GoodIn wsX0_grantsLeft (wsV RX0 131 RX0 yX0_fillShares wsX0_fillShares) := goodIn_app (goodIn_of _ (by decide +kernel)) ggX0_grantsLeft_X0_fillShares
set_option maxRecDepth 20000 in
theorem ggX0_grantsLeft_X2_made : GoodIn wsX0_grantsLeft wsX2_made := goodIn_r _ [19, 20, 63, 64, 65, 66, 67, 68, 69, 70, 71] (by decide +kernel) (by decide +kernel)
set_option maxRecDepth 20000 in
theorem gX0_grantsLeft_X2_made : GoodIn wsX0_grantsLeft (wsV RX0 114 RX2 yX2_made wsX2_made) := goodIn_app (goodIn_of _ (by decide +kernel)) ggX0_grantsLeft_X2_made
set_option maxRecDepth 20000 in
theorem ggX0_grantsLeft_X2_childOf : GoodIn wsX0_grantsLeft wsX2_childOf := goodIn_r _ [24, 25, 63, 64, 65, 66, 67, 68, 69, 70, 71] (by decide +kernel) (by decide +kernel)
set_option maxRecDepth 20000 in
theorem gX0_grantsLeft_X2_childOf : GoodIn wsX0_grantsLeft (wsV RX0 134 RX2 yX2_childOf wsX2_childOf) := goodIn_app (goodIn_of _ (by decide +kernel)) ggX0_grantsLeft_X2_childOf
set_option maxRecDepth 20000 in
theorem ggX0_grantsLeft_X0_childHolds : GoodIn wsX0_grantsLeft wsX0_childHolds := goodIn_r _ [29, 1, 10, 30, 31, 32, 18, 33, 34, 46, 47, 48, 49, 50, 51, 52, 53, 54, 55, 56, 57, 58, 59, 60, 61, 62, 63, 64, 65, 66, 67, 68, 69, 70, 71] (by decide +kernel) (by decide +kernel)
set_option maxRecDepth 20000 in
theorem gX0_grantsLeft_X0_childHolds : GoodIn wsX0_grantsLeft (wsV RX0 137 RX0 yX0_childHolds wsX0_childHolds) := goodIn_app (goodIn_of _ (by decide +kernel)) ggX0_grantsLeft_X0_childHolds
set_option maxRecDepth 20000 in
theorem ggX0_grantsLeft_X2_hasLive : GoodIn wsX0_grantsLeft wsX2_hasLive := goodIn_r _ [38, 39, 40, 63, 64, 65, 66, 67, 68, 69, 70, 71] (by decide +kernel) (by decide +kernel)
set_option maxRecDepth 20000 in
theorem gX0_grantsLeft_X2_hasLive : GoodIn wsX0_grantsLeft (wsV RX0 141 RX2 yX2_hasLive wsX2_hasLive) := goodIn_app (goodIn_of _ (by decide +kernel)) ggX0_grantsLeft_X2_hasLive
set_option maxRecDepth 20000 in
theorem ggX0_grantsLeft_X2_kindOf : GoodIn wsX0_grantsLeft wsX2_kindOf := goodIn_r _ [33, 34, 63, 64, 65, 66, 67, 68, 69, 70, 71] (by decide +kernel) (by decide +kernel)
set_option maxRecDepth 20000 in
theorem gX0_grantsLeft_X2_kindOf : GoodIn wsX0_grantsLeft (wsV RX0 80 RX2 yX2_kindOf wsX2_kindOf) := goodIn_app (goodIn_of _ (by decide +kernel)) ggX0_grantsLeft_X2_kindOf
set_option maxRecDepth 20000 in
theorem ggX0_grantsLeft_X2_behind : GoodIn wsX0_grantsLeft wsX2_behind := goodIn_r _ [44, 45, 63, 64, 65, 66, 67, 68, 69, 70, 71] (by decide +kernel) (by decide +kernel)
set_option maxRecDepth 20000 in
theorem gX0_grantsLeft_X2_behind : GoodIn wsX0_grantsLeft (wsV RX0 128 RX2 yX2_behind wsX2_behind) := goodIn_app (goodIn_of _ (by decide +kernel)) ggX0_grantsLeft_X2_behind
theorem dX0_grantsLeft_0 : decode cX0_grantsLeft 0 = .ok (.aload_n 0, 1) := by decide +kernel
theorem dX0_grantsLeft_1 : decode cX0_grantsLeft 1 = .ok (.iload_n 1, 1) := by decide +kernel
theorem dX0_grantsLeft_2 : decode cX0_grantsLeft 2 = .ok (.invokevirtual 131, 3) := by decide +kernel
theorem dX0_grantsLeft_5 : decode cX0_grantsLeft 5 = .ok (.iconst 0, 1) := by decide +kernel
theorem dX0_grantsLeft_6 : decode cX0_grantsLeft 6 = .ok (.istore_n 2, 1) := by decide +kernel
theorem dX0_grantsLeft_7 : decode cX0_grantsLeft 7 = .ok (.iconst 1, 1) := by decide +kernel
theorem dX0_grantsLeft_8 : decode cX0_grantsLeft 8 = .ok (.istore_n 3, 1) := by decide +kernel
theorem dX0_grantsLeft_9 : decode cX0_grantsLeft 9 = .ok (.aload_n 0, 1) := by decide +kernel
theorem dX0_grantsLeft_10 : decode cX0_grantsLeft 10 = .ok (.getfield 21, 3) := by decide +kernel
theorem dX0_grantsLeft_13 : decode cX0_grantsLeft 13 = .ok (.invokevirtual 114, 3) := by decide +kernel
theorem dX0_grantsLeft_16 : decode cX0_grantsLeft 16 = .ok (.istore 4, 2) := by decide +kernel
theorem dX0_grantsLeft_18 : decode cX0_grantsLeft 18 = .ok (.iload 4, 2) := by decide +kernel
theorem dX0_grantsLeft_20 : decode cX0_grantsLeft 20 = .ok (.ifCond .le 85, 3) := by decide +kernel
theorem dX0_grantsLeft_23 : decode cX0_grantsLeft 23 = .ok (.iload_n 3, 1) := by decide +kernel
theorem dX0_grantsLeft_24 : decode cX0_grantsLeft 24 = .ok (.ifCond .eq 81, 3) := by decide +kernel
theorem dX0_grantsLeft_27 : decode cX0_grantsLeft 27 = .ok (.aload_n 0, 1) := by decide +kernel
theorem dX0_grantsLeft_28 : decode cX0_grantsLeft 28 = .ok (.getfield 21, 3) := by decide +kernel
theorem dX0_grantsLeft_31 : decode cX0_grantsLeft 31 = .ok (.iload_n 3, 1) := by decide +kernel
theorem dX0_grantsLeft_32 : decode cX0_grantsLeft 32 = .ok (.invokevirtual 134, 3) := by decide +kernel
theorem dX0_grantsLeft_35 : decode cX0_grantsLeft 35 = .ok (.ifCond .eq 24, 3) := by decide +kernel
theorem dX0_grantsLeft_38 : decode cX0_grantsLeft 38 = .ok (.aload_n 0, 1) := by decide +kernel
theorem dX0_grantsLeft_39 : decode cX0_grantsLeft 39 = .ok (.iload_n 3, 1) := by decide +kernel
theorem dX0_grantsLeft_40 : decode cX0_grantsLeft 40 = .ok (.iload_n 1, 1) := by decide +kernel
theorem dX0_grantsLeft_41 : decode cX0_grantsLeft 41 = .ok (.invokevirtual 137, 3) := by decide +kernel
theorem dX0_grantsLeft_44 : decode cX0_grantsLeft 44 = .ok (.ifCond .eq 15, 3) := by decide +kernel
theorem dX0_grantsLeft_47 : decode cX0_grantsLeft 47 = .ok (.aload_n 0, 1) := by decide +kernel
theorem dX0_grantsLeft_48 : decode cX0_grantsLeft 48 = .ok (.getfield 21, 3) := by decide +kernel
theorem dX0_grantsLeft_51 : decode cX0_grantsLeft 51 = .ok (.iload_n 3, 1) := by decide +kernel
theorem dX0_grantsLeft_52 : decode cX0_grantsLeft 52 = .ok (.invokevirtual 134, 3) := by decide +kernel
theorem dX0_grantsLeft_55 : decode cX0_grantsLeft 55 = .ok (.istore_n 3, 1) := by decide +kernel
theorem dX0_grantsLeft_56 : decode cX0_grantsLeft 56 = .ok (.goto 43, 3) := by decide +kernel
theorem dX0_grantsLeft_59 : decode cX0_grantsLeft 59 = .ok (.iload_n 2, 1) := by decide +kernel
theorem dX0_grantsLeft_60 : decode cX0_grantsLeft 60 = .ok (.aload_n 0, 1) := by decide +kernel
theorem dX0_grantsLeft_61 : decode cX0_grantsLeft 61 = .ok (.getfield 21, 3) := by decide +kernel
theorem dX0_grantsLeft_64 : decode cX0_grantsLeft 64 = .ok (.iload_n 3, 1) := by decide +kernel
theorem dX0_grantsLeft_65 : decode cX0_grantsLeft 65 = .ok (.invokevirtual 141, 3) := by decide +kernel
theorem dX0_grantsLeft_68 : decode cX0_grantsLeft 68 = .ok (.ifCond .eq 7, 3) := by decide +kernel
theorem dX0_grantsLeft_71 : decode cX0_grantsLeft 71 = .ok (.iconst 0, 1) := by decide +kernel
theorem dX0_grantsLeft_72 : decode cX0_grantsLeft 72 = .ok (.goto 16, 3) := by decide +kernel
theorem dX0_grantsLeft_75 : decode cX0_grantsLeft 75 = .ok (.aload_n 0, 1) := by decide +kernel
theorem dX0_grantsLeft_76 : decode cX0_grantsLeft 76 = .ok (.getfield 35, 3) := by decide +kernel
theorem dX0_grantsLeft_79 : decode cX0_grantsLeft 79 = .ok (.aload_n 0, 1) := by decide +kernel
theorem dX0_grantsLeft_80 : decode cX0_grantsLeft 80 = .ok (.getfield 21, 3) := by decide +kernel
theorem dX0_grantsLeft_83 : decode cX0_grantsLeft 83 = .ok (.iload_n 3, 1) := by decide +kernel
theorem dX0_grantsLeft_84 : decode cX0_grantsLeft 84 = .ok (.invokevirtual 80, 3) := by decide +kernel
theorem dX0_grantsLeft_87 : decode cX0_grantsLeft 87 = .ok (.iaload, 1) := by decide +kernel
theorem dX0_grantsLeft_88 : decode cX0_grantsLeft 88 = .ok (.iadd, 1) := by decide +kernel
theorem dX0_grantsLeft_89 : decode cX0_grantsLeft 89 = .ok (.istore_n 2, 1) := by decide +kernel
theorem dX0_grantsLeft_90 : decode cX0_grantsLeft 90 = .ok (.aload_n 0, 1) := by decide +kernel
theorem dX0_grantsLeft_91 : decode cX0_grantsLeft 91 = .ok (.getfield 21, 3) := by decide +kernel
theorem dX0_grantsLeft_94 : decode cX0_grantsLeft 94 = .ok (.iload_n 3, 1) := by decide +kernel
theorem dX0_grantsLeft_95 : decode cX0_grantsLeft 95 = .ok (.invokevirtual 128, 3) := by decide +kernel
theorem dX0_grantsLeft_98 : decode cX0_grantsLeft 98 = .ok (.istore_n 3, 1) := by decide +kernel
theorem dX0_grantsLeft_99 : decode cX0_grantsLeft 99 = .ok (.iinc 4 (-1), 3) := by decide +kernel
theorem dX0_grantsLeft_102 : decode cX0_grantsLeft 102 = .ok (.goto (-84), 3) := by decide +kernel
theorem dX0_grantsLeft_105 : decode cX0_grantsLeft 105 = .ok (.iload_n 2, 1) := by decide +kernel
theorem dX0_grantsLeft_106 : decode cX0_grantsLeft 106 = .ok (.ireturn, 1) := by decide +kernel
theorem dX0_fillShares_0 : decode cX0_fillShares 0 = .ok (.iconst 0, 1) := by decide +kernel
theorem dX0_fillShares_1 : decode cX0_fillShares 1 = .ok (.istore_n 2, 1) := by decide +kernel
theorem dX0_fillShares_2 : decode cX0_fillShares 2 = .ok (.iload_n 2, 1) := by decide +kernel
theorem dX0_fillShares_3 : decode cX0_fillShares 3 = .ok (.aload_n 0, 1) := by decide +kernel
theorem dX0_fillShares_4 : decode cX0_fillShares 4 = .ok (.getfield 42, 3) := by decide +kernel
theorem dX0_fillShares_7 : decode cX0_fillShares 7 = .ok (.if_icmp .ge 72, 3) := by decide +kernel
theorem dX0_fillShares_10 : decode cX0_fillShares 10 = .ok (.aload_n 0, 1) := by decide +kernel
theorem dX0_fillShares_11 : decode cX0_fillShares 11 = .ok (.getfield 32, 3) := by decide +kernel
theorem dX0_fillShares_14 : decode cX0_fillShares 14 = .ok (.iload_n 2, 1) := by decide +kernel
theorem dX0_fillShares_15 : decode cX0_fillShares 15 = .ok (.iaload, 1) := by decide +kernel
theorem dX0_fillShares_16 : decode cX0_fillShares 16 = .ok (.istore_n 3, 1) := by decide +kernel
theorem dX0_fillShares_17 : decode cX0_fillShares 17 = .ok (.aload_n 0, 1) := by decide +kernel
theorem dX0_fillShares_18 : decode cX0_fillShares 18 = .ok (.getfield 35, 3) := by decide +kernel
theorem dX0_fillShares_21 : decode cX0_fillShares 21 = .ok (.iload_n 3, 1) := by decide +kernel
theorem dX0_fillShares_22 : decode cX0_fillShares 22 = .ok (.aload_n 0, 1) := by decide +kernel
theorem dX0_fillShares_23 : decode cX0_fillShares 23 = .ok (.getfield 12, 3) := by decide +kernel
theorem dX0_fillShares_26 : decode cX0_fillShares 26 = .ok (.getfield 77, 3) := by decide +kernel
theorem dX0_fillShares_29 : decode cX0_fillShares 29 = .ok (.iload_n 3, 1) := by decide +kernel
theorem dX0_fillShares_30 : decode cX0_fillShares 30 = .ok (.iaload, 1) := by decide +kernel
theorem dX0_fillShares_31 : decode cX0_fillShares 31 = .ok (.iload_n 1, 1) := by decide +kernel
theorem dX0_fillShares_32 : decode cX0_fillShares 32 = .ok (.if_icmp .ge 7, 3) := by decide +kernel
theorem dX0_fillShares_35 : decode cX0_fillShares 35 = .ok (.iconst 0, 1) := by decide +kernel
theorem dX0_fillShares_36 : decode cX0_fillShares 36 = .ok (.goto 36, 3) := by decide +kernel
theorem dX0_fillShares_39 : decode cX0_fillShares 39 = .ok (.iconst 1, 1) := by decide +kernel
theorem dX0_fillShares_40 : decode cX0_fillShares 40 = .ok (.aload_n 0, 1) := by decide +kernel
theorem dX0_fillShares_41 : decode cX0_fillShares 41 = .ok (.getfield 35, 3) := by decide +kernel
theorem dX0_fillShares_44 : decode cX0_fillShares 44 = .ok (.aload_n 0, 1) := by decide +kernel
theorem dX0_fillShares_45 : decode cX0_fillShares 45 = .ok (.getfield 12, 3) := by decide +kernel
theorem dX0_fillShares_48 : decode cX0_fillShares 48 = .ok (.getfield 145, 3) := by decide +kernel
theorem dX0_fillShares_51 : decode cX0_fillShares 51 = .ok (.iload_n 3, 1) := by decide +kernel
theorem dX0_fillShares_52 : decode cX0_fillShares 52 = .ok (.iaload, 1) := by decide +kernel
theorem dX0_fillShares_53 : decode cX0_fillShares 53 = .ok (.iaload, 1) := by decide +kernel
theorem dX0_fillShares_54 : decode cX0_fillShares 54 = .ok (.aload_n 0, 1) := by decide +kernel
theorem dX0_fillShares_55 : decode cX0_fillShares 55 = .ok (.getfield 35, 3) := by decide +kernel
theorem dX0_fillShares_58 : decode cX0_fillShares 58 = .ok (.aload_n 0, 1) := by decide +kernel
theorem dX0_fillShares_59 : decode cX0_fillShares 59 = .ok (.getfield 12, 3) := by decide +kernel
theorem dX0_fillShares_62 : decode cX0_fillShares 62 = .ok (.getfield 148, 3) := by decide +kernel
theorem dX0_fillShares_65 : decode cX0_fillShares 65 = .ok (.iload_n 3, 1) := by decide +kernel
theorem dX0_fillShares_66 : decode cX0_fillShares 66 = .ok (.iaload, 1) := by decide +kernel
theorem dX0_fillShares_67 : decode cX0_fillShares 67 = .ok (.iaload, 1) := by decide +kernel
theorem dX0_fillShares_68 : decode cX0_fillShares 68 = .ok (.iadd, 1) := by decide +kernel
theorem dX0_fillShares_69 : decode cX0_fillShares 69 = .ok (.invokestatic 123, 3) := by decide +kernel
theorem dX0_fillShares_72 : decode cX0_fillShares 72 = .ok (.iastore, 1) := by decide +kernel
theorem dX0_fillShares_73 : decode cX0_fillShares 73 = .ok (.iinc 2 1, 3) := by decide +kernel
theorem dX0_fillShares_76 : decode cX0_fillShares 76 = .ok (.goto (-74), 3) := by decide +kernel
theorem dX0_fillShares_79 : decode cX0_fillShares 79 = .ok (.return_, 1) := by decide +kernel
set_option maxRecDepth 20000 in
theorem ggX0_childHolds_X2_kindOf : GoodIn wsX0_childHolds wsX2_kindOf := goodIn_r _ [7, 8, 26, 27, 28, 29, 30, 31, 32, 33, 34] (by decide +kernel) (by decide +kernel)
set_option maxRecDepth 20000 in
theorem gX0_childHolds_X2_kindOf : GoodIn wsX0_childHolds (wsV RX0 80 RX2 yX2_kindOf wsX2_kindOf) := goodIn_app (goodIn_of _ (by decide +kernel)) ggX0_childHolds_X2_kindOf
theorem dX0_childHolds_0 : decode cX0_childHolds 0 = .ok (.aload_n 0, 1) := by decide +kernel
theorem dX0_childHolds_1 : decode cX0_childHolds 1 = .ok (.getfield 21, 3) := by decide +kernel
theorem dX0_childHolds_4 : decode cX0_childHolds 4 = .ok (.iload_n 1, 1) := by decide +kernel
theorem dX0_childHolds_5 : decode cX0_childHolds 5 = .ok (.invokevirtual 80, 3) := by decide +kernel
theorem dX0_childHolds_8 : decode cX0_childHolds 8 = .ok (.istore_n 3, 1) := by decide +kernel
theorem dX0_childHolds_9 : decode cX0_childHolds 9 = .ok (.aload_n 0, 1) := by decide +kernel
theorem dX0_childHolds_10 : decode cX0_childHolds 10 = .ok (.getfield 12, 3) := by decide +kernel
theorem dX0_childHolds_13 : decode cX0_childHolds 13 = .ok (.getfield 77, 3) := by decide +kernel
theorem dX0_childHolds_16 : decode cX0_childHolds 16 = .ok (.aload_n 0, 1) := by decide +kernel
theorem dX0_childHolds_17 : decode cX0_childHolds 17 = .ok (.getfield 12, 3) := by decide +kernel
theorem dX0_childHolds_20 : decode cX0_childHolds 20 = .ok (.getfield 145, 3) := by decide +kernel
theorem dX0_childHolds_23 : decode cX0_childHolds 23 = .ok (.iload_n 3, 1) := by decide +kernel
theorem dX0_childHolds_24 : decode cX0_childHolds 24 = .ok (.iaload, 1) := by decide +kernel
theorem dX0_childHolds_25 : decode cX0_childHolds 25 = .ok (.iaload, 1) := by decide +kernel
theorem dX0_childHolds_26 : decode cX0_childHolds 26 = .ok (.iload_n 2, 1) := by decide +kernel
theorem dX0_childHolds_27 : decode cX0_childHolds 27 = .ok (.if_icmp .ge 24, 3) := by decide +kernel
theorem dX0_childHolds_30 : decode cX0_childHolds 30 = .ok (.aload_n 0, 1) := by decide +kernel
theorem dX0_childHolds_31 : decode cX0_childHolds 31 = .ok (.getfield 12, 3) := by decide +kernel
theorem dX0_childHolds_34 : decode cX0_childHolds 34 = .ok (.getfield 77, 3) := by decide +kernel
theorem dX0_childHolds_37 : decode cX0_childHolds 37 = .ok (.aload_n 0, 1) := by decide +kernel
theorem dX0_childHolds_38 : decode cX0_childHolds 38 = .ok (.getfield 12, 3) := by decide +kernel
theorem dX0_childHolds_41 : decode cX0_childHolds 41 = .ok (.getfield 148, 3) := by decide +kernel
theorem dX0_childHolds_44 : decode cX0_childHolds 44 = .ok (.iload_n 3, 1) := by decide +kernel
theorem dX0_childHolds_45 : decode cX0_childHolds 45 = .ok (.iaload, 1) := by decide +kernel
theorem dX0_childHolds_46 : decode cX0_childHolds 46 = .ok (.iaload, 1) := by decide +kernel
theorem dX0_childHolds_47 : decode cX0_childHolds 47 = .ok (.iload_n 2, 1) := by decide +kernel
theorem dX0_childHolds_48 : decode cX0_childHolds 48 = .ok (.if_icmp .lt 7, 3) := by decide +kernel
theorem dX0_childHolds_51 : decode cX0_childHolds 51 = .ok (.iconst 1, 1) := by decide +kernel
theorem dX0_childHolds_52 : decode cX0_childHolds 52 = .ok (.goto 4, 3) := by decide +kernel
theorem dX0_childHolds_55 : decode cX0_childHolds 55 = .ok (.iconst 0, 1) := by decide +kernel
theorem dX0_childHolds_56 : decode cX0_childHolds 56 = .ok (.ireturn, 1) := by decide +kernel
set_option maxRecDepth 20000 in
theorem ggX0_sortBySize_X0_reaches : GoodIn wsX0_sortBySize wsX0_reaches := goodIn_r _ [8, 9, 10, 11, 12, 13, 14, 15, 16, 17, 18, 19, 20, 21, 22] (by decide +kernel) (by decide +kernel)
set_option maxRecDepth 20000 in
theorem gX0_sortBySize_X0_reaches : GoodIn wsX0_sortBySize (wsV RX0 151 RX0 yX0_reaches wsX0_reaches) := goodIn_app (goodIn_of _ (by decide +kernel)) ggX0_sortBySize_X0_reaches
theorem dX0_sortBySize_0 : decode cX0_sortBySize 0 = .ok (.aload_n 0, 1) := by decide +kernel
theorem dX0_sortBySize_1 : decode cX0_sortBySize 1 = .ok (.iconst 0, 1) := by decide +kernel
theorem dX0_sortBySize_2 : decode cX0_sortBySize 2 = .ok (.putfield 42, 3) := by decide +kernel
theorem dX0_sortBySize_5 : decode cX0_sortBySize 5 = .ok (.iconst 1, 1) := by decide +kernel
theorem dX0_sortBySize_6 : decode cX0_sortBySize 6 = .ok (.istore_n 1, 1) := by decide +kernel
theorem dX0_sortBySize_7 : decode cX0_sortBySize 7 = .ok (.iload_n 1, 1) := by decide +kernel
theorem dX0_sortBySize_8 : decode cX0_sortBySize 8 = .ok (.bipush 24, 2) := by decide +kernel
theorem dX0_sortBySize_10 : decode cX0_sortBySize 10 = .ok (.if_icmp .gt 91, 3) := by decide +kernel
theorem dX0_sortBySize_13 : decode cX0_sortBySize 13 = .ok (.aload_n 0, 1) := by decide +kernel
theorem dX0_sortBySize_14 : decode cX0_sortBySize 14 = .ok (.iload_n 1, 1) := by decide +kernel
theorem dX0_sortBySize_15 : decode cX0_sortBySize 15 = .ok (.invokevirtual 151, 3) := by decide +kernel
theorem dX0_sortBySize_18 : decode cX0_sortBySize 18 = .ok (.ifCond .eq 77, 3) := by decide +kernel
theorem dX0_sortBySize_21 : decode cX0_sortBySize 21 = .ok (.aload_n 0, 1) := by decide +kernel
theorem dX0_sortBySize_22 : decode cX0_sortBySize 22 = .ok (.getfield 42, 3) := by decide +kernel
theorem dX0_sortBySize_25 : decode cX0_sortBySize 25 = .ok (.istore_n 2, 1) := by decide +kernel
theorem dX0_sortBySize_26 : decode cX0_sortBySize 26 = .ok (.iload_n 2, 1) := by decide +kernel
theorem dX0_sortBySize_27 : decode cX0_sortBySize 27 = .ok (.ifCond .le 51, 3) := by decide +kernel
theorem dX0_sortBySize_30 : decode cX0_sortBySize 30 = .ok (.aload_n 0, 1) := by decide +kernel
theorem dX0_sortBySize_31 : decode cX0_sortBySize 31 = .ok (.getfield 12, 3) := by decide +kernel
theorem dX0_sortBySize_34 : decode cX0_sortBySize 34 = .ok (.getfield 77, 3) := by decide +kernel
theorem dX0_sortBySize_37 : decode cX0_sortBySize 37 = .ok (.aload_n 0, 1) := by decide +kernel
theorem dX0_sortBySize_38 : decode cX0_sortBySize 38 = .ok (.getfield 32, 3) := by decide +kernel
theorem dX0_sortBySize_41 : decode cX0_sortBySize 41 = .ok (.iload_n 2, 1) := by decide +kernel
theorem dX0_sortBySize_42 : decode cX0_sortBySize 42 = .ok (.iconst 1, 1) := by decide +kernel
theorem dX0_sortBySize_43 : decode cX0_sortBySize 43 = .ok (.isub, 1) := by decide +kernel
theorem dX0_sortBySize_44 : decode cX0_sortBySize 44 = .ok (.iaload, 1) := by decide +kernel
theorem dX0_sortBySize_45 : decode cX0_sortBySize 45 = .ok (.iaload, 1) := by decide +kernel
theorem dX0_sortBySize_46 : decode cX0_sortBySize 46 = .ok (.aload_n 0, 1) := by decide +kernel
theorem dX0_sortBySize_47 : decode cX0_sortBySize 47 = .ok (.getfield 12, 3) := by decide +kernel
theorem dX0_sortBySize_50 : decode cX0_sortBySize 50 = .ok (.getfield 77, 3) := by decide +kernel
theorem dX0_sortBySize_53 : decode cX0_sortBySize 53 = .ok (.iload_n 1, 1) := by decide +kernel
theorem dX0_sortBySize_54 : decode cX0_sortBySize 54 = .ok (.iaload, 1) := by decide +kernel
theorem dX0_sortBySize_55 : decode cX0_sortBySize 55 = .ok (.if_icmp .le 23, 3) := by decide +kernel
theorem dX0_sortBySize_58 : decode cX0_sortBySize 58 = .ok (.aload_n 0, 1) := by decide +kernel
theorem dX0_sortBySize_59 : decode cX0_sortBySize 59 = .ok (.getfield 32, 3) := by decide +kernel
theorem dX0_sortBySize_62 : decode cX0_sortBySize 62 = .ok (.iload_n 2, 1) := by decide +kernel
theorem dX0_sortBySize_63 : decode cX0_sortBySize 63 = .ok (.aload_n 0, 1) := by decide +kernel
theorem dX0_sortBySize_64 : decode cX0_sortBySize 64 = .ok (.getfield 32, 3) := by decide +kernel
theorem dX0_sortBySize_67 : decode cX0_sortBySize 67 = .ok (.iload_n 2, 1) := by decide +kernel
theorem dX0_sortBySize_68 : decode cX0_sortBySize 68 = .ok (.iconst 1, 1) := by decide +kernel
theorem dX0_sortBySize_69 : decode cX0_sortBySize 69 = .ok (.isub, 1) := by decide +kernel
theorem dX0_sortBySize_70 : decode cX0_sortBySize 70 = .ok (.iaload, 1) := by decide +kernel
theorem dX0_sortBySize_71 : decode cX0_sortBySize 71 = .ok (.iastore, 1) := by decide +kernel
theorem dX0_sortBySize_72 : decode cX0_sortBySize 72 = .ok (.iinc 2 (-1), 3) := by decide +kernel
theorem dX0_sortBySize_75 : decode cX0_sortBySize 75 = .ok (.goto (-49), 3) := by decide +kernel
theorem dX0_sortBySize_78 : decode cX0_sortBySize 78 = .ok (.aload_n 0, 1) := by decide +kernel
theorem dX0_sortBySize_79 : decode cX0_sortBySize 79 = .ok (.getfield 32, 3) := by decide +kernel
theorem dX0_sortBySize_82 : decode cX0_sortBySize 82 = .ok (.iload_n 2, 1) := by decide +kernel
theorem dX0_sortBySize_83 : decode cX0_sortBySize 83 = .ok (.iload_n 1, 1) := by decide +kernel
theorem dX0_sortBySize_84 : decode cX0_sortBySize 84 = .ok (.iastore, 1) := by decide +kernel
theorem dX0_sortBySize_85 : decode cX0_sortBySize 85 = .ok (.aload_n 0, 1) := by decide +kernel
theorem dX0_sortBySize_86 : decode cX0_sortBySize 86 = .ok (.dup, 1) := by decide +kernel
theorem dX0_sortBySize_87 : decode cX0_sortBySize 87 = .ok (.getfield 42, 3) := by decide +kernel
theorem dX0_sortBySize_90 : decode cX0_sortBySize 90 = .ok (.iconst 1, 1) := by decide +kernel
theorem dX0_sortBySize_91 : decode cX0_sortBySize 91 = .ok (.iadd, 1) := by decide +kernel
theorem dX0_sortBySize_92 : decode cX0_sortBySize 92 = .ok (.putfield 42, 3) := by decide +kernel
theorem dX0_sortBySize_95 : decode cX0_sortBySize 95 = .ok (.iinc 1 1, 3) := by decide +kernel
theorem dX0_sortBySize_98 : decode cX0_sortBySize 98 = .ok (.goto (-91), 3) := by decide +kernel
theorem dX0_sortBySize_101 : decode cX0_sortBySize 101 = .ok (.return_, 1) := by decide +kernel
set_option maxRecDepth 20000 in
theorem ggX0_tightest_X2_hasFree : GoodIn wsX0_tightest wsX2_hasFree := goodIn_r _ [9, 10, 33, 34, 35, 36, 37, 38, 39, 40, 41] (by decide +kernel) (by decide +kernel)
set_option maxRecDepth 20000 in
theorem gX0_tightest_X2_hasFree : GoodIn wsX0_tightest (wsV RX0 154 RX2 yX2_hasFree wsX2_hasFree) := goodIn_app (goodIn_of _ (by decide +kernel)) ggX0_tightest_X2_hasFree
set_option maxRecDepth 20000 in
theorem ggX0_tightest_X2_outermost : GoodIn wsX0_tightest wsX2_outermost := goodIn_r _ [14, 10, 15, 33, 34, 35, 36, 37, 38, 39, 40, 41] (by decide +kernel) (by decide +kernel)
set_option maxRecDepth 20000 in
theorem gX0_tightest_X2_outermost : GoodIn wsX0_tightest (wsV RX0 157 RX2 yX2_outermost wsX2_outermost) := goodIn_app (goodIn_of _ (by decide +kernel)) ggX0_tightest_X2_outermost
theorem dX0_tightest_0 : decode cX0_tightest 0 = .ok (.iconst 0, 1) := by decide +kernel
theorem dX0_tightest_1 : decode cX0_tightest 1 = .ok (.istore_n 2, 1) := by decide +kernel
theorem dX0_tightest_2 : decode cX0_tightest 2 = .ok (.iconst 0, 1) := by decide +kernel
theorem dX0_tightest_3 : decode cX0_tightest 3 = .ok (.istore_n 3, 1) := by decide +kernel
theorem dX0_tightest_4 : decode cX0_tightest 4 = .ok (.iconst 0, 1) := by decide +kernel
theorem dX0_tightest_5 : decode cX0_tightest 5 = .ok (.istore 4, 2) := by decide +kernel
theorem dX0_tightest_7 : decode cX0_tightest 7 = .ok (.iload 4, 2) := by decide +kernel
theorem dX0_tightest_9 : decode cX0_tightest 9 = .ok (.aload_n 0, 1) := by decide +kernel
theorem dX0_tightest_10 : decode cX0_tightest 10 = .ok (.getfield 42, 3) := by decide +kernel
theorem dX0_tightest_13 : decode cX0_tightest 13 = .ok (.if_icmp .ge 83, 3) := by decide +kernel
theorem dX0_tightest_16 : decode cX0_tightest 16 = .ok (.aload_n 0, 1) := by decide +kernel
theorem dX0_tightest_17 : decode cX0_tightest 17 = .ok (.getfield 32, 3) := by decide +kernel
theorem dX0_tightest_20 : decode cX0_tightest 20 = .ok (.iload 4, 2) := by decide +kernel
theorem dX0_tightest_22 : decode cX0_tightest 22 = .ok (.iaload, 1) := by decide +kernel
theorem dX0_tightest_23 : decode cX0_tightest 23 = .ok (.istore 5, 2) := by decide +kernel
theorem dX0_tightest_25 : decode cX0_tightest 25 = .ok (.aload_n 0, 1) := by decide +kernel
theorem dX0_tightest_26 : decode cX0_tightest 26 = .ok (.getfield 12, 3) := by decide +kernel
theorem dX0_tightest_29 : decode cX0_tightest 29 = .ok (.getfield 77, 3) := by decide +kernel
theorem dX0_tightest_32 : decode cX0_tightest 32 = .ok (.iload 5, 2) := by decide +kernel
theorem dX0_tightest_34 : decode cX0_tightest 34 = .ok (.iaload, 1) := by decide +kernel
theorem dX0_tightest_35 : decode cX0_tightest 35 = .ok (.iload_n 1, 1) := by decide +kernel
theorem dX0_tightest_36 : decode cX0_tightest 36 = .ok (.if_icmp .lt 54, 3) := by decide +kernel
theorem dX0_tightest_39 : decode cX0_tightest 39 = .ok (.aload_n 0, 1) := by decide +kernel
theorem dX0_tightest_40 : decode cX0_tightest 40 = .ok (.getfield 21, 3) := by decide +kernel
theorem dX0_tightest_43 : decode cX0_tightest 43 = .ok (.iload 5, 2) := by decide +kernel
theorem dX0_tightest_45 : decode cX0_tightest 45 = .ok (.invokevirtual 154, 3) := by decide +kernel
theorem dX0_tightest_48 : decode cX0_tightest 48 = .ok (.ifCond .eq 42, 3) := by decide +kernel
theorem dX0_tightest_51 : decode cX0_tightest 51 = .ok (.iload_n 2, 1) := by decide +kernel
theorem dX0_tightest_52 : decode cX0_tightest 52 = .ok (.ifCond .eq 20, 3) := by decide +kernel
theorem dX0_tightest_55 : decode cX0_tightest 55 = .ok (.aload_n 0, 1) := by decide +kernel
theorem dX0_tightest_56 : decode cX0_tightest 56 = .ok (.getfield 12, 3) := by decide +kernel
theorem dX0_tightest_59 : decode cX0_tightest 59 = .ok (.getfield 77, 3) := by decide +kernel
theorem dX0_tightest_62 : decode cX0_tightest 62 = .ok (.iload 5, 2) := by decide +kernel
theorem dX0_tightest_64 : decode cX0_tightest 64 = .ok (.iaload, 1) := by decide +kernel
theorem dX0_tightest_65 : decode cX0_tightest 65 = .ok (.iload_n 3, 1) := by decide +kernel
theorem dX0_tightest_66 : decode cX0_tightest 66 = .ok (.if_icmp .eq 6, 3) := by decide +kernel
theorem dX0_tightest_69 : decode cX0_tightest 69 = .ok (.goto 27, 3) := by decide +kernel
theorem dX0_tightest_72 : decode cX0_tightest 72 = .ok (.aload_n 0, 1) := by decide +kernel
theorem dX0_tightest_73 : decode cX0_tightest 73 = .ok (.getfield 12, 3) := by decide +kernel
theorem dX0_tightest_76 : decode cX0_tightest 76 = .ok (.getfield 77, 3) := by decide +kernel
theorem dX0_tightest_79 : decode cX0_tightest 79 = .ok (.iload 5, 2) := by decide +kernel
theorem dX0_tightest_81 : decode cX0_tightest 81 = .ok (.iaload, 1) := by decide +kernel
theorem dX0_tightest_82 : decode cX0_tightest 82 = .ok (.istore_n 3, 1) := by decide +kernel
theorem dX0_tightest_83 : decode cX0_tightest 83 = .ok (.iload_n 2, 1) := by decide +kernel
theorem dX0_tightest_84 : decode cX0_tightest 84 = .ok (.iconst 1, 1) := by decide +kernel
theorem dX0_tightest_85 : decode cX0_tightest 85 = .ok (.iload 5, 2) := by decide +kernel
theorem dX0_tightest_87 : decode cX0_tightest 87 = .ok (.ishl, 1) := by decide +kernel
theorem dX0_tightest_88 : decode cX0_tightest 88 = .ok (.ior, 1) := by decide +kernel
theorem dX0_tightest_89 : decode cX0_tightest 89 = .ok (.istore_n 2, 1) := by decide +kernel
theorem dX0_tightest_90 : decode cX0_tightest 90 = .ok (.iinc 4 1, 3) := by decide +kernel
theorem dX0_tightest_93 : decode cX0_tightest 93 = .ok (.goto (-86), 3) := by decide +kernel
theorem dX0_tightest_96 : decode cX0_tightest 96 = .ok (.aload_n 0, 1) := by decide +kernel
theorem dX0_tightest_97 : decode cX0_tightest 97 = .ok (.getfield 21, 3) := by decide +kernel
theorem dX0_tightest_100 : decode cX0_tightest 100 = .ok (.iload_n 2, 1) := by decide +kernel
theorem dX0_tightest_101 : decode cX0_tightest 101 = .ok (.iconst 0, 1) := by decide +kernel
theorem dX0_tightest_102 : decode cX0_tightest 102 = .ok (.invokevirtual 157, 3) := by decide +kernel
theorem dX0_tightest_105 : decode cX0_tightest 105 = .ok (.ireturn, 1) := by decide +kernel
set_option maxRecDepth 20000 in
theorem ggX0_carve_X0_childHolds : GoodIn wsX0_carve wsX0_childHolds := goodIn_r _ [9, 1, 2, 10, 11, 12, 13, 14, 15, 68, 69, 70, 71, 72, 73, 74, 75, 76, 77, 78, 79, 80, 81, 82, 83, 84, 85, 86, 87, 88, 89, 90, 91, 92, 93] (by decide +kernel) (by decide +kernel)
set_option maxRecDepth 20000 in
theorem gX0_carve_X0_childHolds : GoodIn wsX0_carve (wsV RX0 137 RX0 yX0_childHolds wsX0_childHolds) := goodIn_app (goodIn_of _ (by decide +kernel)) ggX0_carve_X0_childHolds
set_option maxRecDepth 20000 in
theorem ggX0_carve_X2_kindOf : GoodIn wsX0_carve wsX2_kindOf := goodIn_r _ [14, 15, 85, 86, 87, 88, 89, 90, 91, 92, 93] (by decide +kernel) (by decide +kernel)
set_option maxRecDepth 20000 in
theorem gX0_carve_X2_kindOf : GoodIn wsX0_carve (wsV RX0 80 RX2 yX2_kindOf wsX2_kindOf) := goodIn_app (goodIn_of _ (by decide +kernel)) ggX0_carve_X2_kindOf
set_option maxRecDepth 20000 in
theorem ggX0_carve_X2_split : GoodIn wsX0_carve wsX2_split := goodIn_r _ [19, 20, 21, 22, 23, 24, 13, 25, 26, 27, 28, 29, 30, 31, 32, 15, 33, 34, 35, 36, 37, 38, 39, 40, 41, 42, 43, 44, 45, 46, 47, 48, 49, 50, 51, 52, 53, 54, 55, 56, 57, 58, 59, 60, 61, 62, 63, 85, 86, 87, 88, 89, 90, 91, 92, 93] (by decide +kernel) (by decide +kernel)
set_option maxRecDepth 20000 in
theorem gX0_carve_X2_split : GoodIn wsX0_carve (wsV RX0 160 RX2 yX2_split wsX2_split) := goodIn_app (goodIn_of _ (by decide +kernel)) ggX0_carve_X2_split
set_option maxRecDepth 20000 in
theorem ggX0_carve_X2_childOf : GoodIn wsX0_carve wsX2_childOf := goodIn_r _ [67, 21, 85, 86, 87, 88, 89, 90, 91, 92, 93] (by decide +kernel) (by decide +kernel)
set_option maxRecDepth 20000 in
theorem gX0_carve_X2_childOf : GoodIn wsX0_carve (wsV RX0 134 RX2 yX2_childOf wsX2_childOf) := goodIn_app (goodIn_of _ (by decide +kernel)) ggX0_carve_X2_childOf
theorem dX0_carve_0 : decode cX0_carve 0 = .ok (.iload_n 1, 1) := by decide +kernel
theorem dX0_carve_1 : decode cX0_carve 1 = .ok (.istore_n 3, 1) := by decide +kernel
theorem dX0_carve_2 : decode cX0_carve 2 = .ok (.iconst 0, 1) := by decide +kernel
theorem dX0_carve_3 : decode cX0_carve 3 = .ok (.istore 4, 2) := by decide +kernel
theorem dX0_carve_5 : decode cX0_carve 5 = .ok (.iload 4, 2) := by decide +kernel
theorem dX0_carve_7 : decode cX0_carve 7 = .ok (.bipush 24, 2) := by decide +kernel
theorem dX0_carve_9 : decode cX0_carve 9 = .ok (.if_icmp .ge 186, 3) := by decide +kernel
theorem dX0_carve_12 : decode cX0_carve 12 = .ok (.aload_n 0, 1) := by decide +kernel
theorem dX0_carve_13 : decode cX0_carve 13 = .ok (.iload_n 3, 1) := by decide +kernel
theorem dX0_carve_14 : decode cX0_carve 14 = .ok (.iload_n 2, 1) := by decide +kernel
theorem dX0_carve_15 : decode cX0_carve 15 = .ok (.invokevirtual 137, 3) := by decide +kernel
theorem dX0_carve_18 : decode cX0_carve 18 = .ok (.ifCond .eq 177, 3) := by decide +kernel
theorem dX0_carve_21 : decode cX0_carve 21 = .ok (.aload_n 0, 1) := by decide +kernel
theorem dX0_carve_22 : decode cX0_carve 22 = .ok (.getfield 21, 3) := by decide +kernel
theorem dX0_carve_25 : decode cX0_carve 25 = .ok (.iload_n 3, 1) := by decide +kernel
theorem dX0_carve_26 : decode cX0_carve 26 = .ok (.invokevirtual 80, 3) := by decide +kernel
theorem dX0_carve_29 : decode cX0_carve 29 = .ok (.istore 5, 2) := by decide +kernel
theorem dX0_carve_31 : decode cX0_carve 31 = .ok (.aload_n 0, 1) := by decide +kernel
theorem dX0_carve_32 : decode cX0_carve 32 = .ok (.getfield 12, 3) := by decide +kernel
theorem dX0_carve_35 : decode cX0_carve 35 = .ok (.getfield 145, 3) := by decide +kernel
theorem dX0_carve_38 : decode cX0_carve 38 = .ok (.iload 5, 2) := by decide +kernel
theorem dX0_carve_40 : decode cX0_carve 40 = .ok (.iaload, 1) := by decide +kernel
theorem dX0_carve_41 : decode cX0_carve 41 = .ok (.istore 6, 2) := by decide +kernel
theorem dX0_carve_43 : decode cX0_carve 43 = .ok (.aload_n 0, 1) := by decide +kernel
theorem dX0_carve_44 : decode cX0_carve 44 = .ok (.getfield 12, 3) := by decide +kernel
theorem dX0_carve_47 : decode cX0_carve 47 = .ok (.getfield 148, 3) := by decide +kernel
theorem dX0_carve_50 : decode cX0_carve 50 = .ok (.iload 5, 2) := by decide +kernel
theorem dX0_carve_52 : decode cX0_carve 52 = .ok (.iaload, 1) := by decide +kernel
theorem dX0_carve_53 : decode cX0_carve 53 = .ok (.istore 7, 2) := by decide +kernel
theorem dX0_carve_55 : decode cX0_carve 55 = .ok (.aload_n 0, 1) := by decide +kernel
theorem dX0_carve_56 : decode cX0_carve 56 = .ok (.getfield 12, 3) := by decide +kernel
theorem dX0_carve_59 : decode cX0_carve 59 = .ok (.getfield 77, 3) := by decide +kernel
theorem dX0_carve_62 : decode cX0_carve 62 = .ok (.iload 6, 2) := by decide +kernel
theorem dX0_carve_64 : decode cX0_carve 64 = .ok (.iaload, 1) := by decide +kernel
theorem dX0_carve_65 : decode cX0_carve 65 = .ok (.istore 8, 2) := by decide +kernel
theorem dX0_carve_67 : decode cX0_carve 67 = .ok (.aload_n 0, 1) := by decide +kernel
theorem dX0_carve_68 : decode cX0_carve 68 = .ok (.getfield 12, 3) := by decide +kernel
theorem dX0_carve_71 : decode cX0_carve 71 = .ok (.getfield 77, 3) := by decide +kernel
theorem dX0_carve_74 : decode cX0_carve 74 = .ok (.iload 7, 2) := by decide +kernel
theorem dX0_carve_76 : decode cX0_carve 76 = .ok (.iaload, 1) := by decide +kernel
theorem dX0_carve_77 : decode cX0_carve 77 = .ok (.istore 9, 2) := by decide +kernel
theorem dX0_carve_79 : decode cX0_carve 79 = .ok (.aload_n 0, 1) := by decide +kernel
theorem dX0_carve_80 : decode cX0_carve 80 = .ok (.getfield 21, 3) := by decide +kernel
theorem dX0_carve_83 : decode cX0_carve 83 = .ok (.iload_n 3, 1) := by decide +kernel
theorem dX0_carve_84 : decode cX0_carve 84 = .ok (.iload 6, 2) := by decide +kernel
theorem dX0_carve_86 : decode cX0_carve 86 = .ok (.iload 7, 2) := by decide +kernel
theorem dX0_carve_88 : decode cX0_carve 88 = .ok (.iload 8, 2) := by decide +kernel
theorem dX0_carve_90 : decode cX0_carve 90 = .ok (.invokevirtual 160, 3) := by decide +kernel
theorem dX0_carve_93 : decode cX0_carve 93 = .ok (.aload_n 0, 1) := by decide +kernel
theorem dX0_carve_94 : decode cX0_carve 94 = .ok (.getfield 29, 3) := by decide +kernel
theorem dX0_carve_97 : decode cX0_carve 97 = .ok (.iload 5, 2) := by decide +kernel
theorem dX0_carve_99 : decode cX0_carve 99 = .ok (.dup2, 1) := by decide +kernel
theorem dX0_carve_100 : decode cX0_carve 100 = .ok (.iaload, 1) := by decide +kernel
theorem dX0_carve_101 : decode cX0_carve 101 = .ok (.iconst 1, 1) := by decide +kernel
theorem dX0_carve_102 : decode cX0_carve 102 = .ok (.isub, 1) := by decide +kernel
theorem dX0_carve_103 : decode cX0_carve 103 = .ok (.iastore, 1) := by decide +kernel
theorem dX0_carve_104 : decode cX0_carve 104 = .ok (.aload_n 0, 1) := by decide +kernel
theorem dX0_carve_105 : decode cX0_carve 105 = .ok (.getfield 29, 3) := by decide +kernel
theorem dX0_carve_108 : decode cX0_carve 108 = .ok (.iload 6, 2) := by decide +kernel
theorem dX0_carve_110 : decode cX0_carve 110 = .ok (.dup2, 1) := by decide +kernel
theorem dX0_carve_111 : decode cX0_carve 111 = .ok (.iaload, 1) := by decide +kernel
theorem dX0_carve_112 : decode cX0_carve 112 = .ok (.iconst 1, 1) := by decide +kernel
theorem dX0_carve_113 : decode cX0_carve 113 = .ok (.iadd, 1) := by decide +kernel
theorem dX0_carve_114 : decode cX0_carve 114 = .ok (.iastore, 1) := by decide +kernel
theorem dX0_carve_115 : decode cX0_carve 115 = .ok (.aload_n 0, 1) := by decide +kernel
theorem dX0_carve_116 : decode cX0_carve 116 = .ok (.getfield 29, 3) := by decide +kernel
theorem dX0_carve_119 : decode cX0_carve 119 = .ok (.iload 7, 2) := by decide +kernel
theorem dX0_carve_121 : decode cX0_carve 121 = .ok (.dup2, 1) := by decide +kernel
theorem dX0_carve_122 : decode cX0_carve 122 = .ok (.iaload, 1) := by decide +kernel
theorem dX0_carve_123 : decode cX0_carve 123 = .ok (.iconst 1, 1) := by decide +kernel
theorem dX0_carve_124 : decode cX0_carve 124 = .ok (.iadd, 1) := by decide +kernel
theorem dX0_carve_125 : decode cX0_carve 125 = .ok (.iastore, 1) := by decide +kernel
theorem dX0_carve_126 : decode cX0_carve 126 = .ok (.aload_n 0, 1) := by decide +kernel
theorem dX0_carve_127 : decode cX0_carve 127 = .ok (.dup, 1) := by decide +kernel
theorem dX0_carve_128 : decode cX0_carve 128 = .ok (.getfield 57, 3) := by decide +kernel
theorem dX0_carve_131 : decode cX0_carve 131 = .ok (.iconst 1, 1) := by decide +kernel
theorem dX0_carve_132 : decode cX0_carve 132 = .ok (.iadd, 1) := by decide +kernel
theorem dX0_carve_133 : decode cX0_carve 133 = .ok (.putfield 57, 3) := by decide +kernel
theorem dX0_carve_136 : decode cX0_carve 136 = .ok (.iload 8, 2) := by decide +kernel
theorem dX0_carve_138 : decode cX0_carve 138 = .ok (.iload_n 2, 1) := by decide +kernel
theorem dX0_carve_139 : decode cX0_carve 139 = .ok (.if_icmp .lt 20, 3) := by decide +kernel
theorem dX0_carve_142 : decode cX0_carve 142 = .ok (.iload 9, 2) := by decide +kernel
theorem dX0_carve_144 : decode cX0_carve 144 = .ok (.iload_n 2, 1) := by decide +kernel
theorem dX0_carve_145 : decode cX0_carve 145 = .ok (.if_icmp .lt 10, 3) := by decide +kernel
theorem dX0_carve_148 : decode cX0_carve 148 = .ok (.iload 8, 2) := by decide +kernel
theorem dX0_carve_150 : decode cX0_carve 150 = .ok (.iload 9, 2) := by decide +kernel
theorem dX0_carve_152 : decode cX0_carve 152 = .ok (.if_icmp .gt 7, 3) := by decide +kernel
theorem dX0_carve_155 : decode cX0_carve 155 = .ok (.iconst 1, 1) := by decide +kernel
theorem dX0_carve_156 : decode cX0_carve 156 = .ok (.goto 4, 3) := by decide +kernel
theorem dX0_carve_159 : decode cX0_carve 159 = .ok (.iconst 0, 1) := by decide +kernel
theorem dX0_carve_160 : decode cX0_carve 160 = .ok (.istore 10, 2) := by decide +kernel
theorem dX0_carve_162 : decode cX0_carve 162 = .ok (.iload 10, 2) := by decide +kernel
theorem dX0_carve_164 : decode cX0_carve 164 = .ok (.ifCond .eq 14, 3) := by decide +kernel
theorem dX0_carve_167 : decode cX0_carve 167 = .ok (.aload_n 0, 1) := by decide +kernel
theorem dX0_carve_168 : decode cX0_carve 168 = .ok (.getfield 21, 3) := by decide +kernel
theorem dX0_carve_171 : decode cX0_carve 171 = .ok (.iload_n 3, 1) := by decide +kernel
theorem dX0_carve_172 : decode cX0_carve 172 = .ok (.invokevirtual 134, 3) := by decide +kernel
theorem dX0_carve_175 : decode cX0_carve 175 = .ok (.goto 13, 3) := by decide +kernel
theorem dX0_carve_178 : decode cX0_carve 178 = .ok (.aload_n 0, 1) := by decide +kernel
theorem dX0_carve_179 : decode cX0_carve 179 = .ok (.getfield 21, 3) := by decide +kernel
theorem dX0_carve_182 : decode cX0_carve 182 = .ok (.iload_n 3, 1) := by decide +kernel
theorem dX0_carve_183 : decode cX0_carve 183 = .ok (.invokevirtual 134, 3) := by decide +kernel
theorem dX0_carve_186 : decode cX0_carve 186 = .ok (.iconst 1, 1) := by decide +kernel
theorem dX0_carve_187 : decode cX0_carve 187 = .ok (.iadd, 1) := by decide +kernel
theorem dX0_carve_188 : decode cX0_carve 188 = .ok (.istore_n 3, 1) := by decide +kernel
theorem dX0_carve_189 : decode cX0_carve 189 = .ok (.iinc 4 1, 3) := by decide +kernel
theorem dX0_carve_192 : decode cX0_carve 192 = .ok (.goto (-187), 3) := by decide +kernel
theorem dX0_carve_195 : decode cX0_carve 195 = .ok (.iload_n 3, 1) := by decide +kernel
theorem dX0_carve_196 : decode cX0_carve 196 = .ok (.ireturn, 1) := by decide +kernel
set_option maxRecDepth 20000 in
theorem ggX0_uniteUpward_X2_kindOf : GoodIn wsX0_uniteUpward wsX2_kindOf := goodIn_r _ [6, 7, 69, 70, 71, 72, 73, 74, 75, 76, 77] (by decide +kernel) (by decide +kernel)
set_option maxRecDepth 20000 in
theorem gX0_uniteUpward_X2_kindOf : GoodIn wsX0_uniteUpward (wsV RX0 80 RX2 yX2_kindOf wsX2_kindOf) := goodIn_app (goodIn_of _ (by decide +kernel)) ggX0_uniteUpward_X2_kindOf
set_option maxRecDepth 20000 in
theorem ggX0_uniteUpward_X0_isTooMany : GoodIn wsX0_uniteUpward wsX0_isTooMany := goodIn_r _ [12, 13, 14, 56, 57, 58, 59, 60, 61, 62, 63, 64, 65, 66, 67, 68] (by decide +kernel) (by decide +kernel)
set_option maxRecDepth 20000 in
theorem gX0_uniteUpward_X0_isTooMany : GoodIn wsX0_uniteUpward (wsV RX0 164 RX0 yX0_isTooMany wsX0_isTooMany) := goodIn_app (goodIn_of _ (by decide +kernel)) ggX0_uniteUpward_X0_isTooMany
set_option maxRecDepth 20000 in
theorem ggX0_uniteUpward_X2_buddyOf : GoodIn wsX0_uniteUpward wsX2_buddyOf := goodIn_r _ [18] (by decide +kernel) (by decide +kernel)
set_option maxRecDepth 20000 in
theorem gX0_uniteUpward_X2_buddyOf : GoodIn wsX0_uniteUpward (wsV RX0 167 RX2 yX2_buddyOf wsX2_buddyOf) := goodIn_app (goodIn_of _ (by decide +kernel)) ggX0_uniteUpward_X2_buddyOf
set_option maxRecDepth 20000 in
theorem ggX0_uniteUpward_X2_isFree : GoodIn wsX0_uniteUpward wsX2_isFree := goodIn_r _ [22, 23, 24, 69, 70, 71, 72, 73, 74, 75, 76, 77] (by decide +kernel) (by decide +kernel)
set_option maxRecDepth 20000 in
theorem gX0_uniteUpward_X2_isFree : GoodIn wsX0_uniteUpward (wsV RX0 170 RX2 yX2_isFree wsX2_isFree) := goodIn_app (goodIn_of _ (by decide +kernel)) ggX0_uniteUpward_X2_isFree
set_option maxRecDepth 20000 in
theorem ggX0_uniteUpward_X2_parentOf : GoodIn wsX0_uniteUpward wsX2_parentOf := goodIn_r _ [28, 29, 69, 70, 71, 72, 73, 74, 75, 76, 77] (by decide +kernel) (by decide +kernel)
set_option maxRecDepth 20000 in
theorem gX0_uniteUpward_X2_parentOf : GoodIn wsX0_uniteUpward (wsV RX0 173 RX2 yX2_parentOf wsX2_parentOf) := goodIn_app (goodIn_of _ (by decide +kernel)) ggX0_uniteUpward_X2_parentOf
set_option maxRecDepth 20000 in
theorem ggX0_uniteUpward_X0_unite : GoodIn wsX0_uniteUpward wsX0_unite := goodIn_r _ [33, 1, 13, 34, 35, 36, 37, 5, 38, 23, 2, 3, 4, 6, 7, 39, 40, 41, 42, 29, 43, 44, 45, 46, 47, 48, 49, 50, 51, 52, 53, 24, 54, 55, 56, 57, 58, 59, 60, 61, 62, 63, 64, 65, 66, 67, 68, 69, 70, 71, 72, 73, 74, 75, 76, 77] (by decide +kernel) (by decide +kernel)
set_option maxRecDepth 20000 in
theorem gX0_uniteUpward_X0_unite : GoodIn wsX0_uniteUpward (wsV RX0 117 RX0 yX0_unite wsX0_unite) := goodIn_app (goodIn_of _ (by decide +kernel)) ggX0_uniteUpward_X0_unite
theorem dX0_uniteUpward_0 : decode cX0_uniteUpward 0 = .ok (.iload_n 1, 1) := by decide +kernel
theorem dX0_uniteUpward_1 : decode cX0_uniteUpward 1 = .ok (.istore_n 2, 1) := by decide +kernel
theorem dX0_uniteUpward_2 : decode cX0_uniteUpward 2 = .ok (.iconst 0, 1) := by decide +kernel
theorem dX0_uniteUpward_3 : decode cX0_uniteUpward 3 = .ok (.istore_n 3, 1) := by decide +kernel
theorem dX0_uniteUpward_4 : decode cX0_uniteUpward 4 = .ok (.iload_n 3, 1) := by decide +kernel
theorem dX0_uniteUpward_5 : decode cX0_uniteUpward 5 = .ok (.bipush 24, 2) := by decide +kernel
theorem dX0_uniteUpward_7 : decode cX0_uniteUpward 7 = .ok (.if_icmp .ge 59, 3) := by decide +kernel
theorem dX0_uniteUpward_10 : decode cX0_uniteUpward 10 = .ok (.aload_n 0, 1) := by decide +kernel
theorem dX0_uniteUpward_11 : decode cX0_uniteUpward 11 = .ok (.aload_n 0, 1) := by decide +kernel
theorem dX0_uniteUpward_12 : decode cX0_uniteUpward 12 = .ok (.getfield 21, 3) := by decide +kernel
theorem dX0_uniteUpward_15 : decode cX0_uniteUpward 15 = .ok (.iload_n 2, 1) := by decide +kernel
theorem dX0_uniteUpward_16 : decode cX0_uniteUpward 16 = .ok (.invokevirtual 80, 3) := by decide +kernel
theorem dX0_uniteUpward_19 : decode cX0_uniteUpward 19 = .ok (.invokevirtual 164, 3) := by decide +kernel
theorem dX0_uniteUpward_22 : decode cX0_uniteUpward 22 = .ok (.ifCond .eq 44, 3) := by decide +kernel
theorem dX0_uniteUpward_25 : decode cX0_uniteUpward 25 = .ok (.aload_n 0, 1) := by decide +kernel
theorem dX0_uniteUpward_26 : decode cX0_uniteUpward 26 = .ok (.getfield 21, 3) := by decide +kernel
theorem dX0_uniteUpward_29 : decode cX0_uniteUpward 29 = .ok (.aload_n 0, 1) := by decide +kernel
theorem dX0_uniteUpward_30 : decode cX0_uniteUpward 30 = .ok (.getfield 21, 3) := by decide +kernel
theorem dX0_uniteUpward_33 : decode cX0_uniteUpward 33 = .ok (.iload_n 2, 1) := by decide +kernel
theorem dX0_uniteUpward_34 : decode cX0_uniteUpward 34 = .ok (.invokevirtual 167, 3) := by decide +kernel
theorem dX0_uniteUpward_37 : decode cX0_uniteUpward 37 = .ok (.invokevirtual 170, 3) := by decide +kernel
theorem dX0_uniteUpward_40 : decode cX0_uniteUpward 40 = .ok (.ifCond .ne 6, 3) := by decide +kernel
theorem dX0_uniteUpward_43 : decode cX0_uniteUpward 43 = .ok (.goto 23, 3) := by decide +kernel
theorem dX0_uniteUpward_46 : decode cX0_uniteUpward 46 = .ok (.aload_n 0, 1) := by decide +kernel
theorem dX0_uniteUpward_47 : decode cX0_uniteUpward 47 = .ok (.getfield 21, 3) := by decide +kernel
theorem dX0_uniteUpward_50 : decode cX0_uniteUpward 50 = .ok (.iload_n 2, 1) := by decide +kernel
theorem dX0_uniteUpward_51 : decode cX0_uniteUpward 51 = .ok (.invokevirtual 173, 3) := by decide +kernel
theorem dX0_uniteUpward_54 : decode cX0_uniteUpward 54 = .ok (.istore_n 2, 1) := by decide +kernel
theorem dX0_uniteUpward_55 : decode cX0_uniteUpward 55 = .ok (.aload_n 0, 1) := by decide +kernel
theorem dX0_uniteUpward_56 : decode cX0_uniteUpward 56 = .ok (.iload_n 2, 1) := by decide +kernel
theorem dX0_uniteUpward_57 : decode cX0_uniteUpward 57 = .ok (.invokevirtual 117, 3) := by decide +kernel
theorem dX0_uniteUpward_60 : decode cX0_uniteUpward 60 = .ok (.iinc 3 1, 3) := by decide +kernel
theorem dX0_uniteUpward_63 : decode cX0_uniteUpward 63 = .ok (.goto (-59), 3) := by decide +kernel
theorem dX0_uniteUpward_66 : decode cX0_uniteUpward 66 = .ok (.iload_n 2, 1) := by decide +kernel
theorem dX0_uniteUpward_67 : decode cX0_uniteUpward 67 = .ok (.ireturn, 1) := by decide +kernel
theorem dX0_isTooMany_0 : decode cX0_isTooMany 0 = .ok (.aload_n 0, 1) := by decide +kernel
theorem dX0_isTooMany_1 : decode cX0_isTooMany 1 = .ok (.getfield 29, 3) := by decide +kernel
theorem dX0_isTooMany_4 : decode cX0_isTooMany 4 = .ok (.iload_n 1, 1) := by decide +kernel
theorem dX0_isTooMany_5 : decode cX0_isTooMany 5 = .ok (.iaload, 1) := by decide +kernel
theorem dX0_isTooMany_6 : decode cX0_isTooMany 6 = .ok (.aload_n 0, 1) := by decide +kernel
theorem dX0_isTooMany_7 : decode cX0_isTooMany 7 = .ok (.getfield 25, 3) := by decide +kernel
theorem dX0_isTooMany_10 : decode cX0_isTooMany 10 = .ok (.iload_n 1, 1) := by decide +kernel
theorem dX0_isTooMany_11 : decode cX0_isTooMany 11 = .ok (.iaload, 1) := by decide +kernel
theorem dX0_isTooMany_12 : decode cX0_isTooMany 12 = .ok (.if_icmp .le 7, 3) := by decide +kernel
theorem dX0_isTooMany_15 : decode cX0_isTooMany 15 = .ok (.iconst 1, 1) := by decide +kernel
theorem dX0_isTooMany_16 : decode cX0_isTooMany 16 = .ok (.goto 4, 3) := by decide +kernel
theorem dX0_isTooMany_19 : decode cX0_isTooMany 19 = .ok (.iconst 0, 1) := by decide +kernel
theorem dX0_isTooMany_20 : decode cX0_isTooMany 20 = .ok (.ireturn, 1) := by decide +kernel
set_option maxRecDepth 20000 in
theorem ggX0_unite_X2_childOf : GoodIn wsX0_unite wsX2_childOf := goodIn_r _ [8, 9, 47, 48, 49, 50, 51, 52, 53, 54, 55] (by decide +kernel) (by decide +kernel)
set_option maxRecDepth 20000 in
theorem gX0_unite_X2_childOf : GoodIn wsX0_unite (wsV RX0 134 RX2 yX2_childOf wsX2_childOf) := goodIn_app (goodIn_of _ (by decide +kernel)) ggX0_unite_X2_childOf
set_option maxRecDepth 20000 in
theorem ggX0_unite_X2_kindOf : GoodIn wsX0_unite wsX2_kindOf := goodIn_r _ [13, 14, 47, 48, 49, 50, 51, 52, 53, 54, 55] (by decide +kernel) (by decide +kernel)
set_option maxRecDepth 20000 in
theorem gX0_unite_X2_kindOf : GoodIn wsX0_unite (wsV RX0 80 RX2 yX2_kindOf wsX2_kindOf) := goodIn_app (goodIn_of _ (by decide +kernel)) ggX0_unite_X2_kindOf
set_option maxRecDepth 20000 in
theorem ggX0_unite_X2_unite : GoodIn wsX0_unite wsX2_unite := goodIn_r _ [18, 9, 19, 20, 14, 21, 22, 23, 24, 7, 25, 26, 27, 28, 29, 30, 31, 32, 33, 47, 48, 49, 50, 51, 52, 53, 54, 55] (by decide +kernel) (by decide +kernel)
set_option maxRecDepth 20000 in
theorem gX0_unite_X2_unite : GoodIn wsX0_unite (wsV RX0 176 RX2 yX2_unite wsX2_unite) := goodIn_app (goodIn_of _ (by decide +kernel)) ggX0_unite_X2_unite
theorem dX0_unite_0 : decode cX0_unite 0 = .ok (.aload_n 0, 1) := by decide +kernel
theorem dX0_unite_1 : decode cX0_unite 1 = .ok (.getfield 21, 3) := by decide +kernel
theorem dX0_unite_4 : decode cX0_unite 4 = .ok (.iload_n 1, 1) := by decide +kernel
theorem dX0_unite_5 : decode cX0_unite 5 = .ok (.invokevirtual 134, 3) := by decide +kernel
theorem dX0_unite_8 : decode cX0_unite 8 = .ok (.istore_n 2, 1) := by decide +kernel
theorem dX0_unite_9 : decode cX0_unite 9 = .ok (.aload_n 0, 1) := by decide +kernel
theorem dX0_unite_10 : decode cX0_unite 10 = .ok (.getfield 29, 3) := by decide +kernel
theorem dX0_unite_13 : decode cX0_unite 13 = .ok (.aload_n 0, 1) := by decide +kernel
theorem dX0_unite_14 : decode cX0_unite 14 = .ok (.getfield 21, 3) := by decide +kernel
theorem dX0_unite_17 : decode cX0_unite 17 = .ok (.iload_n 2, 1) := by decide +kernel
theorem dX0_unite_18 : decode cX0_unite 18 = .ok (.invokevirtual 80, 3) := by decide +kernel
theorem dX0_unite_21 : decode cX0_unite 21 = .ok (.dup2, 1) := by decide +kernel
theorem dX0_unite_22 : decode cX0_unite 22 = .ok (.iaload, 1) := by decide +kernel
theorem dX0_unite_23 : decode cX0_unite 23 = .ok (.iconst 1, 1) := by decide +kernel
theorem dX0_unite_24 : decode cX0_unite 24 = .ok (.isub, 1) := by decide +kernel
theorem dX0_unite_25 : decode cX0_unite 25 = .ok (.iastore, 1) := by decide +kernel
theorem dX0_unite_26 : decode cX0_unite 26 = .ok (.aload_n 0, 1) := by decide +kernel
theorem dX0_unite_27 : decode cX0_unite 27 = .ok (.getfield 29, 3) := by decide +kernel
theorem dX0_unite_30 : decode cX0_unite 30 = .ok (.aload_n 0, 1) := by decide +kernel
theorem dX0_unite_31 : decode cX0_unite 31 = .ok (.getfield 21, 3) := by decide +kernel
theorem dX0_unite_34 : decode cX0_unite 34 = .ok (.iload_n 2, 1) := by decide +kernel
theorem dX0_unite_35 : decode cX0_unite 35 = .ok (.iconst 1, 1) := by decide +kernel
theorem dX0_unite_36 : decode cX0_unite 36 = .ok (.iadd, 1) := by decide +kernel
theorem dX0_unite_37 : decode cX0_unite 37 = .ok (.invokevirtual 80, 3) := by decide +kernel
theorem dX0_unite_40 : decode cX0_unite 40 = .ok (.dup2, 1) := by decide +kernel
theorem dX0_unite_41 : decode cX0_unite 41 = .ok (.iaload, 1) := by decide +kernel
theorem dX0_unite_42 : decode cX0_unite 42 = .ok (.iconst 1, 1) := by decide +kernel
theorem dX0_unite_43 : decode cX0_unite 43 = .ok (.isub, 1) := by decide +kernel
theorem dX0_unite_44 : decode cX0_unite 44 = .ok (.iastore, 1) := by decide +kernel
theorem dX0_unite_45 : decode cX0_unite 45 = .ok (.aload_n 0, 1) := by decide +kernel
theorem dX0_unite_46 : decode cX0_unite 46 = .ok (.getfield 29, 3) := by decide +kernel
theorem dX0_unite_49 : decode cX0_unite 49 = .ok (.aload_n 0, 1) := by decide +kernel
theorem dX0_unite_50 : decode cX0_unite 50 = .ok (.getfield 21, 3) := by decide +kernel
theorem dX0_unite_53 : decode cX0_unite 53 = .ok (.iload_n 1, 1) := by decide +kernel
theorem dX0_unite_54 : decode cX0_unite 54 = .ok (.invokevirtual 80, 3) := by decide +kernel
theorem dX0_unite_57 : decode cX0_unite 57 = .ok (.dup2, 1) := by decide +kernel
theorem dX0_unite_58 : decode cX0_unite 58 = .ok (.iaload, 1) := by decide +kernel
theorem dX0_unite_59 : decode cX0_unite 59 = .ok (.iconst 1, 1) := by decide +kernel
theorem dX0_unite_60 : decode cX0_unite 60 = .ok (.iadd, 1) := by decide +kernel
theorem dX0_unite_61 : decode cX0_unite 61 = .ok (.iastore, 1) := by decide +kernel
theorem dX0_unite_62 : decode cX0_unite 62 = .ok (.aload_n 0, 1) := by decide +kernel
theorem dX0_unite_63 : decode cX0_unite 63 = .ok (.getfield 21, 3) := by decide +kernel
theorem dX0_unite_66 : decode cX0_unite 66 = .ok (.iload_n 1, 1) := by decide +kernel
theorem dX0_unite_67 : decode cX0_unite 67 = .ok (.invokevirtual 176, 3) := by decide +kernel
theorem dX0_unite_70 : decode cX0_unite 70 = .ok (.aload_n 0, 1) := by decide +kernel
theorem dX0_unite_71 : decode cX0_unite 71 = .ok (.dup, 1) := by decide +kernel
theorem dX0_unite_72 : decode cX0_unite 72 = .ok (.getfield 54, 3) := by decide +kernel
theorem dX0_unite_75 : decode cX0_unite 75 = .ok (.iconst 1, 1) := by decide +kernel
theorem dX0_unite_76 : decode cX0_unite 76 = .ok (.iadd, 1) := by decide +kernel
theorem dX0_unite_77 : decode cX0_unite 77 = .ok (.putfield 54, 3) := by decide +kernel
theorem dX0_unite_80 : decode cX0_unite 80 = .ok (.return_, 1) := by decide +kernel
theorem dX1_init_0 : decode cX1_init 0 = .ok (.aload_n 0, 1) := by decide +kernel
theorem dX1_init_1 : decode cX1_init 1 = .ok (.invokespecial 3, 3) := by decide +kernel
theorem dX1_init_4 : decode cX1_init 4 = .ok (.aload_n 0, 1) := by decide +kernel
theorem dX1_init_5 : decode cX1_init 5 = .ok (.bipush 25, 2) := by decide +kernel
theorem dX1_init_7 : decode cX1_init 7 = .ok (.newarray .int, 2) := by decide +kernel
theorem dX1_init_9 : decode cX1_init 9 = .ok (.putfield 9, 3) := by decide +kernel
theorem dX1_init_12 : decode cX1_init 12 = .ok (.aload_n 0, 1) := by decide +kernel
theorem dX1_init_13 : decode cX1_init 13 = .ok (.bipush 25, 2) := by decide +kernel
theorem dX1_init_15 : decode cX1_init 15 = .ok (.newarray .int, 2) := by decide +kernel
theorem dX1_init_17 : decode cX1_init 17 = .ok (.putfield 15, 3) := by decide +kernel
theorem dX1_init_20 : decode cX1_init 20 = .ok (.aload_n 0, 1) := by decide +kernel
theorem dX1_init_21 : decode cX1_init 21 = .ok (.bipush 25, 2) := by decide +kernel
theorem dX1_init_23 : decode cX1_init 23 = .ok (.newarray .int, 2) := by decide +kernel
theorem dX1_init_25 : decode cX1_init 25 = .ok (.putfield 18, 3) := by decide +kernel
theorem dX1_init_28 : decode cX1_init 28 = .ok (.aload_n 0, 1) := by decide +kernel
theorem dX1_init_29 : decode cX1_init 29 = .ok (.bipush 25, 2) := by decide +kernel
theorem dX1_init_31 : decode cX1_init 31 = .ok (.newarray .int, 2) := by decide +kernel
theorem dX1_init_33 : decode cX1_init 33 = .ok (.putfield 21, 3) := by decide +kernel
theorem dX1_init_36 : decode cX1_init 36 = .ok (.return_, 1) := by decide +kernel
theorem dX1_tell_0 : decode cX1_tell 0 = .ok (.aload_n 0, 1) := by decide +kernel
theorem dX1_tell_1 : decode cX1_tell 1 = .ok (.getfield 9, 3) := by decide +kernel
theorem dX1_tell_4 : decode cX1_tell 4 = .ok (.iload_n 1, 1) := by decide +kernel
theorem dX1_tell_5 : decode cX1_tell 5 = .ok (.iload_n 2, 1) := by decide +kernel
theorem dX1_tell_6 : decode cX1_tell 6 = .ok (.iastore, 1) := by decide +kernel
theorem dX1_tell_7 : decode cX1_tell 7 = .ok (.aload_n 0, 1) := by decide +kernel
theorem dX1_tell_8 : decode cX1_tell 8 = .ok (.getfield 15, 3) := by decide +kernel
theorem dX1_tell_11 : decode cX1_tell 11 = .ok (.iload_n 1, 1) := by decide +kernel
theorem dX1_tell_12 : decode cX1_tell 12 = .ok (.iload_n 3, 1) := by decide +kernel
theorem dX1_tell_13 : decode cX1_tell 13 = .ok (.iastore, 1) := by decide +kernel
theorem dX1_tell_14 : decode cX1_tell 14 = .ok (.aload_n 0, 1) := by decide +kernel
theorem dX1_tell_15 : decode cX1_tell 15 = .ok (.getfield 18, 3) := by decide +kernel
theorem dX1_tell_18 : decode cX1_tell 18 = .ok (.iload_n 1, 1) := by decide +kernel
theorem dX1_tell_19 : decode cX1_tell 19 = .ok (.iload 4, 2) := by decide +kernel
theorem dX1_tell_21 : decode cX1_tell 21 = .ok (.iastore, 1) := by decide +kernel
theorem dX1_tell_22 : decode cX1_tell 22 = .ok (.return_, 1) := by decide +kernel
theorem dX1_copyFrom_0 : decode cX1_copyFrom 0 = .ok (.aload_n 1, 1) := by decide +kernel
theorem dX1_copyFrom_1 : decode cX1_copyFrom 1 = .ok (.getfield 9, 3) := by decide +kernel
theorem dX1_copyFrom_4 : decode cX1_copyFrom 4 = .ok (.iconst 0, 1) := by decide +kernel
theorem dX1_copyFrom_5 : decode cX1_copyFrom 5 = .ok (.aload_n 0, 1) := by decide +kernel
theorem dX1_copyFrom_6 : decode cX1_copyFrom 6 = .ok (.getfield 9, 3) := by decide +kernel
theorem dX1_copyFrom_9 : decode cX1_copyFrom 9 = .ok (.iconst 0, 1) := by decide +kernel
theorem dX1_copyFrom_10 : decode cX1_copyFrom 10 = .ok (.bipush 25, 2) := by decide +kernel
theorem dX1_copyFrom_12 : decode cX1_copyFrom 12 = .ok (.invokestatic 24, 3) := by decide +kernel
theorem dX1_copyFrom_15 : decode cX1_copyFrom 15 = .ok (.aload_n 1, 1) := by decide +kernel
theorem dX1_copyFrom_16 : decode cX1_copyFrom 16 = .ok (.getfield 15, 3) := by decide +kernel
theorem dX1_copyFrom_19 : decode cX1_copyFrom 19 = .ok (.iconst 0, 1) := by decide +kernel
theorem dX1_copyFrom_20 : decode cX1_copyFrom 20 = .ok (.aload_n 0, 1) := by decide +kernel
theorem dX1_copyFrom_21 : decode cX1_copyFrom 21 = .ok (.getfield 15, 3) := by decide +kernel
theorem dX1_copyFrom_24 : decode cX1_copyFrom 24 = .ok (.iconst 0, 1) := by decide +kernel
theorem dX1_copyFrom_25 : decode cX1_copyFrom 25 = .ok (.bipush 25, 2) := by decide +kernel
theorem dX1_copyFrom_27 : decode cX1_copyFrom 27 = .ok (.invokestatic 24, 3) := by decide +kernel
theorem dX1_copyFrom_30 : decode cX1_copyFrom 30 = .ok (.aload_n 1, 1) := by decide +kernel
theorem dX1_copyFrom_31 : decode cX1_copyFrom 31 = .ok (.getfield 18, 3) := by decide +kernel
theorem dX1_copyFrom_34 : decode cX1_copyFrom 34 = .ok (.iconst 0, 1) := by decide +kernel
theorem dX1_copyFrom_35 : decode cX1_copyFrom 35 = .ok (.aload_n 0, 1) := by decide +kernel
theorem dX1_copyFrom_36 : decode cX1_copyFrom 36 = .ok (.getfield 18, 3) := by decide +kernel
theorem dX1_copyFrom_39 : decode cX1_copyFrom 39 = .ok (.iconst 0, 1) := by decide +kernel
theorem dX1_copyFrom_40 : decode cX1_copyFrom 40 = .ok (.bipush 25, 2) := by decide +kernel
theorem dX1_copyFrom_42 : decode cX1_copyFrom 42 = .ok (.invokestatic 24, 3) := by decide +kernel
theorem dX1_copyFrom_45 : decode cX1_copyFrom 45 = .ok (.return_, 1) := by decide +kernel
set_option maxRecDepth 20000 in
theorem ggX1_tellFamily_X1_leafSize : GoodIn wsX1_tellFamily wsX1_leafSize := goodIn_r _ [6] (by decide +kernel) (by decide +kernel)
set_option maxRecDepth 20000 in
theorem gX1_tellFamily_X1_leafSize : GoodIn wsX1_tellFamily (va_wsS RX1 30 yX1_leafSize wsX1_leafSize) := goodIn_app (goodIn_of _ (by decide +kernel)) ggX1_tellFamily_X1_leafSize
set_option maxRecDepth 20000 in
theorem ggX1_tellFamily_X1_familyRight : GoodIn wsX1_tellFamily wsX1_familyRight := goodIn_r _ [9] (by decide +kernel) (by decide +kernel)
set_option maxRecDepth 20000 in
theorem gX1_tellFamily_X1_familyRight : GoodIn wsX1_tellFamily (va_wsS RX1 34 yX1_familyRight wsX1_familyRight) := goodIn_app (goodIn_of _ (by decide +kernel)) ggX1_tellFamily_X1_familyRight
set_option maxRecDepth 20000 in
theorem ggX1_tellFamily_X1_tell : GoodIn wsX1_tellFamily wsX1_tell := goodIn_r _ [13, 14, 15, 16, 17, 18, 19, 20] (by decide +kernel) (by decide +kernel)
set_option maxRecDepth 20000 in
theorem gX1_tellFamily_X1_tell : GoodIn wsX1_tellFamily (wsV RX1 39 RX1 yX1_tell wsX1_tell) := goodIn_app (goodIn_of _ (by decide +kernel)) ggX1_tellFamily_X1_tell
theorem dX1_tellFamily_0 : decode cX1_tellFamily 0 = .ok (.iconst 1, 1) := by decide +kernel
theorem dX1_tellFamily_1 : decode cX1_tellFamily 1 = .ok (.istore 5, 2) := by decide +kernel
theorem dX1_tellFamily_3 : decode cX1_tellFamily 3 = .ok (.iload 5, 2) := by decide +kernel
theorem dX1_tellFamily_5 : decode cX1_tellFamily 5 = .ok (.iload_n 2, 1) := by decide +kernel
theorem dX1_tellFamily_6 : decode cX1_tellFamily 6 = .ok (.if_icmp .gt 71, 3) := by decide +kernel
theorem dX1_tellFamily_9 : decode cX1_tellFamily 9 = .ok (.aload_n 0, 1) := by decide +kernel
theorem dX1_tellFamily_10 : decode cX1_tellFamily 10 = .ok (.getfield 21, 3) := by decide +kernel
theorem dX1_tellFamily_13 : decode cX1_tellFamily 13 = .ok (.iload 5, 2) := by decide +kernel
theorem dX1_tellFamily_15 : decode cX1_tellFamily 15 = .ok (.iload 5, 2) := by decide +kernel
theorem dX1_tellFamily_17 : decode cX1_tellFamily 17 = .ok (.iload_n 1, 1) := by decide +kernel
theorem dX1_tellFamily_18 : decode cX1_tellFamily 18 = .ok (.iconst 1, 1) := by decide +kernel
theorem dX1_tellFamily_19 : decode cX1_tellFamily 19 = .ok (.iadd, 1) := by decide +kernel
theorem dX1_tellFamily_20 : decode cX1_tellFamily 20 = .ok (.if_icmp .gt 15, 3) := by decide +kernel
theorem dX1_tellFamily_23 : decode cX1_tellFamily 23 = .ok (.iload_n 1, 1) := by decide +kernel
theorem dX1_tellFamily_24 : decode cX1_tellFamily 24 = .ok (.iload 5, 2) := by decide +kernel
theorem dX1_tellFamily_26 : decode cX1_tellFamily 26 = .ok (.iload_n 3, 1) := by decide +kernel
theorem dX1_tellFamily_27 : decode cX1_tellFamily 27 = .ok (.iload 4, 2) := by decide +kernel
theorem dX1_tellFamily_29 : decode cX1_tellFamily 29 = .ok (.invokestatic 30, 3) := by decide +kernel
theorem dX1_tellFamily_32 : decode cX1_tellFamily 32 = .ok (.goto 24, 3) := by decide +kernel
theorem dX1_tellFamily_35 : decode cX1_tellFamily 35 = .ok (.aload_n 0, 1) := by decide +kernel
theorem dX1_tellFamily_36 : decode cX1_tellFamily 36 = .ok (.getfield 21, 3) := by decide +kernel
theorem dX1_tellFamily_39 : decode cX1_tellFamily 39 = .ok (.iload 5, 2) := by decide +kernel
theorem dX1_tellFamily_41 : decode cX1_tellFamily 41 = .ok (.iconst 1, 1) := by decide +kernel
theorem dX1_tellFamily_42 : decode cX1_tellFamily 42 = .ok (.isub, 1) := by decide +kernel
theorem dX1_tellFamily_43 : decode cX1_tellFamily 43 = .ok (.iaload, 1) := by decide +kernel
theorem dX1_tellFamily_44 : decode cX1_tellFamily 44 = .ok (.aload_n 0, 1) := by decide +kernel
theorem dX1_tellFamily_45 : decode cX1_tellFamily 45 = .ok (.getfield 21, 3) := by decide +kernel
theorem dX1_tellFamily_48 : decode cX1_tellFamily 48 = .ok (.iload_n 1, 1) := by decide +kernel
theorem dX1_tellFamily_49 : decode cX1_tellFamily 49 = .ok (.iload 5, 2) := by decide +kernel
theorem dX1_tellFamily_51 : decode cX1_tellFamily 51 = .ok (.invokestatic 34, 3) := by decide +kernel
theorem dX1_tellFamily_54 : decode cX1_tellFamily 54 = .ok (.iaload, 1) := by decide +kernel
theorem dX1_tellFamily_55 : decode cX1_tellFamily 55 = .ok (.iadd, 1) := by decide +kernel
theorem dX1_tellFamily_56 : decode cX1_tellFamily 56 = .ok (.iastore, 1) := by decide +kernel
theorem dX1_tellFamily_57 : decode cX1_tellFamily 57 = .ok (.aload_n 0, 1) := by decide +kernel
theorem dX1_tellFamily_58 : decode cX1_tellFamily 58 = .ok (.getfield 21, 3) := by decide +kernel
theorem dX1_tellFamily_61 : decode cX1_tellFamily 61 = .ok (.iload 5, 2) := by decide +kernel
theorem dX1_tellFamily_63 : decode cX1_tellFamily 63 = .ok (.iaload, 1) := by decide +kernel
theorem dX1_tellFamily_64 : decode cX1_tellFamily 64 = .ok (.ldc 38, 2) := by decide +kernel
theorem dX1_tellFamily_66 : decode cX1_tellFamily 66 = .ok (.if_icmp .le 5, 3) := by decide +kernel
theorem dX1_tellFamily_69 : decode cX1_tellFamily 69 = .ok (.iconst 0, 1) := by decide +kernel
theorem dX1_tellFamily_70 : decode cX1_tellFamily 70 = .ok (.ireturn, 1) := by decide +kernel
theorem dX1_tellFamily_71 : decode cX1_tellFamily 71 = .ok (.iinc 5 1, 3) := by decide +kernel
theorem dX1_tellFamily_74 : decode cX1_tellFamily 74 = .ok (.goto (-71), 3) := by decide +kernel
theorem dX1_tellFamily_77 : decode cX1_tellFamily 77 = .ok (.iconst 1, 1) := by decide +kernel
theorem dX1_tellFamily_78 : decode cX1_tellFamily 78 = .ok (.istore 5, 2) := by decide +kernel
theorem dX1_tellFamily_80 : decode cX1_tellFamily 80 = .ok (.iload 5, 2) := by decide +kernel
theorem dX1_tellFamily_82 : decode cX1_tellFamily 82 = .ok (.bipush 24, 2) := by decide +kernel
theorem dX1_tellFamily_84 : decode cX1_tellFamily 84 = .ok (.if_icmp .gt 76, 3) := by decide +kernel
theorem dX1_tellFamily_87 : decode cX1_tellFamily 87 = .ok (.iload 5, 2) := by decide +kernel
theorem dX1_tellFamily_89 : decode cX1_tellFamily 89 = .ok (.iload_n 2, 1) := by decide +kernel
theorem dX1_tellFamily_90 : decode cX1_tellFamily 90 = .ok (.if_icmp .le 15, 3) := by decide +kernel
theorem dX1_tellFamily_93 : decode cX1_tellFamily 93 = .ok (.aload_n 0, 1) := by decide +kernel
theorem dX1_tellFamily_94 : decode cX1_tellFamily 94 = .ok (.iload 5, 2) := by decide +kernel
theorem dX1_tellFamily_96 : decode cX1_tellFamily 96 = .ok (.iconst 0, 1) := by decide +kernel
theorem dX1_tellFamily_97 : decode cX1_tellFamily 97 = .ok (.iconst 0, 1) := by decide +kernel
theorem dX1_tellFamily_98 : decode cX1_tellFamily 98 = .ok (.iconst 0, 1) := by decide +kernel
theorem dX1_tellFamily_99 : decode cX1_tellFamily 99 = .ok (.invokevirtual 39, 3) := by decide +kernel
theorem dX1_tellFamily_102 : decode cX1_tellFamily 102 = .ok (.goto 52, 3) := by decide +kernel
theorem dX1_tellFamily_105 : decode cX1_tellFamily 105 = .ok (.iload 5, 2) := by decide +kernel
theorem dX1_tellFamily_107 : decode cX1_tellFamily 107 = .ok (.iload_n 1, 1) := by decide +kernel
theorem dX1_tellFamily_108 : decode cX1_tellFamily 108 = .ok (.iconst 1, 1) := by decide +kernel
theorem dX1_tellFamily_109 : decode cX1_tellFamily 109 = .ok (.iadd, 1) := by decide +kernel
theorem dX1_tellFamily_110 : decode cX1_tellFamily 110 = .ok (.if_icmp .gt 21, 3) := by decide +kernel
theorem dX1_tellFamily_113 : decode cX1_tellFamily 113 = .ok (.aload_n 0, 1) := by decide +kernel
theorem dX1_tellFamily_114 : decode cX1_tellFamily 114 = .ok (.iload 5, 2) := by decide +kernel
theorem dX1_tellFamily_116 : decode cX1_tellFamily 116 = .ok (.aload_n 0, 1) := by decide +kernel
theorem dX1_tellFamily_117 : decode cX1_tellFamily 117 = .ok (.getfield 21, 3) := by decide +kernel
theorem dX1_tellFamily_120 : decode cX1_tellFamily 120 = .ok (.iload 5, 2) := by decide +kernel
theorem dX1_tellFamily_122 : decode cX1_tellFamily 122 = .ok (.iaload, 1) := by decide +kernel
theorem dX1_tellFamily_123 : decode cX1_tellFamily 123 = .ok (.iconst 0, 1) := by decide +kernel
theorem dX1_tellFamily_124 : decode cX1_tellFamily 124 = .ok (.iconst 0, 1) := by decide +kernel
theorem dX1_tellFamily_125 : decode cX1_tellFamily 125 = .ok (.invokevirtual 39, 3) := by decide +kernel
theorem dX1_tellFamily_128 : decode cX1_tellFamily 128 = .ok (.goto 26, 3) := by decide +kernel
theorem dX1_tellFamily_131 : decode cX1_tellFamily 131 = .ok (.aload_n 0, 1) := by decide +kernel
theorem dX1_tellFamily_132 : decode cX1_tellFamily 132 = .ok (.iload 5, 2) := by decide +kernel
theorem dX1_tellFamily_134 : decode cX1_tellFamily 134 = .ok (.aload_n 0, 1) := by decide +kernel
theorem dX1_tellFamily_135 : decode cX1_tellFamily 135 = .ok (.getfield 21, 3) := by decide +kernel
theorem dX1_tellFamily_138 : decode cX1_tellFamily 138 = .ok (.iload 5, 2) := by decide +kernel
theorem dX1_tellFamily_140 : decode cX1_tellFamily 140 = .ok (.iaload, 1) := by decide +kernel
theorem dX1_tellFamily_141 : decode cX1_tellFamily 141 = .ok (.iload 5, 2) := by decide +kernel
theorem dX1_tellFamily_143 : decode cX1_tellFamily 143 = .ok (.iconst 1, 1) := by decide +kernel
theorem dX1_tellFamily_144 : decode cX1_tellFamily 144 = .ok (.isub, 1) := by decide +kernel
theorem dX1_tellFamily_145 : decode cX1_tellFamily 145 = .ok (.iload_n 1, 1) := by decide +kernel
theorem dX1_tellFamily_146 : decode cX1_tellFamily 146 = .ok (.iload 5, 2) := by decide +kernel
theorem dX1_tellFamily_148 : decode cX1_tellFamily 148 = .ok (.invokestatic 34, 3) := by decide +kernel
theorem dX1_tellFamily_151 : decode cX1_tellFamily 151 = .ok (.invokevirtual 39, 3) := by decide +kernel
theorem dX1_tellFamily_154 : decode cX1_tellFamily 154 = .ok (.iinc 5 1, 3) := by decide +kernel
theorem dX1_tellFamily_157 : decode cX1_tellFamily 157 = .ok (.goto (-77), 3) := by decide +kernel
theorem dX1_tellFamily_160 : decode cX1_tellFamily 160 = .ok (.iconst 1, 1) := by decide +kernel
theorem dX1_tellFamily_161 : decode cX1_tellFamily 161 = .ok (.ireturn, 1) := by decide +kernel
theorem dX1_leafSize_0 : decode cX1_leafSize 0 = .ok (.iload_n 0, 1) := by decide +kernel
theorem dX1_leafSize_1 : decode cX1_leafSize 1 = .ok (.iconst 1, 1) := by decide +kernel
theorem dX1_leafSize_2 : decode cX1_leafSize 2 = .ok (.if_icmp .ne 14, 3) := by decide +kernel
theorem dX1_leafSize_5 : decode cX1_leafSize 5 = .ok (.iload_n 1, 1) := by decide +kernel
theorem dX1_leafSize_6 : decode cX1_leafSize 6 = .ok (.iconst 1, 1) := by decide +kernel
theorem dX1_leafSize_7 : decode cX1_leafSize 7 = .ok (.if_icmp .ne 7, 3) := by decide +kernel
theorem dX1_leafSize_10 : decode cX1_leafSize 10 = .ok (.iload_n 2, 1) := by decide +kernel
theorem dX1_leafSize_11 : decode cX1_leafSize 11 = .ok (.goto 4, 3) := by decide +kernel
theorem dX1_leafSize_14 : decode cX1_leafSize 14 = .ok (.iload_n 3, 1) := by decide +kernel
theorem dX1_leafSize_15 : decode cX1_leafSize 15 = .ok (.ireturn, 1) := by decide +kernel
theorem dX1_leafSize_16 : decode cX1_leafSize 16 = .ok (.iload_n 1, 1) := by decide +kernel
theorem dX1_leafSize_17 : decode cX1_leafSize 17 = .ok (.iload_n 2, 1) := by decide +kernel
theorem dX1_leafSize_18 : decode cX1_leafSize 18 = .ok (.imul, 1) := by decide +kernel
theorem dX1_leafSize_19 : decode cX1_leafSize 19 = .ok (.ireturn, 1) := by decide +kernel
theorem dX1_familyRight_0 : decode cX1_familyRight 0 = .ok (.iload_n 0, 1) := by decide +kernel
theorem dX1_familyRight_1 : decode cX1_familyRight 1 = .ok (.iconst 2, 1) := by decide +kernel
theorem dX1_familyRight_2 : decode cX1_familyRight 2 = .ok (.if_icmp .ge 9, 3) := by decide +kernel
theorem dX1_familyRight_5 : decode cX1_familyRight 5 = .ok (.iload_n 1, 1) := by decide +kernel
theorem dX1_familyRight_6 : decode cX1_familyRight 6 = .ok (.iconst 1, 1) := by decide +kernel
theorem dX1_familyRight_7 : decode cX1_familyRight 7 = .ok (.isub, 1) := by decide +kernel
theorem dX1_familyRight_8 : decode cX1_familyRight 8 = .ok (.iload_n 0, 1) := by decide +kernel
theorem dX1_familyRight_9 : decode cX1_familyRight 9 = .ok (.isub, 1) := by decide +kernel
theorem dX1_familyRight_10 : decode cX1_familyRight 10 = .ok (.ireturn, 1) := by decide +kernel
theorem dX1_familyRight_11 : decode cX1_familyRight 11 = .ok (.iload_n 1, 1) := by decide +kernel
theorem dX1_familyRight_12 : decode cX1_familyRight 12 = .ok (.iconst 4, 1) := by decide +kernel
theorem dX1_familyRight_13 : decode cX1_familyRight 13 = .ok (.if_icmp .ne 5, 3) := by decide +kernel
theorem dX1_familyRight_16 : decode cX1_familyRight 16 = .ok (.iconst 1, 1) := by decide +kernel
theorem dX1_familyRight_17 : decode cX1_familyRight 17 = .ok (.ireturn, 1) := by decide +kernel
theorem dX1_familyRight_18 : decode cX1_familyRight 18 = .ok (.iload_n 1, 1) := by decide +kernel
theorem dX1_familyRight_19 : decode cX1_familyRight 19 = .ok (.iconst 2, 1) := by decide +kernel
theorem dX1_familyRight_20 : decode cX1_familyRight 20 = .ok (.irem, 1) := by decide +kernel
theorem dX1_familyRight_21 : decode cX1_familyRight 21 = .ok (.iconst 1, 1) := by decide +kernel
theorem dX1_familyRight_22 : decode cX1_familyRight 22 = .ok (.if_icmp .ne 9, 3) := by decide +kernel
theorem dX1_familyRight_25 : decode cX1_familyRight 25 = .ok (.iload_n 1, 1) := by decide +kernel
theorem dX1_familyRight_26 : decode cX1_familyRight 26 = .ok (.iconst 3, 1) := by decide +kernel
theorem dX1_familyRight_27 : decode cX1_familyRight 27 = .ok (.isub, 1) := by decide +kernel
theorem dX1_familyRight_28 : decode cX1_familyRight 28 = .ok (.goto 6, 3) := by decide +kernel
theorem dX1_familyRight_31 : decode cX1_familyRight 31 = .ok (.iload_n 1, 1) := by decide +kernel
theorem dX1_familyRight_32 : decode cX1_familyRight 32 = .ok (.iconst 4, 1) := by decide +kernel
theorem dX1_familyRight_33 : decode cX1_familyRight 33 = .ok (.isub, 1) := by decide +kernel
theorem dX1_familyRight_34 : decode cX1_familyRight 34 = .ok (.ireturn, 1) := by decide +kernel
set_option maxRecDepth 20000 in
theorem ggX1_reachedFrom_J6_numberOfTrailingZeros_0f7a4 : GoodIn wsX1_reachedFrom wsJ6_numberOfTrailingZeros_0f7a4 := goodIn_r _ [6, 7] (by decide +kernel) (by decide +kernel)
set_option maxRecDepth 20000 in
theorem gX1_reachedFrom_J6_numberOfTrailingZeros_0f7a4 : GoodIn wsX1_reachedFrom (va_wsS RX1 43 yJ6_numberOfTrailingZeros_0f7a4 wsJ6_numberOfTrailingZeros_0f7a4) := goodIn_app (goodIn_of _ (by decide +kernel)) ggX1_reachedFrom_J6_numberOfTrailingZeros_0f7a4
set_option maxRecDepth 20000 in
theorem ggX1_reachedFrom_X1_isBad : GoodIn wsX1_reachedFrom wsX1_isBad := goodIn_r _ [12, 13, 1, 2, 14, 15, 16, 17, 18, 19, 20, 21, 22, 23] (by decide +kernel) (by decide +kernel)
set_option maxRecDepth 20000 in
theorem gX1_reachedFrom_X1_isBad : GoodIn wsX1_reachedFrom (wsV RX1 49 RX1 yX1_isBad wsX1_isBad) := goodIn_app (goodIn_of _ (by decide +kernel)) ggX1_reachedFrom_X1_isBad
theorem dX1_reachedFrom_0 : decode cX1_reachedFrom 0 = .ok (.iconst 1, 1) := by decide +kernel
theorem dX1_reachedFrom_1 : decode cX1_reachedFrom 1 = .ok (.iload_n 1, 1) := by decide +kernel
theorem dX1_reachedFrom_2 : decode cX1_reachedFrom 2 = .ok (.ishl, 1) := by decide +kernel
theorem dX1_reachedFrom_3 : decode cX1_reachedFrom 3 = .ok (.istore_n 2, 1) := by decide +kernel
theorem dX1_reachedFrom_4 : decode cX1_reachedFrom 4 = .ok (.iconst 0, 1) := by decide +kernel
theorem dX1_reachedFrom_5 : decode cX1_reachedFrom 5 = .ok (.istore_n 3, 1) := by decide +kernel
theorem dX1_reachedFrom_6 : decode cX1_reachedFrom 6 = .ok (.iconst 0, 1) := by decide +kernel
theorem dX1_reachedFrom_7 : decode cX1_reachedFrom 7 = .ok (.istore 4, 2) := by decide +kernel
theorem dX1_reachedFrom_9 : decode cX1_reachedFrom 9 = .ok (.iload 4, 2) := by decide +kernel
theorem dX1_reachedFrom_11 : decode cX1_reachedFrom 11 = .ok (.bipush 24, 2) := by decide +kernel
theorem dX1_reachedFrom_13 : decode cX1_reachedFrom 13 = .ok (.if_icmp .ge 74, 3) := by decide +kernel
theorem dX1_reachedFrom_16 : decode cX1_reachedFrom 16 = .ok (.iload_n 3, 1) := by decide +kernel
theorem dX1_reachedFrom_17 : decode cX1_reachedFrom 17 = .ok (.iload_n 2, 1) := by decide +kernel
theorem dX1_reachedFrom_18 : decode cX1_reachedFrom 18 = .ok (.if_icmp .eq 69, 3) := by decide +kernel
theorem dX1_reachedFrom_21 : decode cX1_reachedFrom 21 = .ok (.iload_n 2, 1) := by decide +kernel
theorem dX1_reachedFrom_22 : decode cX1_reachedFrom 22 = .ok (.iload_n 3, 1) := by decide +kernel
theorem dX1_reachedFrom_23 : decode cX1_reachedFrom 23 = .ok (.iconst (-1), 1) := by decide +kernel
theorem dX1_reachedFrom_24 : decode cX1_reachedFrom 24 = .ok (.ixor, 1) := by decide +kernel
theorem dX1_reachedFrom_25 : decode cX1_reachedFrom 25 = .ok (.iand, 1) := by decide +kernel
theorem dX1_reachedFrom_26 : decode cX1_reachedFrom 26 = .ok (.invokestatic 43, 3) := by decide +kernel
theorem dX1_reachedFrom_29 : decode cX1_reachedFrom 29 = .ok (.istore 5, 2) := by decide +kernel
theorem dX1_reachedFrom_31 : decode cX1_reachedFrom 31 = .ok (.iload_n 3, 1) := by decide +kernel
theorem dX1_reachedFrom_32 : decode cX1_reachedFrom 32 = .ok (.iconst 1, 1) := by decide +kernel
theorem dX1_reachedFrom_33 : decode cX1_reachedFrom 33 = .ok (.iload 5, 2) := by decide +kernel
theorem dX1_reachedFrom_35 : decode cX1_reachedFrom 35 = .ok (.ishl, 1) := by decide +kernel
theorem dX1_reachedFrom_36 : decode cX1_reachedFrom 36 = .ok (.ior, 1) := by decide +kernel
theorem dX1_reachedFrom_37 : decode cX1_reachedFrom 37 = .ok (.istore_n 3, 1) := by decide +kernel
theorem dX1_reachedFrom_38 : decode cX1_reachedFrom 38 = .ok (.aload_n 0, 1) := by decide +kernel
theorem dX1_reachedFrom_39 : decode cX1_reachedFrom 39 = .ok (.iload 5, 2) := by decide +kernel
theorem dX1_reachedFrom_41 : decode cX1_reachedFrom 41 = .ok (.invokevirtual 49, 3) := by decide +kernel
theorem dX1_reachedFrom_44 : decode cX1_reachedFrom 44 = .ok (.ifCond .ne 37, 3) := by decide +kernel
theorem dX1_reachedFrom_47 : decode cX1_reachedFrom 47 = .ok (.aload_n 0, 1) := by decide +kernel
theorem dX1_reachedFrom_48 : decode cX1_reachedFrom 48 = .ok (.getfield 15, 3) := by decide +kernel
theorem dX1_reachedFrom_51 : decode cX1_reachedFrom 51 = .ok (.iload 5, 2) := by decide +kernel
theorem dX1_reachedFrom_53 : decode cX1_reachedFrom 53 = .ok (.iaload, 1) := by decide +kernel
theorem dX1_reachedFrom_54 : decode cX1_reachedFrom 54 = .ok (.ifCond .eq 27, 3) := by decide +kernel
theorem dX1_reachedFrom_57 : decode cX1_reachedFrom 57 = .ok (.iload_n 2, 1) := by decide +kernel
theorem dX1_reachedFrom_58 : decode cX1_reachedFrom 58 = .ok (.iconst 1, 1) := by decide +kernel
theorem dX1_reachedFrom_59 : decode cX1_reachedFrom 59 = .ok (.aload_n 0, 1) := by decide +kernel
theorem dX1_reachedFrom_60 : decode cX1_reachedFrom 60 = .ok (.getfield 15, 3) := by decide +kernel
theorem dX1_reachedFrom_63 : decode cX1_reachedFrom 63 = .ok (.iload 5, 2) := by decide +kernel
theorem dX1_reachedFrom_65 : decode cX1_reachedFrom 65 = .ok (.iaload, 1) := by decide +kernel
theorem dX1_reachedFrom_66 : decode cX1_reachedFrom 66 = .ok (.ishl, 1) := by decide +kernel
theorem dX1_reachedFrom_67 : decode cX1_reachedFrom 67 = .ok (.ior, 1) := by decide +kernel
theorem dX1_reachedFrom_68 : decode cX1_reachedFrom 68 = .ok (.istore_n 2, 1) := by decide +kernel
theorem dX1_reachedFrom_69 : decode cX1_reachedFrom 69 = .ok (.iload_n 2, 1) := by decide +kernel
theorem dX1_reachedFrom_70 : decode cX1_reachedFrom 70 = .ok (.iconst 1, 1) := by decide +kernel
theorem dX1_reachedFrom_71 : decode cX1_reachedFrom 71 = .ok (.aload_n 0, 1) := by decide +kernel
theorem dX1_reachedFrom_72 : decode cX1_reachedFrom 72 = .ok (.getfield 18, 3) := by decide +kernel
theorem dX1_reachedFrom_75 : decode cX1_reachedFrom 75 = .ok (.iload 5, 2) := by decide +kernel
theorem dX1_reachedFrom_77 : decode cX1_reachedFrom 77 = .ok (.iaload, 1) := by decide +kernel
theorem dX1_reachedFrom_78 : decode cX1_reachedFrom 78 = .ok (.ishl, 1) := by decide +kernel
theorem dX1_reachedFrom_79 : decode cX1_reachedFrom 79 = .ok (.ior, 1) := by decide +kernel
theorem dX1_reachedFrom_80 : decode cX1_reachedFrom 80 = .ok (.istore_n 2, 1) := by decide +kernel
theorem dX1_reachedFrom_81 : decode cX1_reachedFrom 81 = .ok (.iinc 4 1, 3) := by decide +kernel
theorem dX1_reachedFrom_84 : decode cX1_reachedFrom 84 = .ok (.goto (-75), 3) := by decide +kernel
theorem dX1_reachedFrom_87 : decode cX1_reachedFrom 87 = .ok (.iload_n 2, 1) := by decide +kernel
theorem dX1_reachedFrom_88 : decode cX1_reachedFrom 88 = .ok (.ireturn, 1) := by decide +kernel
set_option maxRecDepth 20000 in
theorem ggX1_lowestBad_X1_isBad : GoodIn wsX1_lowestBad wsX1_isBad := goodIn_r _ [5, 6, 7, 8, 9, 10, 11, 12, 13, 14, 15, 16, 17, 18] (by decide +kernel) (by decide +kernel)
set_option maxRecDepth 20000 in
theorem gX1_lowestBad_X1_isBad : GoodIn wsX1_lowestBad (wsV RX1 49 RX1 yX1_isBad wsX1_isBad) := goodIn_app (goodIn_of _ (by decide +kernel)) ggX1_lowestBad_X1_isBad
theorem dX1_lowestBad_0 : decode cX1_lowestBad 0 = .ok (.iconst 1, 1) := by decide +kernel
theorem dX1_lowestBad_1 : decode cX1_lowestBad 1 = .ok (.istore_n 2, 1) := by decide +kernel
theorem dX1_lowestBad_2 : decode cX1_lowestBad 2 = .ok (.iload_n 2, 1) := by decide +kernel
theorem dX1_lowestBad_3 : decode cX1_lowestBad 3 = .ok (.bipush 24, 2) := by decide +kernel
theorem dX1_lowestBad_5 : decode cX1_lowestBad 5 = .ok (.if_icmp .gt 28, 3) := by decide +kernel
theorem dX1_lowestBad_8 : decode cX1_lowestBad 8 = .ok (.iload_n 1, 1) := by decide +kernel
theorem dX1_lowestBad_9 : decode cX1_lowestBad 9 = .ok (.iload_n 2, 1) := by decide +kernel
theorem dX1_lowestBad_10 : decode cX1_lowestBad 10 = .ok (.ishr, 1) := by decide +kernel
theorem dX1_lowestBad_11 : decode cX1_lowestBad 11 = .ok (.iconst 1, 1) := by decide +kernel
theorem dX1_lowestBad_12 : decode cX1_lowestBad 12 = .ok (.iand, 1) := by decide +kernel
theorem dX1_lowestBad_13 : decode cX1_lowestBad 13 = .ok (.iconst 1, 1) := by decide +kernel
theorem dX1_lowestBad_14 : decode cX1_lowestBad 14 = .ok (.if_icmp .ne 13, 3) := by decide +kernel
theorem dX1_lowestBad_17 : decode cX1_lowestBad 17 = .ok (.aload_n 0, 1) := by decide +kernel
theorem dX1_lowestBad_18 : decode cX1_lowestBad 18 = .ok (.iload_n 2, 1) := by decide +kernel
theorem dX1_lowestBad_19 : decode cX1_lowestBad 19 = .ok (.invokevirtual 49, 3) := by decide +kernel
theorem dX1_lowestBad_22 : decode cX1_lowestBad 22 = .ok (.ifCond .eq 5, 3) := by decide +kernel
theorem dX1_lowestBad_25 : decode cX1_lowestBad 25 = .ok (.iload_n 2, 1) := by decide +kernel
theorem dX1_lowestBad_26 : decode cX1_lowestBad 26 = .ok (.ireturn, 1) := by decide +kernel
theorem dX1_lowestBad_27 : decode cX1_lowestBad 27 = .ok (.iinc 2 1, 3) := by decide +kernel
theorem dX1_lowestBad_30 : decode cX1_lowestBad 30 = .ok (.goto (-28), 3) := by decide +kernel
theorem dX1_lowestBad_33 : decode cX1_lowestBad 33 = .ok (.iconst 0, 1) := by decide +kernel
theorem dX1_lowestBad_34 : decode cX1_lowestBad 34 = .ok (.ireturn, 1) := by decide +kernel
set_option maxRecDepth 20000 in
theorem ggX1_isBad_X3_isSize : GoodIn wsX1_isBad wsX3_isSize := goodIn_r _ [6, 7] (by decide +kernel) (by decide +kernel)
set_option maxRecDepth 20000 in
theorem gX1_isBad_X3_isSize_n53 : GoodIn wsX1_isBad (wsX3_isSize) := ggX1_isBad_X3_isSize
set_option maxRecDepth 20000 in
theorem ggX1_isBad_X3_isClass : GoodIn wsX1_isBad wsX3_isClass := goodIn_r _ [9] (by decide +kernel) (by decide +kernel)
set_option maxRecDepth 20000 in
theorem gX1_isBad_X3_isClass_n56 : GoodIn wsX1_isBad (wsX3_isClass) := ggX1_isBad_X3_isClass
theorem dX1_isBad_0 : decode cX1_isBad 0 = .ok (.aload_n 0, 1) := by decide +kernel
theorem dX1_isBad_1 : decode cX1_isBad 1 = .ok (.getfield 9, 3) := by decide +kernel
theorem dX1_isBad_4 : decode cX1_isBad 4 = .ok (.iload_n 1, 1) := by decide +kernel
theorem dX1_isBad_5 : decode cX1_isBad 5 = .ok (.iaload, 1) := by decide +kernel
theorem dX1_isBad_6 : decode cX1_isBad 6 = .ok (.invokestatic 53, 3) := by decide +kernel
theorem dX1_isBad_9 : decode cX1_isBad 9 = .ok (.ifCond .ne 5, 3) := by decide +kernel
theorem dX1_isBad_12 : decode cX1_isBad 12 = .ok (.iconst 1, 1) := by decide +kernel
theorem dX1_isBad_13 : decode cX1_isBad 13 = .ok (.ireturn, 1) := by decide +kernel
theorem dX1_isBad_14 : decode cX1_isBad 14 = .ok (.aload_n 0, 1) := by decide +kernel
theorem dX1_isBad_15 : decode cX1_isBad 15 = .ok (.getfield 15, 3) := by decide +kernel
theorem dX1_isBad_18 : decode cX1_isBad 18 = .ok (.iload_n 1, 1) := by decide +kernel
theorem dX1_isBad_19 : decode cX1_isBad 19 = .ok (.iaload, 1) := by decide +kernel
theorem dX1_isBad_20 : decode cX1_isBad 20 = .ok (.ifCond .ne 18, 3) := by decide +kernel
theorem dX1_isBad_23 : decode cX1_isBad 23 = .ok (.aload_n 0, 1) := by decide +kernel
theorem dX1_isBad_24 : decode cX1_isBad 24 = .ok (.getfield 18, 3) := by decide +kernel
