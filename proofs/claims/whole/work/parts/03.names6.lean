set_option maxRecDepth 20000 in
theorem ggX4_block_X4_nodeAt : GoodIn wsX4_block wsX4_nodeAt := goodIn_r _ [26, 27, 28, 29, 6, 30, 31, 41, 42, 43, 44, 45, 46, 47, 48, 49, 50, 51, 52, 53, 54, 55, 56, 57, 58, 59, 60, 61, 62, 63, 64, 65, 66, 67, 68, 69] (by decide +kernel) (by decide +kernel)
set_option maxRecDepth 20000 in
theorem gX4_block_X4_nodeAt : GoodIn wsX4_block (wsV RX4 151 RX4 yX4_nodeAt wsX4_nodeAt) := goodIn_app (goodIn_of _ (by decide +kernel)) ggX4_block_X4_nodeAt
set_option maxRecDepth 20000 in
theorem ggX4_block_X4_classOf : GoodIn wsX4_block wsX4_classOf := goodIn_r _ [35, 31, 36, 41, 42, 43, 44, 45, 46, 47, 48, 49, 50, 51, 52, 53, 54, 55, 56, 57, 58, 59, 60, 61, 62, 63, 64, 65, 66, 67, 68, 69] (by decide +kernel) (by decide +kernel)
set_option maxRecDepth 20000 in
theorem gX4_block_X4_classOf : GoodIn wsX4_block (wsV RX4 139 RX4 yX4_classOf wsX4_classOf) := goodIn_app (goodIn_of _ (by decide +kernel)) ggX4_block_X4_classOf
set_option maxRecDepth 20000 in
theorem ggX4_block_X4_depth : GoodIn wsX4_block wsX4_depth := goodIn_r _ [40, 31, 36, 41, 42, 43, 44, 45, 46, 47, 48, 49, 50, 51, 52, 53, 54, 55, 56, 57, 58, 59, 60, 61, 62, 63, 64, 65, 66, 67, 68, 69] (by decide +kernel) (by decide +kernel)
set_option maxRecDepth 20000 in
theorem gX4_block_X4_depth : GoodIn wsX4_block (wsV RX4 116 RX4 yX4_depth wsX4_depth) := goodIn_app (goodIn_of _ (by decide +kernel)) ggX4_block_X4_depth
theorem dX4_block_0 : decode cX4_block 0 = .ok (.aload_n 0, 1) := by decide +kernel
theorem dX4_block_1 : decode cX4_block 1 = .ok (.invokevirtual 159, 3) := by decide +kernel
theorem dX4_block_4 : decode cX4_block 4 = .ok (.ifCond .ne 5, 3) := by decide +kernel
theorem dX4_block_7 : decode cX4_block 7 = .ok (.iconst 0, 1) := by decide +kernel
theorem dX4_block_8 : decode cX4_block 8 = .ok (.ireturn, 1) := by decide +kernel
theorem dX4_block_9 : decode cX4_block 9 = .ok (.aload_n 0, 1) := by decide +kernel
theorem dX4_block_10 : decode cX4_block 10 = .ok (.iload_n 1, 1) := by decide +kernel
theorem dX4_block_11 : decode cX4_block 11 = .ok (.invokevirtual 169, 3) := by decide +kernel
theorem dX4_block_14 : decode cX4_block 14 = .ok (.istore_n 3, 1) := by decide +kernel
theorem dX4_block_15 : decode cX4_block 15 = .ok (.iload_n 3, 1) := by decide +kernel
theorem dX4_block_16 : decode cX4_block 16 = .ok (.ifCond .lt 15, 3) := by decide +kernel
theorem dX4_block_19 : decode cX4_block 19 = .ok (.iload_n 2, 1) := by decide +kernel
theorem dX4_block_20 : decode cX4_block 20 = .ok (.i2l, 1) := by decide +kernel
theorem dX4_block_21 : decode cX4_block 21 = .ok (.lconst 0, 1) := by decide +kernel
theorem dX4_block_22 : decode cX4_block 22 = .ok (.ldc2_w 76, 3) := by decide +kernel
theorem dX4_block_25 : decode cX4_block 25 = .ok (.invokestatic 72, 3) := by decide +kernel
theorem dX4_block_28 : decode cX4_block 28 = .ok (.ifCond .ne 9, 3) := by decide +kernel
theorem dX4_block_31 : decode cX4_block 31 = .ok (.aload_n 0, 1) := by decide +kernel
theorem dX4_block_32 : decode cX4_block 32 = .ok (.iconst 2, 1) := by decide +kernel
theorem dX4_block_33 : decode cX4_block 33 = .ok (.invokevirtual 163, 3) := by decide +kernel
theorem dX4_block_36 : decode cX4_block 36 = .ok (.ireturn, 1) := by decide +kernel
theorem dX4_block_37 : decode cX4_block 37 = .ok (.aload_n 0, 1) := by decide +kernel
theorem dX4_block_38 : decode cX4_block 38 = .ok (.iload_n 1, 1) := by decide +kernel
theorem dX4_block_39 : decode cX4_block 39 = .ok (.invokevirtual 151, 3) := by decide +kernel
theorem dX4_block_42 : decode cX4_block 42 = .ok (.istore 4, 2) := by decide +kernel
theorem dX4_block_44 : decode cX4_block 44 = .ok (.iload_n 2, 1) := by decide +kernel
theorem dX4_block_45 : decode cX4_block 45 = .ok (.ifCond .ne 12, 3) := by decide +kernel
theorem dX4_block_48 : decode cX4_block 48 = .ok (.aload_n 0, 1) := by decide +kernel
theorem dX4_block_49 : decode cX4_block 49 = .ok (.iload 4, 2) := by decide +kernel
theorem dX4_block_51 : decode cX4_block 51 = .ok (.invokevirtual 139, 3) := by decide +kernel
theorem dX4_block_54 : decode cX4_block 54 = .ok (.goto 23, 3) := by decide +kernel
theorem dX4_block_57 : decode cX4_block 57 = .ok (.iload_n 2, 1) := by decide +kernel
theorem dX4_block_58 : decode cX4_block 58 = .ok (.iconst 1, 1) := by decide +kernel
theorem dX4_block_59 : decode cX4_block 59 = .ok (.if_icmp .ne 12, 3) := by decide +kernel
theorem dX4_block_62 : decode cX4_block 62 = .ok (.aload_n 0, 1) := by decide +kernel
theorem dX4_block_63 : decode cX4_block 63 = .ok (.getfield 45, 3) := by decide +kernel
theorem dX4_block_66 : decode cX4_block 66 = .ok (.iload_n 3, 1) := by decide +kernel
theorem dX4_block_67 : decode cX4_block 67 = .ok (.iaload, 1) := by decide +kernel
theorem dX4_block_68 : decode cX4_block 68 = .ok (.goto 9, 3) := by decide +kernel
theorem dX4_block_71 : decode cX4_block 71 = .ok (.aload_n 0, 1) := by decide +kernel
theorem dX4_block_72 : decode cX4_block 72 = .ok (.iload 4, 2) := by decide +kernel
theorem dX4_block_74 : decode cX4_block 74 = .ok (.invokevirtual 116, 3) := by decide +kernel
theorem dX4_block_77 : decode cX4_block 77 = .ok (.ireturn, 1) := by decide +kernel
set_option maxRecDepth 20000 in
theorem ggX4_path_X4_isThere : GoodIn wsX4_path wsX4_isThere := goodIn_r _ [5, 6, 7, 37, 38, 39, 40, 41, 42, 43, 44, 45, 46, 47, 48, 49, 50, 51, 52, 53, 54, 55, 56, 57, 58, 59, 60, 61, 62, 63, 64, 65] (by decide +kernel) (by decide +kernel)
set_option maxRecDepth 20000 in
theorem gX4_path_X4_isThere : GoodIn wsX4_path (wsV RX4 159 RX4 yX4_isThere wsX4_isThere) := goodIn_app (goodIn_of _ (by decide +kernel)) ggX4_path_X4_isThere
set_option maxRecDepth 20000 in
theorem ggX4_path_X4_blockOf : GoodIn wsX4_path wsX4_blockOf := goodIn_r _ [11, 12, 13, 37, 38, 39, 40, 41, 42, 43, 44, 45, 46, 47, 48, 49, 50, 51, 52, 53, 54, 55, 56, 57, 58, 59, 60, 61, 62, 63, 64, 65] (by decide +kernel) (by decide +kernel)
set_option maxRecDepth 20000 in
theorem gX4_path_X4_blockOf : GoodIn wsX4_path (wsV RX4 169 RX4 yX4_blockOf wsX4_blockOf) := goodIn_app (goodIn_of _ (by decide +kernel)) ggX4_path_X4_blockOf
set_option maxRecDepth 20000 in
theorem ggX4_path_X4_raise : GoodIn wsX4_path wsX4_raise := goodIn_r _ [17, 7, 37, 38, 39, 40, 41, 42, 43, 44, 45, 46, 47, 48, 49, 50, 51, 52, 53, 54, 55, 56, 57, 58, 59, 60, 61, 62, 63, 64, 65] (by decide +kernel) (by decide +kernel)
set_option maxRecDepth 20000 in
theorem gX4_path_X4_raise : GoodIn wsX4_path (wsV RX4 163 RX4 yX4_raise wsX4_raise) := goodIn_app (goodIn_of _ (by decide +kernel)) ggX4_path_X4_raise
set_option maxRecDepth 20000 in
theorem ggX4_path_X4_nodeAt : GoodIn wsX4_path wsX4_nodeAt := goodIn_r _ [21, 22, 23, 24, 4, 25, 26, 37, 38, 39, 40, 41, 42, 43, 44, 45, 46, 47, 48, 49, 50, 51, 52, 53, 54, 55, 56, 57, 58, 59, 60, 61, 62, 63, 64, 65] (by decide +kernel) (by decide +kernel)
set_option maxRecDepth 20000 in
theorem gX4_path_X4_nodeAt : GoodIn wsX4_path (wsV RX4 151 RX4 yX4_nodeAt wsX4_nodeAt) := goodIn_app (goodIn_of _ (by decide +kernel)) ggX4_path_X4_nodeAt
set_option maxRecDepth 20000 in
theorem ggX4_path_X4_depth : GoodIn wsX4_path wsX4_depth := goodIn_r _ [30, 26, 31, 37, 38, 39, 40, 41, 42, 43, 44, 45, 46, 47, 48, 49, 50, 51, 52, 53, 54, 55, 56, 57, 58, 59, 60, 61, 62, 63, 64, 65] (by decide +kernel) (by decide +kernel)
set_option maxRecDepth 20000 in
theorem gX4_path_X4_depth : GoodIn wsX4_path (wsV RX4 116 RX4 yX4_depth wsX4_depth) := goodIn_app (goodIn_of _ (by decide +kernel)) ggX4_path_X4_depth
set_option maxRecDepth 20000 in
theorem ggX4_path_X4_sides : GoodIn wsX4_path wsX4_sides := goodIn_r _ [35, 26, 36, 37, 38, 39, 40, 41, 42, 43, 44, 45, 46, 47, 48, 49, 50, 51, 52, 53, 54, 55, 56, 57, 58, 59, 60, 61, 62, 63, 64, 65] (by decide +kernel) (by decide +kernel)
set_option maxRecDepth 20000 in
theorem gX4_path_X4_sides : GoodIn wsX4_path (wsV RX4 120 RX4 yX4_sides wsX4_sides) := goodIn_app (goodIn_of _ (by decide +kernel)) ggX4_path_X4_sides
theorem dX4_path_0 : decode cX4_path 0 = .ok (.aload_n 0, 1) := by decide +kernel
theorem dX4_path_1 : decode cX4_path 1 = .ok (.invokevirtual 159, 3) := by decide +kernel
theorem dX4_path_4 : decode cX4_path 4 = .ok (.ifCond .ne 5, 3) := by decide +kernel
theorem dX4_path_7 : decode cX4_path 7 = .ok (.iconst 0, 1) := by decide +kernel
theorem dX4_path_8 : decode cX4_path 8 = .ok (.ireturn, 1) := by decide +kernel
theorem dX4_path_9 : decode cX4_path 9 = .ok (.aload_n 0, 1) := by decide +kernel
theorem dX4_path_10 : decode cX4_path 10 = .ok (.iload_n 1, 1) := by decide +kernel
theorem dX4_path_11 : decode cX4_path 11 = .ok (.invokevirtual 169, 3) := by decide +kernel
theorem dX4_path_14 : decode cX4_path 14 = .ok (.ifCond .lt 7, 3) := by decide +kernel
theorem dX4_path_17 : decode cX4_path 17 = .ok (.iload_n 2, 1) := by decide +kernel
theorem dX4_path_18 : decode cX4_path 18 = .ok (.ifCond .ge 9, 3) := by decide +kernel
theorem dX4_path_21 : decode cX4_path 21 = .ok (.aload_n 0, 1) := by decide +kernel
theorem dX4_path_22 : decode cX4_path 22 = .ok (.iconst 2, 1) := by decide +kernel
theorem dX4_path_23 : decode cX4_path 23 = .ok (.invokevirtual 163, 3) := by decide +kernel
theorem dX4_path_26 : decode cX4_path 26 = .ok (.ireturn, 1) := by decide +kernel
theorem dX4_path_27 : decode cX4_path 27 = .ok (.aload_n 0, 1) := by decide +kernel
theorem dX4_path_28 : decode cX4_path 28 = .ok (.iload_n 1, 1) := by decide +kernel
theorem dX4_path_29 : decode cX4_path 29 = .ok (.invokevirtual 151, 3) := by decide +kernel
theorem dX4_path_32 : decode cX4_path 32 = .ok (.istore_n 3, 1) := by decide +kernel
theorem dX4_path_33 : decode cX4_path 33 = .ok (.iload_n 2, 1) := by decide +kernel
theorem dX4_path_34 : decode cX4_path 34 = .ok (.aload_n 0, 1) := by decide +kernel
theorem dX4_path_35 : decode cX4_path 35 = .ok (.iload_n 3, 1) := by decide +kernel
theorem dX4_path_36 : decode cX4_path 36 = .ok (.invokevirtual 116, 3) := by decide +kernel
theorem dX4_path_39 : decode cX4_path 39 = .ok (.if_icmp .lt 7, 3) := by decide +kernel
theorem dX4_path_42 : decode cX4_path 42 = .ok (.iconst (-1), 1) := by decide +kernel
theorem dX4_path_43 : decode cX4_path 43 = .ok (.goto 20, 3) := by decide +kernel
theorem dX4_path_46 : decode cX4_path 46 = .ok (.aload_n 0, 1) := by decide +kernel
theorem dX4_path_47 : decode cX4_path 47 = .ok (.iload_n 3, 1) := by decide +kernel
theorem dX4_path_48 : decode cX4_path 48 = .ok (.invokevirtual 120, 3) := by decide +kernel
theorem dX4_path_51 : decode cX4_path 51 = .ok (.aload_n 0, 1) := by decide +kernel
theorem dX4_path_52 : decode cX4_path 52 = .ok (.iload_n 3, 1) := by decide +kernel
theorem dX4_path_53 : decode cX4_path 53 = .ok (.invokevirtual 116, 3) := by decide +kernel
theorem dX4_path_56 : decode cX4_path 56 = .ok (.iconst 1, 1) := by decide +kernel
theorem dX4_path_57 : decode cX4_path 57 = .ok (.isub, 1) := by decide +kernel
theorem dX4_path_58 : decode cX4_path 58 = .ok (.iload_n 2, 1) := by decide +kernel
theorem dX4_path_59 : decode cX4_path 59 = .ok (.isub, 1) := by decide +kernel
theorem dX4_path_60 : decode cX4_path 60 = .ok (.ishr, 1) := by decide +kernel
theorem dX4_path_61 : decode cX4_path 61 = .ok (.iconst 1, 1) := by decide +kernel
theorem dX4_path_62 : decode cX4_path 62 = .ok (.iand, 1) := by decide +kernel
theorem dX4_path_63 : decode cX4_path 63 = .ok (.ireturn, 1) := by decide +kernel
set_option maxRecDepth 20000 in
theorem ggX4_keep_X4_isThere : GoodIn wsX4_keep wsX4_isThere := goodIn_r _ [10, 11, 4, 15, 16, 17, 18, 19, 20, 21, 22, 23, 24, 25, 26, 27, 28, 29, 30, 31, 32, 33, 34, 35, 36, 37, 38, 39, 40, 41, 42, 43] (by decide +kernel) (by decide +kernel)
set_option maxRecDepth 20000 in
theorem gX4_keep_X4_isThere : GoodIn wsX4_keep (wsV RX4 159 RX4 yX4_isThere wsX4_isThere) := goodIn_app (goodIn_of _ (by decide +kernel)) ggX4_keep_X4_isThere
set_option maxRecDepth 20000 in
theorem ggX4_keep_X4_in : GoodIn wsX4_keep wsX4_in := goodIn_r _ [14] (by decide +kernel) (by decide +kernel)
set_option maxRecDepth 20000 in
theorem gX4_keep_X4_in : GoodIn wsX4_keep (va_wsS RX4 72 yX4_in wsX4_in) := goodIn_app (goodIn_of _ (by decide +kernel)) ggX4_keep_X4_in
theorem dX4_keep_0 : decode cX4_keep 0 = .ok (.aload_n 0, 1) := by decide +kernel
theorem dX4_keep_1 : decode cX4_keep 1 = .ok (.invokevirtual 159, 3) := by decide +kernel
theorem dX4_keep_4 : decode cX4_keep 4 = .ok (.ifCond .ne 4, 3) := by decide +kernel
theorem dX4_keep_7 : decode cX4_keep 7 = .ok (.return_, 1) := by decide +kernel
theorem dX4_keep_8 : decode cX4_keep 8 = .ok (.aload_n 0, 1) := by decide +kernel
theorem dX4_keep_9 : decode cX4_keep 9 = .ok (.iload_n 1, 1) := by decide +kernel
theorem dX4_keep_10 : decode cX4_keep 10 = .ok (.i2l, 1) := by decide +kernel
theorem dX4_keep_11 : decode cX4_keep 11 = .ok (.lconst 1, 1) := by decide +kernel
theorem dX4_keep_12 : decode cX4_keep 12 = .ok (.ldc2_w 70, 3) := by decide +kernel
theorem dX4_keep_15 : decode cX4_keep 15 = .ok (.invokestatic 72, 3) := by decide +kernel
theorem dX4_keep_18 : decode cX4_keep 18 = .ok (.ifCond .eq 28, 3) := by decide +kernel
theorem dX4_keep_21 : decode cX4_keep 21 = .ok (.aload_n 0, 1) := by decide +kernel
theorem dX4_keep_22 : decode cX4_keep 22 = .ok (.getfield 28, 3) := by decide +kernel
theorem dX4_keep_25 : decode cX4_keep 25 = .ok (.iload_n 1, 1) := by decide +kernel
theorem dX4_keep_26 : decode cX4_keep 26 = .ok (.baload, 1) := by decide +kernel
theorem dX4_keep_27 : decode cX4_keep 27 = .ok (.ifCond .eq 19, 3) := by decide +kernel
theorem dX4_keep_30 : decode cX4_keep 30 = .ok (.iload_n 2, 1) := by decide +kernel
theorem dX4_keep_31 : decode cX4_keep 31 = .ok (.i2l, 1) := by decide +kernel
theorem dX4_keep_32 : decode cX4_keep 32 = .ok (.lconst 0, 1) := by decide +kernel
theorem dX4_keep_33 : decode cX4_keep 33 = .ok (.ldc2_w 175, 3) := by decide +kernel
theorem dX4_keep_36 : decode cX4_keep 36 = .ok (.invokestatic 72, 3) := by decide +kernel
theorem dX4_keep_39 : decode cX4_keep 39 = .ok (.ifCond .eq 7, 3) := by decide +kernel
theorem dX4_keep_42 : decode cX4_keep 42 = .ok (.iconst 0, 1) := by decide +kernel
theorem dX4_keep_43 : decode cX4_keep 43 = .ok (.goto 4, 3) := by decide +kernel
theorem dX4_keep_46 : decode cX4_keep 46 = .ok (.iconst 2, 1) := by decide +kernel
theorem dX4_keep_47 : decode cX4_keep 47 = .ok (.putfield 66, 3) := by decide +kernel
theorem dX4_keep_50 : decode cX4_keep 50 = .ok (.aload_n 0, 1) := by decide +kernel
theorem dX4_keep_51 : decode cX4_keep 51 = .ok (.getfield 66, 3) := by decide +kernel
theorem dX4_keep_54 : decode cX4_keep 54 = .ok (.ifCond .ne 10, 3) := by decide +kernel
theorem dX4_keep_57 : decode cX4_keep 57 = .ok (.aload_n 0, 1) := by decide +kernel
theorem dX4_keep_58 : decode cX4_keep 58 = .ok (.getfield 35, 3) := by decide +kernel
theorem dX4_keep_61 : decode cX4_keep 61 = .ok (.iload_n 1, 1) := by decide +kernel
theorem dX4_keep_62 : decode cX4_keep 62 = .ok (.iload_n 2, 1) := by decide +kernel
theorem dX4_keep_63 : decode cX4_keep 63 = .ok (.iastore, 1) := by decide +kernel
theorem dX4_keep_64 : decode cX4_keep 64 = .ok (.return_, 1) := by decide +kernel
set_option maxRecDepth 20000 in
theorem ggX4_join_X4_isThere : GoodIn wsX4_join wsX4_isThere := goodIn_r _ [5, 6, 7, 50, 51, 52, 53, 54, 55, 56, 57, 58, 59, 60, 61, 62, 63, 64, 65, 66, 67, 68, 69, 70, 71, 72, 73, 74, 75, 76, 77, 78] (by decide +kernel) (by decide +kernel)
set_option maxRecDepth 20000 in
theorem gX4_join_X4_isThere : GoodIn wsX4_join (wsV RX4 159 RX4 yX4_isThere wsX4_isThere) := goodIn_app (goodIn_of _ (by decide +kernel)) ggX4_join_X4_isThere
set_option maxRecDepth 20000 in
theorem ggX4_join_X4_joinAll : GoodIn wsX4_join wsX4_joinAll := goodIn_r _ [11, 12, 13, 14, 15, 16, 4, 17, 18, 19, 20, 21, 22, 23, 24, 25, 26, 27, 28, 29, 30, 31, 32, 33, 34, 35, 36, 37, 38, 39, 40, 41, 42, 43, 44, 6, 45, 46, 47, 48, 49, 50, 51, 52, 53, 54, 55, 56, 57, 58, 59, 60, 61, 62, 63, 64, 65, 66, 67, 68, 69, 70, 71, 72, 73, 74, 75, 76, 77, 78] (by decide +kernel) (by decide +kernel)
set_option maxRecDepth 20000 in
theorem gX4_join_X4_joinAll : GoodIn wsX4_join (wsV RX4 145 RX4 yX4_joinAll wsX4_joinAll) := goodIn_app (goodIn_of _ (by decide +kernel)) ggX4_join_X4_joinAll
theorem dX4_join_0 : decode cX4_join 0 = .ok (.aload_n 0, 1) := by decide +kernel
theorem dX4_join_1 : decode cX4_join 1 = .ok (.invokevirtual 159, 3) := by decide +kernel
theorem dX4_join_4 : decode cX4_join 4 = .ok (.ifCond .eq 10, 3) := by decide +kernel
theorem dX4_join_7 : decode cX4_join 7 = .ok (.aload_n 0, 1) := by decide +kernel
theorem dX4_join_8 : decode cX4_join 8 = .ok (.invokevirtual 145, 3) := by decide +kernel
theorem dX4_join_11 : decode cX4_join 11 = .ok (.goto 4, 3) := by decide +kernel
theorem dX4_join_14 : decode cX4_join 14 = .ok (.iconst 0, 1) := by decide +kernel
theorem dX4_join_15 : decode cX4_join 15 = .ok (.ireturn, 1) := by decide +kernel
set_option maxRecDepth 20000 in
theorem ggX4_nodes_X4_isThere : GoodIn wsX4_nodes wsX4_isThere := goodIn_r _ [9, 10, 11, 37, 38, 39, 40, 41, 42, 43, 44, 45, 46, 47, 48, 49, 50, 51, 52, 53, 54, 55, 56, 57, 58, 59, 60, 61, 62, 63, 64, 65] (by decide +kernel) (by decide +kernel)
set_option maxRecDepth 20000 in
theorem gX4_nodes_X4_isThere : GoodIn wsX4_nodes (wsV RX4 159 RX4 yX4_isThere wsX4_isThere) := goodIn_app (goodIn_of _ (by decide +kernel)) ggX4_nodes_X4_isThere
set_option maxRecDepth 20000 in
theorem ggX4_nodes_X4_in : GoodIn wsX4_nodes wsX4_in := goodIn_r _ [14] (by decide +kernel) (by decide +kernel)
set_option maxRecDepth 20000 in
theorem gX4_nodes_X4_in : GoodIn wsX4_nodes (va_wsS RX4 72 yX4_in wsX4_in) := goodIn_app (goodIn_of _ (by decide +kernel)) ggX4_nodes_X4_in
set_option maxRecDepth 20000 in
theorem ggX4_nodes_X4_raise : GoodIn wsX4_nodes wsX4_raise := goodIn_r _ [18, 11, 37, 38, 39, 40, 41, 42, 43, 44, 45, 46, 47, 48, 49, 50, 51, 52, 53, 54, 55, 56, 57, 58, 59, 60, 61, 62, 63, 64, 65] (by decide +kernel) (by decide +kernel)
set_option maxRecDepth 20000 in
theorem gX4_nodes_X4_raise : GoodIn wsX4_nodes (wsV RX4 163 RX4 yX4_raise wsX4_raise) := goodIn_app (goodIn_of _ (by decide +kernel)) ggX4_nodes_X4_raise
set_option maxRecDepth 20000 in
theorem ggX4_nodes_X4_isLive : GoodIn wsX4_nodes wsX4_isLive := goodIn_r _ [22, 23, 37, 38, 39, 40, 41, 42, 43, 44, 45, 46, 47, 48, 49, 50, 51, 52, 53, 54, 55, 56, 57, 58, 59, 60, 61, 62, 63, 64, 65] (by decide +kernel) (by decide +kernel)
set_option maxRecDepth 20000 in
theorem gX4_nodes_X4_isLive : GoodIn wsX4_nodes (wsV RX4 132 RX4 yX4_isLive wsX4_isLive) := goodIn_app (goodIn_of _ (by decide +kernel)) ggX4_nodes_X4_isLive
set_option maxRecDepth 20000 in
theorem ggX4_nodes_X4_classOf : GoodIn wsX4_nodes wsX4_classOf := goodIn_r _ [27, 23, 28, 37, 38, 39, 40, 41, 42, 43, 44, 45, 46, 47, 48, 49, 50, 51, 52, 53, 54, 55, 56, 57, 58, 59, 60, 61, 62, 63, 64, 65] (by decide +kernel) (by decide +kernel)
set_option maxRecDepth 20000 in
theorem gX4_nodes_X4_classOf : GoodIn wsX4_nodes (wsV RX4 139 RX4 yX4_classOf wsX4_classOf) := goodIn_app (goodIn_of _ (by decide +kernel)) ggX4_nodes_X4_classOf
set_option maxRecDepth 20000 in
theorem ggX4_nodes_X4_address : GoodIn wsX4_nodes wsX4_address := goodIn_r _ [32, 23, 37, 38, 39, 40, 41, 42, 43, 44, 45, 46, 47, 48, 49, 50, 51, 52, 53, 54, 55, 56, 57, 58, 59, 60, 61, 62, 63, 64, 65] (by decide +kernel) (by decide +kernel)
set_option maxRecDepth 20000 in
theorem gX4_nodes_X4_address : GoodIn wsX4_nodes (wsV RX4 123 RX4 yX4_address wsX4_address) := goodIn_app (goodIn_of _ (by decide +kernel)) ggX4_nodes_X4_address
set_option maxRecDepth 20000 in
theorem ggX4_nodes_X4_freeOf : GoodIn wsX4_nodes wsX4_freeOf := goodIn_r _ [36, 4, 19, 20, 21, 8, 22, 23, 24, 25, 26, 27, 28, 37, 38, 39, 40, 41, 42, 43, 44, 45, 46, 47, 48, 49, 50, 51, 52, 53, 54, 55, 56, 57, 58, 59, 60, 61, 62, 63, 64, 65] (by decide +kernel) (by decide +kernel)
set_option maxRecDepth 20000 in
theorem gX4_nodes_X4_freeOf : GoodIn wsX4_nodes (wsV RX4 156 RX4 yX4_freeOf wsX4_freeOf) := goodIn_app (goodIn_of _ (by decide +kernel)) ggX4_nodes_X4_freeOf
theorem dX4_nodes_0 : decode cX4_nodes 0 = .ok (.aload_n 0, 1) := by decide +kernel
theorem dX4_nodes_1 : decode cX4_nodes 1 = .ok (.invokevirtual 159, 3) := by decide +kernel
theorem dX4_nodes_4 : decode cX4_nodes 4 = .ok (.ifCond .ne 5, 3) := by decide +kernel
theorem dX4_nodes_7 : decode cX4_nodes 7 = .ok (.iconst 0, 1) := by decide +kernel
theorem dX4_nodes_8 : decode cX4_nodes 8 = .ok (.ireturn, 1) := by decide +kernel
theorem dX4_nodes_9 : decode cX4_nodes 9 = .ok (.iload_n 1, 1) := by decide +kernel
theorem dX4_nodes_10 : decode cX4_nodes 10 = .ok (.i2l, 1) := by decide +kernel
theorem dX4_nodes_11 : decode cX4_nodes 11 = .ok (.lconst 1, 1) := by decide +kernel
theorem dX4_nodes_12 : decode cX4_nodes 12 = .ok (.ldc2_w 70, 3) := by decide +kernel
theorem dX4_nodes_15 : decode cX4_nodes 15 = .ok (.invokestatic 72, 3) := by decide +kernel
theorem dX4_nodes_18 : decode cX4_nodes 18 = .ok (.ifCond .eq 24, 3) := by decide +kernel
theorem dX4_nodes_21 : decode cX4_nodes 21 = .ok (.aload_n 0, 1) := by decide +kernel
theorem dX4_nodes_22 : decode cX4_nodes 22 = .ok (.getfield 28, 3) := by decide +kernel
theorem dX4_nodes_25 : decode cX4_nodes 25 = .ok (.iload_n 1, 1) := by decide +kernel
theorem dX4_nodes_26 : decode cX4_nodes 26 = .ok (.baload, 1) := by decide +kernel
theorem dX4_nodes_27 : decode cX4_nodes 27 = .ok (.ifCond .eq 15, 3) := by decide +kernel
theorem dX4_nodes_30 : decode cX4_nodes 30 = .ok (.iload_n 2, 1) := by decide +kernel
theorem dX4_nodes_31 : decode cX4_nodes 31 = .ok (.i2l, 1) := by decide +kernel
theorem dX4_nodes_32 : decode cX4_nodes 32 = .ok (.lconst 0, 1) := by decide +kernel
theorem dX4_nodes_33 : decode cX4_nodes 33 = .ok (.ldc2_w 76, 3) := by decide +kernel
theorem dX4_nodes_36 : decode cX4_nodes 36 = .ok (.invokestatic 72, 3) := by decide +kernel
theorem dX4_nodes_39 : decode cX4_nodes 39 = .ok (.ifCond .ne 9, 3) := by decide +kernel
theorem dX4_nodes_42 : decode cX4_nodes 42 = .ok (.aload_n 0, 1) := by decide +kernel
theorem dX4_nodes_43 : decode cX4_nodes 43 = .ok (.iconst 2, 1) := by decide +kernel
theorem dX4_nodes_44 : decode cX4_nodes 44 = .ok (.invokevirtual 163, 3) := by decide +kernel
theorem dX4_nodes_47 : decode cX4_nodes 47 = .ok (.ireturn, 1) := by decide +kernel
theorem dX4_nodes_48 : decode cX4_nodes 48 = .ok (.iconst (-1), 1) := by decide +kernel
theorem dX4_nodes_49 : decode cX4_nodes 49 = .ok (.istore_n 3, 1) := by decide +kernel
theorem dX4_nodes_50 : decode cX4_nodes 50 = .ok (.iconst (-1), 1) := by decide +kernel
theorem dX4_nodes_51 : decode cX4_nodes 51 = .ok (.istore 4, 2) := by decide +kernel
theorem dX4_nodes_53 : decode cX4_nodes 53 = .ok (.iconst 0, 1) := by decide +kernel
theorem dX4_nodes_54 : decode cX4_nodes 54 = .ok (.istore 5, 2) := by decide +kernel
theorem dX4_nodes_56 : decode cX4_nodes 56 = .ok (.iload 5, 2) := by decide +kernel
theorem dX4_nodes_58 : decode cX4_nodes 58 = .ok (.aload_n 0, 1) := by decide +kernel
theorem dX4_nodes_59 : decode cX4_nodes 59 = .ok (.getfield 96, 3) := by decide +kernel
theorem dX4_nodes_62 : decode cX4_nodes 62 = .ok (.if_icmp .ge 46, 3) := by decide +kernel
theorem dX4_nodes_65 : decode cX4_nodes 65 = .ok (.aload_n 0, 1) := by decide +kernel
theorem dX4_nodes_66 : decode cX4_nodes 66 = .ok (.iload 5, 2) := by decide +kernel
theorem dX4_nodes_68 : decode cX4_nodes 68 = .ok (.invokevirtual 132, 3) := by decide +kernel
theorem dX4_nodes_71 : decode cX4_nodes 71 = .ok (.ifCond .ne 31, 3) := by decide +kernel
theorem dX4_nodes_74 : decode cX4_nodes 74 = .ok (.aload_n 0, 1) := by decide +kernel
theorem dX4_nodes_75 : decode cX4_nodes 75 = .ok (.iload 5, 2) := by decide +kernel
theorem dX4_nodes_77 : decode cX4_nodes 77 = .ok (.invokevirtual 139, 3) := by decide +kernel
theorem dX4_nodes_80 : decode cX4_nodes 80 = .ok (.iload_n 1, 1) := by decide +kernel
theorem dX4_nodes_81 : decode cX4_nodes 81 = .ok (.if_icmp .eq 6, 3) := by decide +kernel
theorem dX4_nodes_84 : decode cX4_nodes 84 = .ok (.goto 18, 3) := by decide +kernel
theorem dX4_nodes_87 : decode cX4_nodes 87 = .ok (.aload_n 0, 1) := by decide +kernel
theorem dX4_nodes_88 : decode cX4_nodes 88 = .ok (.iload 5, 2) := by decide +kernel
theorem dX4_nodes_90 : decode cX4_nodes 90 = .ok (.invokevirtual 123, 3) := by decide +kernel
theorem dX4_nodes_93 : decode cX4_nodes 93 = .ok (.istore 4, 2) := by decide +kernel
theorem dX4_nodes_95 : decode cX4_nodes 95 = .ok (.iload_n 3, 1) := by decide +kernel
theorem dX4_nodes_96 : decode cX4_nodes 96 = .ok (.ifCond .ge 6, 3) := by decide +kernel
theorem dX4_nodes_99 : decode cX4_nodes 99 = .ok (.iload 4, 2) := by decide +kernel
theorem dX4_nodes_101 : decode cX4_nodes 101 = .ok (.istore_n 3, 1) := by decide +kernel
theorem dX4_nodes_102 : decode cX4_nodes 102 = .ok (.iinc 5 1, 3) := by decide +kernel
theorem dX4_nodes_105 : decode cX4_nodes 105 = .ok (.goto (-49), 3) := by decide +kernel
theorem dX4_nodes_108 : decode cX4_nodes 108 = .ok (.iload_n 2, 1) := by decide +kernel
theorem dX4_nodes_109 : decode cX4_nodes 109 = .ok (.ifCond .ne 11, 3) := by decide +kernel
theorem dX4_nodes_112 : decode cX4_nodes 112 = .ok (.aload_n 0, 1) := by decide +kernel
theorem dX4_nodes_113 : decode cX4_nodes 113 = .ok (.iload_n 1, 1) := by decide +kernel
theorem dX4_nodes_114 : decode cX4_nodes 114 = .ok (.invokevirtual 156, 3) := by decide +kernel
theorem dX4_nodes_117 : decode cX4_nodes 117 = .ok (.goto 14, 3) := by decide +kernel
theorem dX4_nodes_120 : decode cX4_nodes 120 = .ok (.iload_n 2, 1) := by decide +kernel
theorem dX4_nodes_121 : decode cX4_nodes 121 = .ok (.iconst 1, 1) := by decide +kernel
theorem dX4_nodes_122 : decode cX4_nodes 122 = .ok (.if_icmp .ne 7, 3) := by decide +kernel
theorem dX4_nodes_125 : decode cX4_nodes 125 = .ok (.iload_n 3, 1) := by decide +kernel
theorem dX4_nodes_126 : decode cX4_nodes 126 = .ok (.goto 5, 3) := by decide +kernel
theorem dX4_nodes_129 : decode cX4_nodes 129 = .ok (.iload 4, 2) := by decide +kernel
theorem dX4_nodes_131 : decode cX4_nodes 131 = .ok (.ireturn, 1) := by decide +kernel
set_option maxRecDepth 20000 in
theorem ggX4_leaf_X4_isThere : GoodIn wsX4_leaf wsX4_isThere := goodIn_r _ [8, 9, 10, 34, 35, 36, 37, 38, 39, 40, 41, 42, 43, 44, 45, 46, 47, 48, 49, 50, 51, 52, 53, 54, 55, 56, 57, 58, 59, 60, 61, 62] (by decide +kernel) (by decide +kernel)
set_option maxRecDepth 20000 in
theorem gX4_leaf_X4_isThere : GoodIn wsX4_leaf (wsV RX4 159 RX4 yX4_isThere wsX4_isThere) := goodIn_app (goodIn_of _ (by decide +kernel)) ggX4_leaf_X4_isThere
set_option maxRecDepth 20000 in
theorem ggX4_leaf_X4_in : GoodIn wsX4_leaf wsX4_in := goodIn_r _ [13] (by decide +kernel) (by decide +kernel)
set_option maxRecDepth 20000 in
theorem gX4_leaf_X4_in : GoodIn wsX4_leaf (va_wsS RX4 72 yX4_in wsX4_in) := goodIn_app (goodIn_of _ (by decide +kernel)) ggX4_leaf_X4_in
set_option maxRecDepth 20000 in
theorem ggX4_leaf_X4_address : GoodIn wsX4_leaf wsX4_address := goodIn_r _ [17, 18, 34, 35, 36, 37, 38, 39, 40, 41, 42, 43, 44, 45, 46, 47, 48, 49, 50, 51, 52, 53, 54, 55, 56, 57, 58, 59, 60, 61, 62] (by decide +kernel) (by decide +kernel)
set_option maxRecDepth 20000 in
theorem gX4_leaf_X4_address : GoodIn wsX4_leaf (wsV RX4 123 RX4 yX4_address wsX4_address) := goodIn_app (goodIn_of _ (by decide +kernel)) ggX4_leaf_X4_address
set_option maxRecDepth 20000 in
theorem ggX4_leaf_X4_classOf : GoodIn wsX4_leaf wsX4_classOf := goodIn_r _ [22, 18, 23, 34, 35, 36, 37, 38, 39, 40, 41, 42, 43, 44, 45, 46, 47, 48, 49, 50, 51, 52, 53, 54, 55, 56, 57, 58, 59, 60, 61, 62] (by decide +kernel) (by decide +kernel)
set_option maxRecDepth 20000 in
theorem gX4_leaf_X4_classOf : GoodIn wsX4_leaf (wsV RX4 139 RX4 yX4_classOf wsX4_classOf) := goodIn_app (goodIn_of _ (by decide +kernel)) ggX4_leaf_X4_classOf
set_option maxRecDepth 20000 in
theorem ggX4_leaf_X4_isLive : GoodIn wsX4_leaf wsX4_isLive := goodIn_r _ [27, 18, 34, 35, 36, 37, 38, 39, 40, 41, 42, 43, 44, 45, 46, 47, 48, 49, 50, 51, 52, 53, 54, 55, 56, 57, 58, 59, 60, 61, 62] (by decide +kernel) (by decide +kernel)
set_option maxRecDepth 20000 in
theorem gX4_leaf_X4_isLive : GoodIn wsX4_leaf (wsV RX4 132 RX4 yX4_isLive wsX4_isLive) := goodIn_app (goodIn_of _ (by decide +kernel)) ggX4_leaf_X4_isLive
set_option maxRecDepth 20000 in
theorem ggX4_leaf_X4_blockOf : GoodIn wsX4_leaf wsX4_blockOf := goodIn_r _ [31, 32, 33, 34, 35, 36, 37, 38, 39, 40, 41, 42, 43, 44, 45, 46, 47, 48, 49, 50, 51, 52, 53, 54, 55, 56, 57, 58, 59, 60, 61, 62] (by decide +kernel) (by decide +kernel)
set_option maxRecDepth 20000 in
theorem gX4_leaf_X4_blockOf : GoodIn wsX4_leaf (wsV RX4 169 RX4 yX4_blockOf wsX4_blockOf) := goodIn_app (goodIn_of _ (by decide +kernel)) ggX4_leaf_X4_blockOf
theorem dX4_leaf_0 : decode cX4_leaf 0 = .ok (.aload_n 0, 1) := by decide +kernel
theorem dX4_leaf_1 : decode cX4_leaf 1 = .ok (.invokevirtual 159, 3) := by decide +kernel
theorem dX4_leaf_4 : decode cX4_leaf 4 = .ok (.ifCond .ne 5, 3) := by decide +kernel
theorem dX4_leaf_7 : decode cX4_leaf 7 = .ok (.iconst 0, 1) := by decide +kernel
theorem dX4_leaf_8 : decode cX4_leaf 8 = .ok (.ireturn, 1) := by decide +kernel
theorem dX4_leaf_9 : decode cX4_leaf 9 = .ok (.iload_n 1, 1) := by decide +kernel
theorem dX4_leaf_10 : decode cX4_leaf 10 = .ok (.i2l, 1) := by decide +kernel
theorem dX4_leaf_11 : decode cX4_leaf 11 = .ok (.lconst 0, 1) := by decide +kernel
theorem dX4_leaf_12 : decode cX4_leaf 12 = .ok (.aload_n 0, 1) := by decide +kernel
theorem dX4_leaf_13 : decode cX4_leaf 13 = .ok (.getfield 96, 3) := by decide +kernel
theorem dX4_leaf_16 : decode cX4_leaf 16 = .ok (.iconst 1, 1) := by decide +kernel
theorem dX4_leaf_17 : decode cX4_leaf 17 = .ok (.isub, 1) := by decide +kernel
theorem dX4_leaf_18 : decode cX4_leaf 18 = .ok (.i2l, 1) := by decide +kernel
theorem dX4_leaf_19 : decode cX4_leaf 19 = .ok (.invokestatic 72, 3) := by decide +kernel
theorem dX4_leaf_22 : decode cX4_leaf 22 = .ok (.ifCond .eq 15, 3) := by decide +kernel
theorem dX4_leaf_25 : decode cX4_leaf 25 = .ok (.iload_n 2, 1) := by decide +kernel
theorem dX4_leaf_26 : decode cX4_leaf 26 = .ok (.i2l, 1) := by decide +kernel
theorem dX4_leaf_27 : decode cX4_leaf 27 = .ok (.lconst 0, 1) := by decide +kernel
theorem dX4_leaf_28 : decode cX4_leaf 28 = .ok (.ldc2_w 76, 3) := by decide +kernel
theorem dX4_leaf_31 : decode cX4_leaf 31 = .ok (.invokestatic 72, 3) := by decide +kernel
theorem dX4_leaf_34 : decode cX4_leaf 34 = .ok (.ifCond .ne 5, 3) := by decide +kernel
theorem dX4_leaf_37 : decode cX4_leaf 37 = .ok (.iconst (-1), 1) := by decide +kernel
theorem dX4_leaf_38 : decode cX4_leaf 38 = .ok (.ireturn, 1) := by decide +kernel
theorem dX4_leaf_39 : decode cX4_leaf 39 = .ok (.iload_n 2, 1) := by decide +kernel
theorem dX4_leaf_40 : decode cX4_leaf 40 = .ok (.ifCond .ne 9, 3) := by decide +kernel
theorem dX4_leaf_43 : decode cX4_leaf 43 = .ok (.aload_n 0, 1) := by decide +kernel
theorem dX4_leaf_44 : decode cX4_leaf 44 = .ok (.iload_n 1, 1) := by decide +kernel
theorem dX4_leaf_45 : decode cX4_leaf 45 = .ok (.invokevirtual 123, 3) := by decide +kernel
theorem dX4_leaf_48 : decode cX4_leaf 48 = .ok (.ireturn, 1) := by decide +kernel
theorem dX4_leaf_49 : decode cX4_leaf 49 = .ok (.iload_n 2, 1) := by decide +kernel
theorem dX4_leaf_50 : decode cX4_leaf 50 = .ok (.iconst 1, 1) := by decide +kernel
theorem dX4_leaf_51 : decode cX4_leaf 51 = .ok (.if_icmp .ne 9, 3) := by decide +kernel
theorem dX4_leaf_54 : decode cX4_leaf 54 = .ok (.aload_n 0, 1) := by decide +kernel
theorem dX4_leaf_55 : decode cX4_leaf 55 = .ok (.iload_n 1, 1) := by decide +kernel
theorem dX4_leaf_56 : decode cX4_leaf 56 = .ok (.invokevirtual 139, 3) := by decide +kernel
theorem dX4_leaf_59 : decode cX4_leaf 59 = .ok (.ireturn, 1) := by decide +kernel
theorem dX4_leaf_60 : decode cX4_leaf 60 = .ok (.aload_n 0, 1) := by decide +kernel
theorem dX4_leaf_61 : decode cX4_leaf 61 = .ok (.iload_n 1, 1) := by decide +kernel
theorem dX4_leaf_62 : decode cX4_leaf 62 = .ok (.invokevirtual 132, 3) := by decide +kernel
theorem dX4_leaf_65 : decode cX4_leaf 65 = .ok (.ifCond .eq 20, 3) := by decide +kernel
theorem dX4_leaf_68 : decode cX4_leaf 68 = .ok (.aload_n 0, 1) := by decide +kernel
theorem dX4_leaf_69 : decode cX4_leaf 69 = .ok (.getfield 45, 3) := by decide +kernel
theorem dX4_leaf_72 : decode cX4_leaf 72 = .ok (.aload_n 0, 1) := by decide +kernel
theorem dX4_leaf_73 : decode cX4_leaf 73 = .ok (.aload_n 0, 1) := by decide +kernel
theorem dX4_leaf_74 : decode cX4_leaf 74 = .ok (.iload_n 1, 1) := by decide +kernel
theorem dX4_leaf_75 : decode cX4_leaf 75 = .ok (.invokevirtual 123, 3) := by decide +kernel
theorem dX4_leaf_78 : decode cX4_leaf 78 = .ok (.invokevirtual 169, 3) := by decide +kernel
theorem dX4_leaf_81 : decode cX4_leaf 81 = .ok (.iaload, 1) := by decide +kernel
theorem dX4_leaf_82 : decode cX4_leaf 82 = .ok (.goto 4, 3) := by decide +kernel
theorem dX4_leaf_85 : decode cX4_leaf 85 = .ok (.iconst 0, 1) := by decide +kernel
theorem dX4_leaf_86 : decode cX4_leaf 86 = .ok (.ireturn, 1) := by decide +kernel
theorem dX4_reckonTimes_0 : decode cX4_reckonTimes 0 = .ok (.iconst 1, 1) := by decide +kernel
theorem dX4_reckonTimes_1 : decode cX4_reckonTimes 1 = .ok (.istore_n 1, 1) := by decide +kernel
theorem dX4_reckonTimes_2 : decode cX4_reckonTimes 2 = .ok (.iload_n 1, 1) := by decide +kernel
theorem dX4_reckonTimes_3 : decode cX4_reckonTimes 3 = .ok (.bipush 25, 2) := by decide +kernel
theorem dX4_reckonTimes_5 : decode cX4_reckonTimes 5 = .ok (.if_icmp .ge 16, 3) := by decide +kernel
theorem dX4_reckonTimes_8 : decode cX4_reckonTimes 8 = .ok (.aload_n 0, 1) := by decide +kernel
theorem dX4_reckonTimes_9 : decode cX4_reckonTimes 9 = .ok (.getfield 63, 3) := by decide +kernel
theorem dX4_reckonTimes_12 : decode cX4_reckonTimes 12 = .ok (.iload_n 1, 1) := by decide +kernel
theorem dX4_reckonTimes_13 : decode cX4_reckonTimes 13 = .ok (.iconst (-1), 1) := by decide +kernel
theorem dX4_reckonTimes_14 : decode cX4_reckonTimes 14 = .ok (.iastore, 1) := by decide +kernel
theorem dX4_reckonTimes_15 : decode cX4_reckonTimes 15 = .ok (.iinc 1 1, 3) := by decide +kernel
theorem dX4_reckonTimes_18 : decode cX4_reckonTimes 18 = .ok (.goto (-16), 3) := by decide +kernel
theorem dX4_reckonTimes_21 : decode cX4_reckonTimes 21 = .ok (.iconst 1, 1) := by decide +kernel
theorem dX4_reckonTimes_22 : decode cX4_reckonTimes 22 = .ok (.istore_n 1, 1) := by decide +kernel
theorem dX4_reckonTimes_23 : decode cX4_reckonTimes 23 = .ok (.iload_n 1, 1) := by decide +kernel
theorem dX4_reckonTimes_24 : decode cX4_reckonTimes 24 = .ok (.ifCond .eq 140, 3) := by decide +kernel
theorem dX4_reckonTimes_27 : decode cX4_reckonTimes 27 = .ok (.iconst 0, 1) := by decide +kernel
theorem dX4_reckonTimes_28 : decode cX4_reckonTimes 28 = .ok (.istore_n 1, 1) := by decide +kernel
theorem dX4_reckonTimes_29 : decode cX4_reckonTimes 29 = .ok (.iconst 1, 1) := by decide +kernel
theorem dX4_reckonTimes_30 : decode cX4_reckonTimes 30 = .ok (.istore_n 2, 1) := by decide +kernel
theorem dX4_reckonTimes_31 : decode cX4_reckonTimes 31 = .ok (.iload_n 2, 1) := by decide +kernel
theorem dX4_reckonTimes_32 : decode cX4_reckonTimes 32 = .ok (.bipush 25, 2) := by decide +kernel
theorem dX4_reckonTimes_34 : decode cX4_reckonTimes 34 = .ok (.if_icmp .ge 127, 3) := by decide +kernel
theorem dX4_reckonTimes_37 : decode cX4_reckonTimes 37 = .ok (.aload_n 0, 1) := by decide +kernel
theorem dX4_reckonTimes_38 : decode cX4_reckonTimes 38 = .ok (.getfield 28, 3) := by decide +kernel
theorem dX4_reckonTimes_41 : decode cX4_reckonTimes 41 = .ok (.iload_n 2, 1) := by decide +kernel
theorem dX4_reckonTimes_42 : decode cX4_reckonTimes 42 = .ok (.baload, 1) := by decide +kernel
theorem dX4_reckonTimes_43 : decode cX4_reckonTimes 43 = .ok (.ifCond .eq 112, 3) := by decide +kernel
theorem dX4_reckonTimes_46 : decode cX4_reckonTimes 46 = .ok (.aload_n 0, 1) := by decide +kernel
theorem dX4_reckonTimes_47 : decode cX4_reckonTimes 47 = .ok (.getfield 63, 3) := by decide +kernel
theorem dX4_reckonTimes_50 : decode cX4_reckonTimes 50 = .ok (.iload_n 2, 1) := by decide +kernel
theorem dX4_reckonTimes_51 : decode cX4_reckonTimes 51 = .ok (.iaload, 1) := by decide +kernel
theorem dX4_reckonTimes_52 : decode cX4_reckonTimes 52 = .ok (.ifCond .lt 6, 3) := by decide +kernel
theorem dX4_reckonTimes_55 : decode cX4_reckonTimes 55 = .ok (.goto 100, 3) := by decide +kernel
theorem dX4_reckonTimes_58 : decode cX4_reckonTimes 58 = .ok (.aload_n 0, 1) := by decide +kernel
theorem dX4_reckonTimes_59 : decode cX4_reckonTimes 59 = .ok (.getfield 22, 3) := by decide +kernel
theorem dX4_reckonTimes_62 : decode cX4_reckonTimes 62 = .ok (.iload_n 2, 1) := by decide +kernel
theorem dX4_reckonTimes_63 : decode cX4_reckonTimes 63 = .ok (.iaload, 1) := by decide +kernel
theorem dX4_reckonTimes_64 : decode cX4_reckonTimes 64 = .ok (.istore_n 3, 1) := by decide +kernel
theorem dX4_reckonTimes_65 : decode cX4_reckonTimes 65 = .ok (.aload_n 0, 1) := by decide +kernel
theorem dX4_reckonTimes_66 : decode cX4_reckonTimes 66 = .ok (.getfield 25, 3) := by decide +kernel
theorem dX4_reckonTimes_69 : decode cX4_reckonTimes 69 = .ok (.iload_n 2, 1) := by decide +kernel
theorem dX4_reckonTimes_70 : decode cX4_reckonTimes 70 = .ok (.iaload, 1) := by decide +kernel
theorem dX4_reckonTimes_71 : decode cX4_reckonTimes 71 = .ok (.istore 4, 2) := by decide +kernel
theorem dX4_reckonTimes_73 : decode cX4_reckonTimes 73 = .ok (.iload_n 3, 1) := by decide +kernel
theorem dX4_reckonTimes_74 : decode cX4_reckonTimes 74 = .ok (.ifCond .le 25, 3) := by decide +kernel
theorem dX4_reckonTimes_77 : decode cX4_reckonTimes 77 = .ok (.aload_n 0, 1) := by decide +kernel
theorem dX4_reckonTimes_78 : decode cX4_reckonTimes 78 = .ok (.getfield 63, 3) := by decide +kernel
theorem dX4_reckonTimes_81 : decode cX4_reckonTimes 81 = .ok (.iload_n 3, 1) := by decide +kernel
theorem dX4_reckonTimes_82 : decode cX4_reckonTimes 82 = .ok (.iaload, 1) := by decide +kernel
theorem dX4_reckonTimes_83 : decode cX4_reckonTimes 83 = .ok (.ifCond .lt 72, 3) := by decide +kernel
theorem dX4_reckonTimes_86 : decode cX4_reckonTimes 86 = .ok (.aload_n 0, 1) := by decide +kernel
theorem dX4_reckonTimes_87 : decode cX4_reckonTimes 87 = .ok (.getfield 63, 3) := by decide +kernel
theorem dX4_reckonTimes_90 : decode cX4_reckonTimes 90 = .ok (.iload 4, 2) := by decide +kernel
theorem dX4_reckonTimes_92 : decode cX4_reckonTimes 92 = .ok (.iaload, 1) := by decide +kernel
theorem dX4_reckonTimes_93 : decode cX4_reckonTimes 93 = .ok (.ifCond .ge 6, 3) := by decide +kernel
theorem dX4_reckonTimes_96 : decode cX4_reckonTimes 96 = .ok (.goto 59, 3) := by decide +kernel
theorem dX4_reckonTimes_99 : decode cX4_reckonTimes 99 = .ok (.iload_n 3, 1) := by decide +kernel
theorem dX4_reckonTimes_100 : decode cX4_reckonTimes 100 = .ok (.ifCond .le 20, 3) := by decide +kernel
theorem dX4_reckonTimes_103 : decode cX4_reckonTimes 103 = .ok (.aload_n 0, 1) := by decide +kernel
theorem dX4_reckonTimes_104 : decode cX4_reckonTimes 104 = .ok (.getfield 63, 3) := by decide +kernel
theorem dX4_reckonTimes_107 : decode cX4_reckonTimes 107 = .ok (.iload_n 3, 1) := by decide +kernel
theorem dX4_reckonTimes_108 : decode cX4_reckonTimes 108 = .ok (.iaload, 1) := by decide +kernel
theorem dX4_reckonTimes_109 : decode cX4_reckonTimes 109 = .ok (.aload_n 0, 1) := by decide +kernel
theorem dX4_reckonTimes_110 : decode cX4_reckonTimes 110 = .ok (.getfield 63, 3) := by decide +kernel
theorem dX4_reckonTimes_113 : decode cX4_reckonTimes 113 = .ok (.iload 4, 2) := by decide +kernel
theorem dX4_reckonTimes_115 : decode cX4_reckonTimes 115 = .ok (.iaload, 1) := by decide +kernel
theorem dX4_reckonTimes_116 : decode cX4_reckonTimes 116 = .ok (.iadd, 1) := by decide +kernel
theorem dX4_reckonTimes_117 : decode cX4_reckonTimes 117 = .ok (.goto 4, 3) := by decide +kernel
theorem dX4_reckonTimes_120 : decode cX4_reckonTimes 120 = .ok (.iconst 0, 1) := by decide +kernel
theorem dX4_reckonTimes_121 : decode cX4_reckonTimes 121 = .ok (.istore 5, 2) := by decide +kernel
theorem dX4_reckonTimes_123 : decode cX4_reckonTimes 123 = .ok (.aload_n 0, 1) := by decide +kernel
theorem dX4_reckonTimes_124 : decode cX4_reckonTimes 124 = .ok (.getfield 63, 3) := by decide +kernel
theorem dX4_reckonTimes_127 : decode cX4_reckonTimes 127 = .ok (.iload_n 2, 1) := by decide +kernel
theorem dX4_reckonTimes_128 : decode cX4_reckonTimes 128 = .ok (.iload 5, 2) := by decide +kernel
theorem dX4_reckonTimes_130 : decode cX4_reckonTimes 130 = .ok (.ifCond .ne 20, 3) := by decide +kernel
theorem dX4_reckonTimes_133 : decode cX4_reckonTimes 133 = .ok (.aload_n 0, 1) := by decide +kernel
theorem dX4_reckonTimes_134 : decode cX4_reckonTimes 134 = .ok (.getfield 19, 3) := by decide +kernel
theorem dX4_reckonTimes_137 : decode cX4_reckonTimes 137 = .ok (.iload_n 2, 1) := by decide +kernel
theorem dX4_reckonTimes_138 : decode cX4_reckonTimes 138 = .ok (.iaload, 1) := by decide +kernel
theorem dX4_reckonTimes_139 : decode cX4_reckonTimes 139 = .ok (.aload_n 0, 1) := by decide +kernel
theorem dX4_reckonTimes_140 : decode cX4_reckonTimes 140 = .ok (.getfield 177, 3) := by decide +kernel
theorem dX4_reckonTimes_143 : decode cX4_reckonTimes 143 = .ok (.if_icmp .lt 7, 3) := by decide +kernel
theorem dX4_reckonTimes_146 : decode cX4_reckonTimes 146 = .ok (.iconst 1, 1) := by decide +kernel
theorem dX4_reckonTimes_147 : decode cX4_reckonTimes 147 = .ok (.goto 5, 3) := by decide +kernel
theorem dX4_reckonTimes_150 : decode cX4_reckonTimes 150 = .ok (.iload 5, 2) := by decide +kernel
theorem dX4_reckonTimes_152 : decode cX4_reckonTimes 152 = .ok (.iastore, 1) := by decide +kernel
theorem dX4_reckonTimes_153 : decode cX4_reckonTimes 153 = .ok (.iconst 1, 1) := by decide +kernel
theorem dX4_reckonTimes_154 : decode cX4_reckonTimes 154 = .ok (.istore_n 1, 1) := by decide +kernel
theorem dX4_reckonTimes_155 : decode cX4_reckonTimes 155 = .ok (.iinc 2 1, 3) := by decide +kernel
theorem dX4_reckonTimes_158 : decode cX4_reckonTimes 158 = .ok (.goto (-127), 3) := by decide +kernel
theorem dX4_reckonTimes_161 : decode cX4_reckonTimes 161 = .ok (.goto (-138), 3) := by decide +kernel
theorem dX4_reckonTimes_164 : decode cX4_reckonTimes 164 = .ok (.return_, 1) := by decide +kernel
set_option maxRecDepth 20000 in
theorem ggX4_tellWaiting_X4_classAt : GoodIn wsX4_tellWaiting wsX4_classAt := goodIn_r _ [14, 15, 16, 17, 18, 19, 20, 21, 22, 23, 24, 25, 26, 27, 28, 29, 30, 31, 32, 33, 34, 35, 36, 37, 38, 39, 40, 41, 42, 43, 44, 45, 46] (by decide +kernel) (by decide +kernel)
set_option maxRecDepth 20000 in
theorem gX4_tellWaiting_X4_classAt : GoodIn wsX4_tellWaiting (wsV RX4 126 RX4 yX4_classAt wsX4_classAt) := goodIn_app (goodIn_of _ (by decide +kernel)) ggX4_tellWaiting_X4_classAt
theorem dX4_tellWaiting_0 : decode cX4_tellWaiting 0 = .ok (.iconst 0, 1) := by decide +kernel
theorem dX4_tellWaiting_1 : decode cX4_tellWaiting 1 = .ok (.istore_n 1, 1) := by decide +kernel
theorem dX4_tellWaiting_2 : decode cX4_tellWaiting 2 = .ok (.iload_n 1, 1) := by decide +kernel
theorem dX4_tellWaiting_3 : decode cX4_tellWaiting 3 = .ok (.aload_n 0, 1) := by decide +kernel
theorem dX4_tellWaiting_4 : decode cX4_tellWaiting 4 = .ok (.getfield 180, 3) := by decide +kernel
theorem dX4_tellWaiting_7 : decode cX4_tellWaiting 7 = .ok (.if_icmp .ge 82, 3) := by decide +kernel
theorem dX4_tellWaiting_10 : decode cX4_tellWaiting 10 = .ok (.aload_n 0, 1) := by decide +kernel
theorem dX4_tellWaiting_11 : decode cX4_tellWaiting 11 = .ok (.aload_n 0, 1) := by decide +kernel
theorem dX4_tellWaiting_12 : decode cX4_tellWaiting 12 = .ok (.getfield 57, 3) := by decide +kernel
theorem dX4_tellWaiting_15 : decode cX4_tellWaiting 15 = .ok (.iload_n 1, 1) := by decide +kernel
theorem dX4_tellWaiting_16 : decode cX4_tellWaiting 16 = .ok (.iaload, 1) := by decide +kernel
theorem dX4_tellWaiting_17 : decode cX4_tellWaiting 17 = .ok (.aload_n 0, 1) := by decide +kernel
theorem dX4_tellWaiting_18 : decode cX4_tellWaiting 18 = .ok (.getfield 60, 3) := by decide +kernel
theorem dX4_tellWaiting_21 : decode cX4_tellWaiting 21 = .ok (.iload_n 1, 1) := by decide +kernel
theorem dX4_tellWaiting_22 : decode cX4_tellWaiting 22 = .ok (.iaload, 1) := by decide +kernel
theorem dX4_tellWaiting_23 : decode cX4_tellWaiting 23 = .ok (.invokevirtual 126, 3) := by decide +kernel
theorem dX4_tellWaiting_26 : decode cX4_tellWaiting 26 = .ok (.istore_n 2, 1) := by decide +kernel
theorem dX4_tellWaiting_27 : decode cX4_tellWaiting 27 = .ok (.aload_n 0, 1) := by decide +kernel
theorem dX4_tellWaiting_28 : decode cX4_tellWaiting 28 = .ok (.dup, 1) := by decide +kernel
theorem dX4_tellWaiting_29 : decode cX4_tellWaiting 29 = .ok (.getfield 183, 3) := by decide +kernel
theorem dX4_tellWaiting_32 : decode cX4_tellWaiting 32 = .ok (.iconst 1, 1) := by decide +kernel
theorem dX4_tellWaiting_33 : decode cX4_tellWaiting 33 = .ok (.iadd, 1) := by decide +kernel
theorem dX4_tellWaiting_34 : decode cX4_tellWaiting 34 = .ok (.putfield 183, 3) := by decide +kernel
theorem dX4_tellWaiting_37 : decode cX4_tellWaiting 37 = .ok (.aload_n 0, 1) := by decide +kernel
theorem dX4_tellWaiting_38 : decode cX4_tellWaiting 38 = .ok (.getfield 19, 3) := by decide +kernel
theorem dX4_tellWaiting_41 : decode cX4_tellWaiting 41 = .ok (.iload_n 2, 1) := by decide +kernel
theorem dX4_tellWaiting_42 : decode cX4_tellWaiting 42 = .ok (.iaload, 1) := by decide +kernel
theorem dX4_tellWaiting_43 : decode cX4_tellWaiting 43 = .ok (.aload_n 0, 1) := by decide +kernel
theorem dX4_tellWaiting_44 : decode cX4_tellWaiting 44 = .ok (.getfield 186, 3) := by decide +kernel
theorem dX4_tellWaiting_47 : decode cX4_tellWaiting 47 = .ok (.if_icmp .le 13, 3) := by decide +kernel
theorem dX4_tellWaiting_50 : decode cX4_tellWaiting 50 = .ok (.aload_n 0, 1) := by decide +kernel
theorem dX4_tellWaiting_51 : decode cX4_tellWaiting 51 = .ok (.aload_n 0, 1) := by decide +kernel
theorem dX4_tellWaiting_52 : decode cX4_tellWaiting 52 = .ok (.getfield 19, 3) := by decide +kernel
theorem dX4_tellWaiting_55 : decode cX4_tellWaiting 55 = .ok (.iload_n 2, 1) := by decide +kernel
theorem dX4_tellWaiting_56 : decode cX4_tellWaiting 56 = .ok (.iaload, 1) := by decide +kernel
theorem dX4_tellWaiting_57 : decode cX4_tellWaiting 57 = .ok (.putfield 186, 3) := by decide +kernel
theorem dX4_tellWaiting_60 : decode cX4_tellWaiting 60 = .ok (.aload_n 0, 1) := by decide +kernel
theorem dX4_tellWaiting_61 : decode cX4_tellWaiting 61 = .ok (.getfield 177, 3) := by decide +kernel
theorem dX4_tellWaiting_64 : decode cX4_tellWaiting 64 = .ok (.ifCond .le 19, 3) := by decide +kernel
theorem dX4_tellWaiting_67 : decode cX4_tellWaiting 67 = .ok (.aload_n 0, 1) := by decide +kernel
theorem dX4_tellWaiting_68 : decode cX4_tellWaiting 68 = .ok (.dup, 1) := by decide +kernel
theorem dX4_tellWaiting_69 : decode cX4_tellWaiting 69 = .ok (.getfield 189, 3) := by decide +kernel
theorem dX4_tellWaiting_72 : decode cX4_tellWaiting 72 = .ok (.aload_n 0, 1) := by decide +kernel
theorem dX4_tellWaiting_73 : decode cX4_tellWaiting 73 = .ok (.getfield 63, 3) := by decide +kernel
theorem dX4_tellWaiting_76 : decode cX4_tellWaiting 76 = .ok (.iload_n 2, 1) := by decide +kernel
theorem dX4_tellWaiting_77 : decode cX4_tellWaiting 77 = .ok (.iaload, 1) := by decide +kernel
theorem dX4_tellWaiting_78 : decode cX4_tellWaiting 78 = .ok (.i2l, 1) := by decide +kernel
theorem dX4_tellWaiting_79 : decode cX4_tellWaiting 79 = .ok (.ladd, 1) := by decide +kernel
theorem dX4_tellWaiting_80 : decode cX4_tellWaiting 80 = .ok (.putfield 189, 3) := by decide +kernel
theorem dX4_tellWaiting_83 : decode cX4_tellWaiting 83 = .ok (.iinc 1 1, 3) := by decide +kernel
theorem dX4_tellWaiting_86 : decode cX4_tellWaiting 86 = .ok (.goto (-84), 3) := by decide +kernel
theorem dX4_tellWaiting_89 : decode cX4_tellWaiting 89 = .ok (.aload_n 0, 1) := by decide +kernel
theorem dX4_tellWaiting_90 : decode cX4_tellWaiting 90 = .ok (.iconst 0, 1) := by decide +kernel
theorem dX4_tellWaiting_91 : decode cX4_tellWaiting 91 = .ok (.putfield 180, 3) := by decide +kernel
theorem dX4_tellWaiting_94 : decode cX4_tellWaiting 94 = .ok (.return_, 1) := by decide +kernel
set_option maxRecDepth 20000 in
theorem ggX4_goAlong_X4_reckonTimes : GoodIn wsX4_goAlong wsX4_reckonTimes := goodIn_r _ [15, 8, 16, 17, 18, 7, 1, 47, 48, 49, 50, 51, 52, 53, 54, 55, 56, 57, 58, 59, 60, 61, 62, 63, 64, 65, 66, 67, 68, 69, 70, 71, 72, 73, 74, 75] (by decide +kernel) (by decide +kernel)
set_option maxRecDepth 20000 in
theorem gX4_goAlong_X4_reckonTimes : GoodIn wsX4_goAlong (wsV RX4 193 RX4 yX4_reckonTimes wsX4_reckonTimes) := goodIn_app (goodIn_of _ (by decide +kernel)) ggX4_goAlong_X4_reckonTimes
set_option maxRecDepth 20000 in
theorem ggX4_goAlong_X4_isLive : GoodIn wsX4_goAlong wsX4_isLive := goodIn_r _ [22, 23, 47, 48, 49, 50, 51, 52, 53, 54, 55, 56, 57, 58, 59, 60, 61, 62, 63, 64, 65, 66, 67, 68, 69, 70, 71, 72, 73, 74, 75] (by decide +kernel) (by decide +kernel)
set_option maxRecDepth 20000 in
theorem gX4_goAlong_X4_isLive : GoodIn wsX4_goAlong (wsV RX4 132 RX4 yX4_isLive wsX4_isLive) := goodIn_app (goodIn_of _ (by decide +kernel)) ggX4_goAlong_X4_isLive
set_option maxRecDepth 20000 in
theorem ggX4_goAlong_X4_classOf : GoodIn wsX4_goAlong wsX4_classOf := goodIn_r _ [27, 23, 28, 47, 48, 49, 50, 51, 52, 53, 54, 55, 56, 57, 58, 59, 60, 61, 62, 63, 64, 65, 66, 67, 68, 69, 70, 71, 72, 73, 74, 75] (by decide +kernel) (by decide +kernel)
set_option maxRecDepth 20000 in
theorem gX4_goAlong_X4_classOf : GoodIn wsX4_goAlong (wsV RX4 139 RX4 yX4_classOf wsX4_classOf) := goodIn_app (goodIn_of _ (by decide +kernel)) ggX4_goAlong_X4_classOf
set_option maxRecDepth 20000 in
theorem ggX4_goAlong_X4_tellWaiting : GoodIn wsX4_goAlong wsX4_tellWaiting := goodIn_r _ [32, 2, 9, 10, 3, 7, 4, 1, 5, 8, 33, 34, 35, 14, 36, 37, 17, 18, 47, 48, 49, 50, 51, 52, 53, 54, 55, 56, 57, 58, 59, 60, 61, 62, 63, 64, 65, 66, 67, 68, 69, 70, 71, 72, 73, 74, 75] (by decide +kernel) (by decide +kernel)
set_option maxRecDepth 20000 in
theorem gX4_goAlong_X4_tellWaiting : GoodIn wsX4_goAlong (wsV RX4 196 RX4 yX4_tellWaiting wsX4_tellWaiting) := goodIn_app (goodIn_of _ (by decide +kernel)) ggX4_goAlong_X4_tellWaiting
set_option maxRecDepth 20000 in
theorem ggX4_goAlong_X4_depth : GoodIn wsX4_goAlong wsX4_depth := goodIn_r _ [41, 23, 28, 47, 48, 49, 50, 51, 52, 53, 54, 55, 56, 57, 58, 59, 60, 61, 62, 63, 64, 65, 66, 67, 68, 69, 70, 71, 72, 73, 74, 75] (by decide +kernel) (by decide +kernel)
set_option maxRecDepth 20000 in
theorem gX4_goAlong_X4_depth : GoodIn wsX4_goAlong (wsV RX4 116 RX4 yX4_depth wsX4_depth) := goodIn_app (goodIn_of _ (by decide +kernel)) ggX4_goAlong_X4_depth
set_option maxRecDepth 20000 in
theorem ggX4_goAlong_X4_sides : GoodIn wsX4_goAlong wsX4_sides := goodIn_r _ [45, 23, 46, 47, 48, 49, 50, 51, 52, 53, 54, 55, 56, 57, 58, 59, 60, 61, 62, 63, 64, 65, 66, 67, 68, 69, 70, 71, 72, 73, 74, 75] (by decide +kernel) (by decide +kernel)
set_option maxRecDepth 20000 in
theorem gX4_goAlong_X4_sides : GoodIn wsX4_goAlong (wsV RX4 120 RX4 yX4_sides wsX4_sides) := goodIn_app (goodIn_of _ (by decide +kernel)) ggX4_goAlong_X4_sides
theorem dX4_goAlong_0 : decode cX4_goAlong 0 = .ok (.aload_n 0, 1) := by decide +kernel
theorem dX4_goAlong_1 : decode cX4_goAlong 1 = .ok (.iload_n 1, 1) := by decide +kernel
theorem dX4_goAlong_2 : decode cX4_goAlong 2 = .ok (.putfield 177, 3) := by decide +kernel
theorem dX4_goAlong_5 : decode cX4_goAlong 5 = .ok (.aload_n 0, 1) := by decide +kernel
theorem dX4_goAlong_6 : decode cX4_goAlong 6 = .ok (.invokevirtual 193, 3) := by decide +kernel
theorem dX4_goAlong_9 : decode cX4_goAlong 9 = .ok (.aload_n 0, 1) := by decide +kernel
theorem dX4_goAlong_10 : decode cX4_goAlong 10 = .ok (.iconst 0, 1) := by decide +kernel
theorem dX4_goAlong_11 : decode cX4_goAlong 11 = .ok (.putfield 180, 3) := by decide +kernel
theorem dX4_goAlong_14 : decode cX4_goAlong 14 = .ok (.aload_n 0, 1) := by decide +kernel
theorem dX4_goAlong_15 : decode cX4_goAlong 15 = .ok (.iconst 0, 1) := by decide +kernel
theorem dX4_goAlong_16 : decode cX4_goAlong 16 = .ok (.putfield 183, 3) := by decide +kernel
theorem dX4_goAlong_19 : decode cX4_goAlong 19 = .ok (.aload_n 0, 1) := by decide +kernel
theorem dX4_goAlong_20 : decode cX4_goAlong 20 = .ok (.iconst 0, 1) := by decide +kernel
theorem dX4_goAlong_21 : decode cX4_goAlong 21 = .ok (.putfield 186, 3) := by decide +kernel
theorem dX4_goAlong_24 : decode cX4_goAlong 24 = .ok (.aload_n 0, 1) := by decide +kernel
theorem dX4_goAlong_25 : decode cX4_goAlong 25 = .ok (.lconst 0, 1) := by decide +kernel
theorem dX4_goAlong_26 : decode cX4_goAlong 26 = .ok (.putfield 189, 3) := by decide +kernel
theorem dX4_goAlong_29 : decode cX4_goAlong 29 = .ok (.iconst 0, 1) := by decide +kernel
theorem dX4_goAlong_30 : decode cX4_goAlong 30 = .ok (.istore_n 2, 1) := by decide +kernel
theorem dX4_goAlong_31 : decode cX4_goAlong 31 = .ok (.iload_n 2, 1) := by decide +kernel
theorem dX4_goAlong_32 : decode cX4_goAlong 32 = .ok (.aload_n 0, 1) := by decide +kernel
theorem dX4_goAlong_33 : decode cX4_goAlong 33 = .ok (.getfield 96, 3) := by decide +kernel
theorem dX4_goAlong_36 : decode cX4_goAlong 36 = .ok (.if_icmp .ge 230, 3) := by decide +kernel
theorem dX4_goAlong_39 : decode cX4_goAlong 39 = .ok (.aload_n 0, 1) := by decide +kernel
theorem dX4_goAlong_40 : decode cX4_goAlong 40 = .ok (.iload_n 2, 1) := by decide +kernel
theorem dX4_goAlong_41 : decode cX4_goAlong 41 = .ok (.invokevirtual 132, 3) := by decide +kernel
theorem dX4_goAlong_44 : decode cX4_goAlong 44 = .ok (.ifCond .ne 21, 3) := by decide +kernel
theorem dX4_goAlong_47 : decode cX4_goAlong 47 = .ok (.iload_n 1, 1) := by decide +kernel
theorem dX4_goAlong_48 : decode cX4_goAlong 48 = .ok (.ifCond .le 21, 3) := by decide +kernel
theorem dX4_goAlong_51 : decode cX4_goAlong 51 = .ok (.aload_n 0, 1) := by decide +kernel
theorem dX4_goAlong_52 : decode cX4_goAlong 52 = .ok (.getfield 19, 3) := by decide +kernel
theorem dX4_goAlong_55 : decode cX4_goAlong 55 = .ok (.aload_n 0, 1) := by decide +kernel
theorem dX4_goAlong_56 : decode cX4_goAlong 56 = .ok (.iload_n 2, 1) := by decide +kernel
theorem dX4_goAlong_57 : decode cX4_goAlong 57 = .ok (.invokevirtual 139, 3) := by decide +kernel
theorem dX4_goAlong_60 : decode cX4_goAlong 60 = .ok (.iaload, 1) := by decide +kernel
theorem dX4_goAlong_61 : decode cX4_goAlong 61 = .ok (.iload_n 1, 1) := by decide +kernel
theorem dX4_goAlong_62 : decode cX4_goAlong 62 = .ok (.if_icmp .lt 7, 3) := by decide +kernel
theorem dX4_goAlong_65 : decode cX4_goAlong 65 = .ok (.iconst 1, 1) := by decide +kernel
theorem dX4_goAlong_66 : decode cX4_goAlong 66 = .ok (.goto 4, 3) := by decide +kernel
theorem dX4_goAlong_69 : decode cX4_goAlong 69 = .ok (.iconst 0, 1) := by decide +kernel
theorem dX4_goAlong_70 : decode cX4_goAlong 70 = .ok (.istore_n 3, 1) := by decide +kernel
theorem dX4_goAlong_71 : decode cX4_goAlong 71 = .ok (.iload_n 3, 1) := by decide +kernel
theorem dX4_goAlong_72 : decode cX4_goAlong 72 = .ok (.ifCond .eq 38, 3) := by decide +kernel
theorem dX4_goAlong_75 : decode cX4_goAlong 75 = .ok (.aload_n 0, 1) := by decide +kernel
theorem dX4_goAlong_76 : decode cX4_goAlong 76 = .ok (.invokevirtual 196, 3) := by decide +kernel
theorem dX4_goAlong_79 : decode cX4_goAlong 79 = .ok (.aload_n 0, 1) := by decide +kernel
theorem dX4_goAlong_80 : decode cX4_goAlong 80 = .ok (.iload_n 2, 1) := by decide +kernel
theorem dX4_goAlong_81 : decode cX4_goAlong 81 = .ok (.invokevirtual 132, 3) := by decide +kernel
theorem dX4_goAlong_84 : decode cX4_goAlong 84 = .ok (.ifCond .ne 176, 3) := by decide +kernel
theorem dX4_goAlong_87 : decode cX4_goAlong 87 = .ok (.aload_n 0, 1) := by decide +kernel
theorem dX4_goAlong_88 : decode cX4_goAlong 88 = .ok (.dup, 1) := by decide +kernel
theorem dX4_goAlong_89 : decode cX4_goAlong 89 = .ok (.getfield 189, 3) := by decide +kernel
theorem dX4_goAlong_92 : decode cX4_goAlong 92 = .ok (.aload_n 0, 1) := by decide +kernel
theorem dX4_goAlong_93 : decode cX4_goAlong 93 = .ok (.getfield 63, 3) := by decide +kernel
theorem dX4_goAlong_96 : decode cX4_goAlong 96 = .ok (.aload_n 0, 1) := by decide +kernel
theorem dX4_goAlong_97 : decode cX4_goAlong 97 = .ok (.iload_n 2, 1) := by decide +kernel
theorem dX4_goAlong_98 : decode cX4_goAlong 98 = .ok (.invokevirtual 139, 3) := by decide +kernel
theorem dX4_goAlong_101 : decode cX4_goAlong 101 = .ok (.iaload, 1) := by decide +kernel
theorem dX4_goAlong_102 : decode cX4_goAlong 102 = .ok (.i2l, 1) := by decide +kernel
theorem dX4_goAlong_103 : decode cX4_goAlong 103 = .ok (.ladd, 1) := by decide +kernel
theorem dX4_goAlong_104 : decode cX4_goAlong 104 = .ok (.putfield 189, 3) := by decide +kernel
theorem dX4_goAlong_107 : decode cX4_goAlong 107 = .ok (.goto 153, 3) := by decide +kernel
theorem dX4_goAlong_110 : decode cX4_goAlong 110 = .ok (.aload_n 0, 1) := by decide +kernel
theorem dX4_goAlong_111 : decode cX4_goAlong 111 = .ok (.iload_n 2, 1) := by decide +kernel
theorem dX4_goAlong_112 : decode cX4_goAlong 112 = .ok (.invokevirtual 116, 3) := by decide +kernel
theorem dX4_goAlong_115 : decode cX4_goAlong 115 = .ok (.istore 4, 2) := by decide +kernel
theorem dX4_goAlong_117 : decode cX4_goAlong 117 = .ok (.aload_n 0, 1) := by decide +kernel
theorem dX4_goAlong_118 : decode cX4_goAlong 118 = .ok (.iload_n 2, 1) := by decide +kernel
theorem dX4_goAlong_119 : decode cX4_goAlong 119 = .ok (.invokevirtual 120, 3) := by decide +kernel
theorem dX4_goAlong_122 : decode cX4_goAlong 122 = .ok (.istore 5, 2) := by decide +kernel
theorem dX4_goAlong_124 : decode cX4_goAlong 124 = .ok (.iload 5, 2) := by decide +kernel
theorem dX4_goAlong_126 : decode cX4_goAlong 126 = .ok (.iconst 2, 1) := by decide +kernel
theorem dX4_goAlong_127 : decode cX4_goAlong 127 = .ok (.irem, 1) := by decide +kernel
theorem dX4_goAlong_128 : decode cX4_goAlong 128 = .ok (.iconst 1, 1) := by decide +kernel
theorem dX4_goAlong_129 : decode cX4_goAlong 129 = .ok (.if_icmp .ne 66, 3) := by decide +kernel
theorem dX4_goAlong_132 : decode cX4_goAlong 132 = .ok (.aload_n 0, 1) := by decide +kernel
theorem dX4_goAlong_133 : decode cX4_goAlong 133 = .ok (.getfield 180, 3) := by decide +kernel
theorem dX4_goAlong_136 : decode cX4_goAlong 136 = .ok (.ifCond .le 59, 3) := by decide +kernel
theorem dX4_goAlong_139 : decode cX4_goAlong 139 = .ok (.aload_n 0, 1) := by decide +kernel
theorem dX4_goAlong_140 : decode cX4_goAlong 140 = .ok (.getfield 57, 3) := by decide +kernel
theorem dX4_goAlong_143 : decode cX4_goAlong 143 = .ok (.aload_n 0, 1) := by decide +kernel
theorem dX4_goAlong_144 : decode cX4_goAlong 144 = .ok (.getfield 180, 3) := by decide +kernel
theorem dX4_goAlong_147 : decode cX4_goAlong 147 = .ok (.iconst 1, 1) := by decide +kernel
theorem dX4_goAlong_148 : decode cX4_goAlong 148 = .ok (.isub, 1) := by decide +kernel
theorem dX4_goAlong_149 : decode cX4_goAlong 149 = .ok (.iaload, 1) := by decide +kernel
theorem dX4_goAlong_150 : decode cX4_goAlong 150 = .ok (.iload 4, 2) := by decide +kernel
theorem dX4_goAlong_152 : decode cX4_goAlong 152 = .ok (.if_icmp .ne 43, 3) := by decide +kernel
theorem dX4_goAlong_155 : decode cX4_goAlong 155 = .ok (.aload_n 0, 1) := by decide +kernel
theorem dX4_goAlong_156 : decode cX4_goAlong 156 = .ok (.getfield 60, 3) := by decide +kernel
theorem dX4_goAlong_159 : decode cX4_goAlong 159 = .ok (.aload_n 0, 1) := by decide +kernel
theorem dX4_goAlong_160 : decode cX4_goAlong 160 = .ok (.getfield 180, 3) := by decide +kernel
theorem dX4_goAlong_163 : decode cX4_goAlong 163 = .ok (.iconst 1, 1) := by decide +kernel
theorem dX4_goAlong_164 : decode cX4_goAlong 164 = .ok (.isub, 1) := by decide +kernel
theorem dX4_goAlong_165 : decode cX4_goAlong 165 = .ok (.iaload, 1) := by decide +kernel
theorem dX4_goAlong_166 : decode cX4_goAlong 166 = .ok (.iload 5, 2) := by decide +kernel
theorem dX4_goAlong_168 : decode cX4_goAlong 168 = .ok (.iconst 1, 1) := by decide +kernel
theorem dX4_goAlong_169 : decode cX4_goAlong 169 = .ok (.isub, 1) := by decide +kernel
theorem dX4_goAlong_170 : decode cX4_goAlong 170 = .ok (.if_icmp .ne 25, 3) := by decide +kernel
theorem dX4_goAlong_173 : decode cX4_goAlong 173 = .ok (.aload_n 0, 1) := by decide +kernel
theorem dX4_goAlong_174 : decode cX4_goAlong 174 = .ok (.dup, 1) := by decide +kernel
theorem dX4_goAlong_175 : decode cX4_goAlong 175 = .ok (.getfield 180, 3) := by decide +kernel
theorem dX4_goAlong_178 : decode cX4_goAlong 178 = .ok (.iconst 1, 1) := by decide +kernel
theorem dX4_goAlong_179 : decode cX4_goAlong 179 = .ok (.isub, 1) := by decide +kernel
theorem dX4_goAlong_180 : decode cX4_goAlong 180 = .ok (.putfield 180, 3) := by decide +kernel
theorem dX4_goAlong_183 : decode cX4_goAlong 183 = .ok (.iinc 4 (-1), 3) := by decide +kernel
theorem dX4_goAlong_186 : decode cX4_goAlong 186 = .ok (.iload 5, 2) := by decide +kernel
theorem dX4_goAlong_188 : decode cX4_goAlong 188 = .ok (.iconst 2, 1) := by decide +kernel
theorem dX4_goAlong_189 : decode cX4_goAlong 189 = .ok (.idiv, 1) := by decide +kernel
theorem dX4_goAlong_190 : decode cX4_goAlong 190 = .ok (.istore 5, 2) := by decide +kernel
theorem dX4_goAlong_192 : decode cX4_goAlong 192 = .ok (.goto (-68), 3) := by decide +kernel
theorem dX4_goAlong_195 : decode cX4_goAlong 195 = .ok (.iload 5, 2) := by decide +kernel
theorem dX4_goAlong_197 : decode cX4_goAlong 197 = .ok (.iconst 2, 1) := by decide +kernel
theorem dX4_goAlong_198 : decode cX4_goAlong 198 = .ok (.irem, 1) := by decide +kernel
theorem dX4_goAlong_199 : decode cX4_goAlong 199 = .ok (.iconst 1, 1) := by decide +kernel
theorem dX4_goAlong_200 : decode cX4_goAlong 200 = .ok (.if_icmp .ne 7, 3) := by decide +kernel
theorem dX4_goAlong_203 : decode cX4_goAlong 203 = .ok (.iconst 1, 1) := by decide +kernel
theorem dX4_goAlong_204 : decode cX4_goAlong 204 = .ok (.goto 4, 3) := by decide +kernel
theorem dX4_goAlong_207 : decode cX4_goAlong 207 = .ok (.iconst 0, 1) := by decide +kernel
theorem dX4_goAlong_208 : decode cX4_goAlong 208 = .ok (.istore 6, 2) := by decide +kernel
theorem dX4_goAlong_210 : decode cX4_goAlong 210 = .ok (.iload 6, 2) := by decide +kernel
theorem dX4_goAlong_212 : decode cX4_goAlong 212 = .ok (.ifCond .eq 7, 3) := by decide +kernel
theorem dX4_goAlong_215 : decode cX4_goAlong 215 = .ok (.aload_n 0, 1) := by decide +kernel
theorem dX4_goAlong_216 : decode cX4_goAlong 216 = .ok (.invokevirtual 196, 3) := by decide +kernel
theorem dX4_goAlong_219 : decode cX4_goAlong 219 = .ok (.aload_n 0, 1) := by decide +kernel
theorem dX4_goAlong_220 : decode cX4_goAlong 220 = .ok (.getfield 57, 3) := by decide +kernel
theorem dX4_goAlong_223 : decode cX4_goAlong 223 = .ok (.aload_n 0, 1) := by decide +kernel
theorem dX4_goAlong_224 : decode cX4_goAlong 224 = .ok (.getfield 180, 3) := by decide +kernel
theorem dX4_goAlong_227 : decode cX4_goAlong 227 = .ok (.iload 4, 2) := by decide +kernel
theorem dX4_goAlong_229 : decode cX4_goAlong 229 = .ok (.iastore, 1) := by decide +kernel
theorem dX4_goAlong_230 : decode cX4_goAlong 230 = .ok (.aload_n 0, 1) := by decide +kernel
theorem dX4_goAlong_231 : decode cX4_goAlong 231 = .ok (.getfield 60, 3) := by decide +kernel
theorem dX4_goAlong_234 : decode cX4_goAlong 234 = .ok (.aload_n 0, 1) := by decide +kernel
theorem dX4_goAlong_235 : decode cX4_goAlong 235 = .ok (.getfield 180, 3) := by decide +kernel
theorem dX4_goAlong_238 : decode cX4_goAlong 238 = .ok (.iload 5, 2) := by decide +kernel
theorem dX4_goAlong_240 : decode cX4_goAlong 240 = .ok (.iastore, 1) := by decide +kernel
theorem dX4_goAlong_241 : decode cX4_goAlong 241 = .ok (.aload_n 0, 1) := by decide +kernel
theorem dX4_goAlong_242 : decode cX4_goAlong 242 = .ok (.dup, 1) := by decide +kernel
theorem dX4_goAlong_243 : decode cX4_goAlong 243 = .ok (.getfield 180, 3) := by decide +kernel
theorem dX4_goAlong_246 : decode cX4_goAlong 246 = .ok (.iconst 1, 1) := by decide +kernel
theorem dX4_goAlong_247 : decode cX4_goAlong 247 = .ok (.iadd, 1) := by decide +kernel
theorem dX4_goAlong_248 : decode cX4_goAlong 248 = .ok (.putfield 180, 3) := by decide +kernel
theorem dX4_goAlong_251 : decode cX4_goAlong 251 = .ok (.iload 6, 2) := by decide +kernel
theorem dX4_goAlong_253 : decode cX4_goAlong 253 = .ok (.ifCond .eq 7, 3) := by decide +kernel
theorem dX4_goAlong_256 : decode cX4_goAlong 256 = .ok (.aload_n 0, 1) := by decide +kernel
theorem dX4_goAlong_257 : decode cX4_goAlong 257 = .ok (.invokevirtual 196, 3) := by decide +kernel
theorem dX4_goAlong_260 : decode cX4_goAlong 260 = .ok (.iinc 2 1, 3) := by decide +kernel
theorem dX4_goAlong_263 : decode cX4_goAlong 263 = .ok (.goto (-232), 3) := by decide +kernel
theorem dX4_goAlong_266 : decode cX4_goAlong 266 = .ok (.aload_n 0, 1) := by decide +kernel
theorem dX4_goAlong_267 : decode cX4_goAlong 267 = .ok (.invokevirtual 196, 3) := by decide +kernel
theorem dX4_goAlong_270 : decode cX4_goAlong 270 = .ok (.return_, 1) := by decide +kernel
set_option maxRecDepth 20000 in
theorem ggX4_count_X4_isThere : GoodIn wsX4_count wsX4_isThere := goodIn_r _ [14, 5, 15, 60, 61, 62, 63, 64, 65, 66, 67, 68, 69, 70, 71, 72, 73, 74, 75, 76, 77, 78, 79, 80, 81, 82, 83, 84, 85, 86, 87, 88] (by decide +kernel) (by decide +kernel)
set_option maxRecDepth 20000 in
theorem gX4_count_X4_isThere : GoodIn wsX4_count (wsV RX4 159 RX4 yX4_isThere wsX4_isThere) := goodIn_app (goodIn_of _ (by decide +kernel)) ggX4_count_X4_isThere
set_option maxRecDepth 20000 in
theorem ggX4_count_X4_isLive : GoodIn wsX4_count wsX4_isLive := goodIn_r _ [19, 20, 60, 61, 62, 63, 64, 65, 66, 67, 68, 69, 70, 71, 72, 73, 74, 75, 76, 77, 78, 79, 80, 81, 82, 83, 84, 85, 86, 87, 88] (by decide +kernel) (by decide +kernel)
set_option maxRecDepth 20000 in
theorem gX4_count_X4_isLive : GoodIn wsX4_count (wsV RX4 132 RX4 yX4_isLive wsX4_isLive) := goodIn_app (goodIn_of _ (by decide +kernel)) ggX4_count_X4_isLive
set_option maxRecDepth 20000 in
theorem ggX4_count_X4_classOf : GoodIn wsX4_count wsX4_classOf := goodIn_r _ [24, 20, 25, 60, 61, 62, 63, 64, 65, 66, 67, 68, 69, 70, 71, 72, 73, 74, 75, 76, 77, 78, 79, 80, 81, 82, 83, 84, 85, 86, 87, 88] (by decide +kernel) (by decide +kernel)
set_option maxRecDepth 20000 in
theorem gX4_count_X4_classOf : GoodIn wsX4_count (wsV RX4 139 RX4 yX4_classOf wsX4_classOf) := goodIn_app (goodIn_of _ (by decide +kernel)) ggX4_count_X4_classOf
set_option maxRecDepth 20000 in
theorem ggX4_count_X4_goAlong : GoodIn wsX4_count wsX4_goAlong := goodIn_r _ [29, 30, 31, 9, 6, 32, 1, 2, 33, 34, 35, 36, 37, 38, 13, 39, 40, 41, 42, 16, 17, 18, 19, 20, 21, 22, 23, 24, 25, 43, 44, 45, 46, 47, 48, 49, 50, 5, 51, 52, 53, 54, 55, 56, 57, 58, 59, 60, 61, 62, 63, 64, 65, 66, 67, 68, 69, 70, 71, 72, 73, 74, 75, 76, 77, 78, 79, 80, 81, 82, 83, 84, 85, 86, 87, 88] (by decide +kernel) (by decide +kernel)
set_option maxRecDepth 20000 in
theorem gX4_count_X4_goAlong : GoodIn wsX4_count (wsV RX4 199 RX4 yX4_goAlong wsX4_goAlong) := goodIn_app (goodIn_of _ (by decide +kernel)) ggX4_count_X4_goAlong
theorem dX4_count_0 : decode cX4_count 0 = .ok (.aload_n 0, 1) := by decide +kernel
theorem dX4_count_1 : decode cX4_count 1 = .ok (.invokevirtual 159, 3) := by decide +kernel
theorem dX4_count_4 : decode cX4_count 4 = .ok (.ifCond .ne 5, 3) := by decide +kernel
theorem dX4_count_7 : decode cX4_count 7 = .ok (.iconst 0, 1) := by decide +kernel
theorem dX4_count_8 : decode cX4_count 8 = .ok (.ireturn, 1) := by decide +kernel
theorem dX4_count_9 : decode cX4_count 9 = .ok (.iconst 0, 1) := by decide +kernel
theorem dX4_count_10 : decode cX4_count 10 = .ok (.istore_n 2, 1) := by decide +kernel
theorem dX4_count_11 : decode cX4_count 11 = .ok (.iconst 0, 1) := by decide +kernel
theorem dX4_count_12 : decode cX4_count 12 = .ok (.istore_n 3, 1) := by decide +kernel
theorem dX4_count_13 : decode cX4_count 13 = .ok (.iconst 0, 1) := by decide +kernel
theorem dX4_count_14 : decode cX4_count 14 = .ok (.istore 4, 2) := by decide +kernel
theorem dX4_count_16 : decode cX4_count 16 = .ok (.iload 4, 2) := by decide +kernel
theorem dX4_count_18 : decode cX4_count 18 = .ok (.aload_n 0, 1) := by decide +kernel
theorem dX4_count_19 : decode cX4_count 19 = .ok (.getfield 96, 3) := by decide +kernel
theorem dX4_count_22 : decode cX4_count 22 = .ok (.if_icmp .ge 32, 3) := by decide +kernel
theorem dX4_count_25 : decode cX4_count 25 = .ok (.aload_n 0, 1) := by decide +kernel
theorem dX4_count_26 : decode cX4_count 26 = .ok (.iload 4, 2) := by decide +kernel
theorem dX4_count_28 : decode cX4_count 28 = .ok (.invokevirtual 132, 3) := by decide +kernel
theorem dX4_count_31 : decode cX4_count 31 = .ok (.ifCond .eq 17, 3) := by decide +kernel
theorem dX4_count_34 : decode cX4_count 34 = .ok (.iload_n 2, 1) := by decide +kernel
theorem dX4_count_35 : decode cX4_count 35 = .ok (.aload_n 0, 1) := by decide +kernel
theorem dX4_count_36 : decode cX4_count 36 = .ok (.getfield 19, 3) := by decide +kernel
theorem dX4_count_39 : decode cX4_count 39 = .ok (.aload_n 0, 1) := by decide +kernel
theorem dX4_count_40 : decode cX4_count 40 = .ok (.iload 4, 2) := by decide +kernel
theorem dX4_count_42 : decode cX4_count 42 = .ok (.invokevirtual 139, 3) := by decide +kernel
theorem dX4_count_45 : decode cX4_count 45 = .ok (.iaload, 1) := by decide +kernel
theorem dX4_count_46 : decode cX4_count 46 = .ok (.iadd, 1) := by decide +kernel
theorem dX4_count_47 : decode cX4_count 47 = .ok (.istore_n 2, 1) := by decide +kernel
theorem dX4_count_48 : decode cX4_count 48 = .ok (.iinc 4 1, 3) := by decide +kernel
theorem dX4_count_51 : decode cX4_count 51 = .ok (.goto (-35), 3) := by decide +kernel
theorem dX4_count_54 : decode cX4_count 54 = .ok (.iconst 0, 1) := by decide +kernel
theorem dX4_count_55 : decode cX4_count 55 = .ok (.istore 4, 2) := by decide +kernel
theorem dX4_count_57 : decode cX4_count 57 = .ok (.iload 4, 2) := by decide +kernel
theorem dX4_count_59 : decode cX4_count 59 = .ok (.aload_n 0, 1) := by decide +kernel
theorem dX4_count_60 : decode cX4_count 60 = .ok (.getfield 103, 3) := by decide +kernel
theorem dX4_count_63 : decode cX4_count 63 = .ok (.if_icmp .ge 19, 3) := by decide +kernel
theorem dX4_count_66 : decode cX4_count 66 = .ok (.iload_n 3, 1) := by decide +kernel
theorem dX4_count_67 : decode cX4_count 67 = .ok (.aload_n 0, 1) := by decide +kernel
theorem dX4_count_68 : decode cX4_count 68 = .ok (.getfield 45, 3) := by decide +kernel
theorem dX4_count_71 : decode cX4_count 71 = .ok (.iload 4, 2) := by decide +kernel
theorem dX4_count_73 : decode cX4_count 73 = .ok (.iaload, 1) := by decide +kernel
theorem dX4_count_74 : decode cX4_count 74 = .ok (.iadd, 1) := by decide +kernel
theorem dX4_count_75 : decode cX4_count 75 = .ok (.istore_n 3, 1) := by decide +kernel
theorem dX4_count_76 : decode cX4_count 76 = .ok (.iinc 4 1, 3) := by decide +kernel
theorem dX4_count_79 : decode cX4_count 79 = .ok (.goto (-22), 3) := by decide +kernel
theorem dX4_count_82 : decode cX4_count 82 = .ok (.aload_n 0, 1) := by decide +kernel
theorem dX4_count_83 : decode cX4_count 83 = .ok (.iconst 0, 1) := by decide +kernel
theorem dX4_count_84 : decode cX4_count 84 = .ok (.invokevirtual 199, 3) := by decide +kernel
theorem dX4_count_87 : decode cX4_count 87 = .ok (.iload_n 1, 1) := by decide +kernel
theorem dX4_count_88 : decode cX4_count 88 = .ok (.tableswitch 119 0 9 #[56, 66, 68, 72, 84, 89, 99, 104, 109, 114], 56) := by decide +kernel
theorem dX4_count_144 : decode cX4_count 144 = .ok (.aload_n 0, 1) := by decide +kernel
theorem dX4_count_145 : decode cX4_count 145 = .ok (.getfield 19, 3) := by decide +kernel
theorem dX4_count_148 : decode cX4_count 148 = .ok (.aload_n 0, 1) := by decide +kernel
theorem dX4_count_149 : decode cX4_count 149 = .ok (.getfield 93, 3) := by decide +kernel
theorem dX4_count_152 : decode cX4_count 152 = .ok (.iaload, 1) := by decide +kernel
theorem dX4_count_153 : decode cX4_count 153 = .ok (.ireturn, 1) := by decide +kernel
theorem dX4_count_154 : decode cX4_count 154 = .ok (.iload_n 3, 1) := by decide +kernel
theorem dX4_count_155 : decode cX4_count 155 = .ok (.ireturn, 1) := by decide +kernel
theorem dX4_count_156 : decode cX4_count 156 = .ok (.iload_n 2, 1) := by decide +kernel
theorem dX4_count_157 : decode cX4_count 157 = .ok (.iload_n 3, 1) := by decide +kernel
theorem dX4_count_158 : decode cX4_count 158 = .ok (.isub, 1) := by decide +kernel
theorem dX4_count_159 : decode cX4_count 159 = .ok (.ireturn, 1) := by decide +kernel
theorem dX4_count_160 : decode cX4_count 160 = .ok (.aload_n 0, 1) := by decide +kernel
theorem dX4_count_161 : decode cX4_count 161 = .ok (.getfield 19, 3) := by decide +kernel
theorem dX4_count_164 : decode cX4_count 164 = .ok (.aload_n 0, 1) := by decide +kernel
theorem dX4_count_165 : decode cX4_count 165 = .ok (.getfield 93, 3) := by decide +kernel
theorem dX4_count_168 : decode cX4_count 168 = .ok (.iaload, 1) := by decide +kernel
theorem dX4_count_169 : decode cX4_count 169 = .ok (.iload_n 2, 1) := by decide +kernel
theorem dX4_count_170 : decode cX4_count 170 = .ok (.isub, 1) := by decide +kernel
theorem dX4_count_171 : decode cX4_count 171 = .ok (.ireturn, 1) := by decide +kernel
theorem dX4_count_172 : decode cX4_count 172 = .ok (.aload_n 0, 1) := by decide +kernel
theorem dX4_count_173 : decode cX4_count 173 = .ok (.getfield 103, 3) := by decide +kernel
theorem dX4_count_176 : decode cX4_count 176 = .ok (.ireturn, 1) := by decide +kernel
theorem dX4_count_177 : decode cX4_count 177 = .ok (.aload_n 0, 1) := by decide +kernel
theorem dX4_count_178 : decode cX4_count 178 = .ok (.getfield 96, 3) := by decide +kernel
theorem dX4_count_181 : decode cX4_count 181 = .ok (.aload_n 0, 1) := by decide +kernel
theorem dX4_count_182 : decode cX4_count 182 = .ok (.getfield 103, 3) := by decide +kernel
theorem dX4_count_185 : decode cX4_count 185 = .ok (.isub, 1) := by decide +kernel
theorem dX4_count_186 : decode cX4_count 186 = .ok (.ireturn, 1) := by decide +kernel
theorem dX4_count_187 : decode cX4_count 187 = .ok (.aload_n 0, 1) := by decide +kernel
theorem dX4_count_188 : decode cX4_count 188 = .ok (.getfield 186, 3) := by decide +kernel
theorem dX4_count_191 : decode cX4_count 191 = .ok (.ireturn, 1) := by decide +kernel
theorem dX4_count_192 : decode cX4_count 192 = .ok (.aload_n 0, 1) := by decide +kernel
theorem dX4_count_193 : decode cX4_count 193 = .ok (.getfield 106, 3) := by decide +kernel
theorem dX4_count_196 : decode cX4_count 196 = .ok (.ireturn, 1) := by decide +kernel
theorem dX4_count_197 : decode cX4_count 197 = .ok (.aload_n 0, 1) := by decide +kernel
theorem dX4_count_198 : decode cX4_count 198 = .ok (.getfield 109, 3) := by decide +kernel
theorem dX4_count_201 : decode cX4_count 201 = .ok (.ireturn, 1) := by decide +kernel
theorem dX4_count_202 : decode cX4_count 202 = .ok (.aload_n 0, 1) := by decide +kernel
theorem dX4_count_203 : decode cX4_count 203 = .ok (.getfield 183, 3) := by decide +kernel
theorem dX4_count_206 : decode cX4_count 206 = .ok (.ireturn, 1) := by decide +kernel
theorem dX4_count_207 : decode cX4_count 207 = .ok (.iconst (-1), 1) := by decide +kernel
theorem dX4_count_208 : decode cX4_count 208 = .ok (.ireturn, 1) := by decide +kernel
set_option maxRecDepth 20000 in
theorem ggX4_room_X4_isThere : GoodIn wsX4_room wsX4_isThere := goodIn_r _ [6, 7, 8, 60, 61, 62, 63, 64, 65, 66, 67, 68, 69, 70, 71, 72, 73, 74, 75, 76, 77, 78, 79, 80, 81, 82, 83, 84, 85, 86, 87, 88] (by decide +kernel) (by decide +kernel)
set_option maxRecDepth 20000 in
theorem gX4_room_X4_isThere : GoodIn wsX4_room (wsV RX4 159 RX4 yX4_isThere wsX4_isThere) := goodIn_app (goodIn_of _ (by decide +kernel)) ggX4_room_X4_isThere
set_option maxRecDepth 20000 in
theorem ggX4_room_X4_raise : GoodIn wsX4_room wsX4_raise := goodIn_r _ [12, 8, 60, 61, 62, 63, 64, 65, 66, 67, 68, 69, 70, 71, 72, 73, 74, 75, 76, 77, 78, 79, 80, 81, 82, 83, 84, 85, 86, 87, 88] (by decide +kernel) (by decide +kernel)
set_option maxRecDepth 20000 in
theorem gX4_room_X4_raise : GoodIn wsX4_room (wsV RX4 163 RX4 yX4_raise wsX4_raise) := goodIn_app (goodIn_of _ (by decide +kernel)) ggX4_room_X4_raise
set_option maxRecDepth 20000 in
theorem ggX4_room_X4_goAlong : GoodIn wsX4_room wsX4_goAlong := goodIn_r _ [16, 17, 18, 19, 20, 1, 21, 22, 23, 24, 25, 26, 27, 28, 5, 29, 30, 31, 32, 33, 34, 35, 36, 37, 38, 39, 40, 41, 42, 43, 44, 45, 46, 47, 48, 49, 50, 7, 51, 52, 53, 54, 55, 56, 57, 58, 59, 60, 61, 62, 63, 64, 65, 66, 67, 68, 69, 70, 71, 72, 73, 74, 75, 76, 77, 78, 79, 80, 81, 82, 83, 84, 85, 86, 87, 88] (by decide +kernel) (by decide +kernel)
set_option maxRecDepth 20000 in
theorem gX4_room_X4_goAlong : GoodIn wsX4_room (wsV RX4 199 RX4 yX4_goAlong wsX4_goAlong) := goodIn_app (goodIn_of _ (by decide +kernel)) ggX4_room_X4_goAlong
theorem dX4_room_0 : decode cX4_room 0 = .ok (.aload_n 0, 1) := by decide +kernel
theorem dX4_room_1 : decode cX4_room 1 = .ok (.invokevirtual 159, 3) := by decide +kernel
theorem dX4_room_4 : decode cX4_room 4 = .ok (.ifCond .ne 5, 3) := by decide +kernel
theorem dX4_room_7 : decode cX4_room 7 = .ok (.iconst 0, 1) := by decide +kernel
theorem dX4_room_8 : decode cX4_room 8 = .ok (.ireturn, 1) := by decide +kernel
theorem dX4_room_9 : decode cX4_room 9 = .ok (.iload_n 1, 1) := by decide +kernel
theorem dX4_room_10 : decode cX4_room 10 = .ok (.iconst 1, 1) := by decide +kernel
theorem dX4_room_11 : decode cX4_room 11 = .ok (.if_icmp .ge 9, 3) := by decide +kernel
theorem dX4_room_14 : decode cX4_room 14 = .ok (.aload_n 0, 1) := by decide +kernel
theorem dX4_room_15 : decode cX4_room 15 = .ok (.iconst 2, 1) := by decide +kernel
theorem dX4_room_16 : decode cX4_room 16 = .ok (.invokevirtual 163, 3) := by decide +kernel
theorem dX4_room_19 : decode cX4_room 19 = .ok (.ireturn, 1) := by decide +kernel
theorem dX4_room_20 : decode cX4_room 20 = .ok (.aload_n 0, 1) := by decide +kernel
theorem dX4_room_21 : decode cX4_room 21 = .ok (.iload_n 1, 1) := by decide +kernel
theorem dX4_room_22 : decode cX4_room 22 = .ok (.invokevirtual 199, 3) := by decide +kernel
theorem dX4_room_25 : decode cX4_room 25 = .ok (.aload_n 0, 1) := by decide +kernel
theorem dX4_room_26 : decode cX4_room 26 = .ok (.getfield 189, 3) := by decide +kernel
theorem dX4_room_29 : decode cX4_room 29 = .ok (.l2i, 1) := by decide +kernel
theorem dX4_room_30 : decode cX4_room 30 = .ok (.ireturn, 1) := by decide +kernel
set_option maxRecDepth 20000 in
theorem ggX4_load_X4_in : GoodIn wsX4_load wsX4_in := goodIn_r _ [7] (by decide +kernel) (by decide +kernel)
set_option maxRecDepth 20000 in
theorem gX4_load_X4_in : GoodIn wsX4_load (va_wsS RX4 72 yX4_in wsX4_in) := goodIn_app (goodIn_of _ (by decide +kernel)) ggX4_load_X4_in
theorem dX4_load_0 : decode cX4_load 0 = .ok (.aload_n 0, 1) := by decide +kernel
theorem dX4_load_1 : decode cX4_load 1 = .ok (.iload_n 1, 1) := by decide +kernel
theorem dX4_load_2 : decode cX4_load 2 = .ok (.i2l, 1) := by decide +kernel
theorem dX4_load_3 : decode cX4_load 3 = .ok (.lconst 0, 1) := by decide +kernel
theorem dX4_load_4 : decode cX4_load 4 = .ok (.ldc2_w 175, 3) := by decide +kernel
theorem dX4_load_7 : decode cX4_load 7 = .ok (.invokestatic 72, 3) := by decide +kernel
theorem dX4_load_10 : decode cX4_load 10 = .ok (.ifCond .eq 7, 3) := by decide +kernel
theorem dX4_load_13 : decode cX4_load 13 = .ok (.iconst 0, 1) := by decide +kernel
theorem dX4_load_14 : decode cX4_load 14 = .ok (.goto 4, 3) := by decide +kernel
theorem dX4_load_17 : decode cX4_load 17 = .ok (.iconst 1, 1) := by decide +kernel
theorem dX4_load_18 : decode cX4_load 18 = .ok (.putfield 66, 3) := by decide +kernel
theorem dX4_load_21 : decode cX4_load 21 = .ok (.aload_n 0, 1) := by decide +kernel
theorem dX4_load_22 : decode cX4_load 22 = .ok (.getfield 66, 3) := by decide +kernel
theorem dX4_load_25 : decode cX4_load 25 = .ok (.ifCond .ne 10, 3) := by decide +kernel
theorem dX4_load_28 : decode cX4_load 28 = .ok (.aload_n 0, 1) := by decide +kernel
theorem dX4_load_29 : decode cX4_load 29 = .ok (.getfield 48, 3) := by decide +kernel
theorem dX4_load_32 : decode cX4_load 32 = .ok (.iload_n 1, 1) := by decide +kernel
theorem dX4_load_33 : decode cX4_load 33 = .ok (.iload_n 2, 1) := by decide +kernel
theorem dX4_load_34 : decode cX4_load 34 = .ok (.iastore, 1) := by decide +kernel
theorem dX4_load_35 : decode cX4_load 35 = .ok (.return_, 1) := by decide +kernel
set_option maxRecDepth 20000 in
theorem ggX4_replay_X4_isThere : GoodIn wsX4_replay wsX4_isThere := goodIn_r _ [9, 10, 11, 96, 97, 98, 99, 100, 101, 102, 103, 104, 105, 106, 107, 108, 109, 110, 111, 112, 113, 114, 115, 116, 117, 118, 119, 120, 121, 122, 123, 124] (by decide +kernel) (by decide +kernel)
set_option maxRecDepth 20000 in
theorem gX4_replay_X4_isThere : GoodIn wsX4_replay (wsV RX4 159 RX4 yX4_isThere wsX4_isThere) := goodIn_app (goodIn_of _ (by decide +kernel)) ggX4_replay_X4_isThere
set_option maxRecDepth 20000 in
theorem ggX4_replay_X4_in : GoodIn wsX4_replay wsX4_in := goodIn_r _ [14] (by decide +kernel) (by decide +kernel)
set_option maxRecDepth 20000 in
theorem gX4_replay_X4_in : GoodIn wsX4_replay (va_wsS RX4 72 yX4_in wsX4_in) := goodIn_app (goodIn_of _ (by decide +kernel)) ggX4_replay_X4_in
set_option maxRecDepth 20000 in
theorem ggX4_replay_X4_raise : GoodIn wsX4_replay wsX4_raise := goodIn_r _ [18, 11, 96, 97, 98, 99, 100, 101, 102, 103, 104, 105, 106, 107, 108, 109, 110, 111, 112, 113, 114, 115, 116, 117, 118, 119, 120, 121, 122, 123, 124] (by decide +kernel) (by decide +kernel)
set_option maxRecDepth 20000 in
theorem gX4_replay_X4_raise : GoodIn wsX4_replay (wsV RX4 163 RX4 yX4_raise wsX4_raise) := goodIn_app (goodIn_of _ (by decide +kernel)) ggX4_replay_X4_raise
set_option maxRecDepth 20000 in
theorem ggX4_replay_X4_joinAll : GoodIn wsX4_replay wsX4_joinAll := goodIn_r _ [22, 23, 24, 25, 26, 27, 8, 28, 29, 30, 31, 32, 33, 34, 35, 36, 37, 38, 39, 40, 41, 42, 43, 44, 45, 46, 47, 48, 49, 50, 51, 52, 53, 54, 55, 10, 56, 57, 58, 59, 60, 96, 97, 98, 99, 100, 101, 102, 103, 104, 105, 106, 107, 108, 109, 110, 111, 112, 113, 114, 115, 116, 117, 118, 119, 120, 121, 122, 123, 124] (by decide +kernel) (by decide +kernel)
set_option maxRecDepth 20000 in
theorem gX4_replay_X4_joinAll : GoodIn wsX4_replay (wsV RX4 145 RX4 yX4_joinAll wsX4_joinAll) := goodIn_app (goodIn_of _ (by decide +kernel)) ggX4_replay_X4_joinAll
set_option maxRecDepth 20000 in
theorem ggX4_replay_X4_giveWords : GoodIn wsX4_replay wsX4_giveWords := goodIn_r _ [64, 56, 57, 65, 24, 33, 66, 67, 68, 4, 69, 70, 71, 72, 8, 73, 40, 41, 42, 43, 74, 75, 76, 77, 34, 19, 20, 21, 22, 23, 25, 26, 27, 28, 29, 30, 31, 32, 35, 36, 37, 38, 39, 44, 45, 46, 47, 48, 49, 50, 51, 52, 53, 54, 55, 10, 58, 59, 60, 96, 97, 98, 99, 100, 101, 102, 103, 104, 105, 106, 107, 108, 109, 110, 111, 112, 113, 114, 115, 116, 117, 118, 119, 120, 121, 122, 123, 124] (by decide +kernel) (by decide +kernel)
set_option maxRecDepth 20000 in
theorem gX4_replay_X4_giveWords : GoodIn wsX4_replay (wsV RX4 166 RX4 yX4_giveWords wsX4_giveWords) := goodIn_app (goodIn_of _ (by decide +kernel)) ggX4_replay_X4_giveWords
set_option maxRecDepth 20000 in
theorem ggX4_replay_X4_blockOf : GoodIn wsX4_replay wsX4_blockOf := goodIn_r _ [81, 4, 68, 96, 97, 98, 99, 100, 101, 102, 103, 104, 105, 106, 107, 108, 109, 110, 111, 112, 113, 114, 115, 116, 117, 118, 119, 120, 121, 122, 123, 124] (by decide +kernel) (by decide +kernel)
set_option maxRecDepth 20000 in
theorem gX4_replay_X4_blockOf : GoodIn wsX4_replay (wsV RX4 169 RX4 yX4_blockOf wsX4_blockOf) := goodIn_app (goodIn_of _ (by decide +kernel)) ggX4_replay_X4_blockOf
set_option maxRecDepth 20000 in
theorem ggX4_replay_X4_freeBlock : GoodIn wsX4_replay wsX4_freeBlock := goodIn_r _ [85, 68, 4, 69, 33, 86, 87, 88, 89, 90, 8, 91, 48, 49, 50, 51, 74, 75, 76, 77, 34, 25, 26, 27, 28, 24, 29, 30, 31, 32, 35, 36, 37, 38, 39, 40, 41, 42, 43, 92, 93, 94, 95, 44, 45, 46, 47, 23, 52, 53, 54, 55, 10, 56, 57, 58, 59, 60, 96, 97, 98, 99, 100, 101, 102, 103, 104, 105, 106, 107, 108, 109, 110, 111, 112, 113, 114, 115, 116, 117, 118, 119, 120, 121, 122, 123, 124] (by decide +kernel) (by decide +kernel)
set_option maxRecDepth 20000 in
theorem gX4_replay_X4_freeBlock : GoodIn wsX4_replay (wsV RX4 172 RX4 yX4_freeBlock wsX4_freeBlock) := goodIn_app (goodIn_of _ (by decide +kernel)) ggX4_replay_X4_freeBlock
theorem dX4_replay_0 : decode cX4_replay 0 = .ok (.aload_n 0, 1) := by decide +kernel
theorem dX4_replay_1 : decode cX4_replay 1 = .ok (.invokevirtual 159, 3) := by decide +kernel
theorem dX4_replay_4 : decode cX4_replay 4 = .ok (.ifCond .ne 5, 3) := by decide +kernel
theorem dX4_replay_7 : decode cX4_replay 7 = .ok (.iconst 0, 1) := by decide +kernel
theorem dX4_replay_8 : decode cX4_replay 8 = .ok (.ireturn, 1) := by decide +kernel
theorem dX4_replay_9 : decode cX4_replay 9 = .ok (.iload_n 1, 1) := by decide +kernel
theorem dX4_replay_10 : decode cX4_replay 10 = .ok (.i2l, 1) := by decide +kernel
theorem dX4_replay_11 : decode cX4_replay 11 = .ok (.lconst 0, 1) := by decide +kernel
theorem dX4_replay_12 : decode cX4_replay 12 = .ok (.ldc2_w 202, 3) := by decide +kernel
theorem dX4_replay_15 : decode cX4_replay 15 = .ok (.invokestatic 72, 3) := by decide +kernel
theorem dX4_replay_18 : decode cX4_replay 18 = .ok (.ifCond .ne 9, 3) := by decide +kernel
theorem dX4_replay_21 : decode cX4_replay 21 = .ok (.aload_n 0, 1) := by decide +kernel
theorem dX4_replay_22 : decode cX4_replay 22 = .ok (.iconst 2, 1) := by decide +kernel
theorem dX4_replay_23 : decode cX4_replay 23 = .ok (.invokevirtual 163, 3) := by decide +kernel
theorem dX4_replay_26 : decode cX4_replay 26 = .ok (.ireturn, 1) := by decide +kernel
theorem dX4_replay_27 : decode cX4_replay 27 = .ok (.iconst 0, 1) := by decide +kernel
theorem dX4_replay_28 : decode cX4_replay 28 = .ok (.istore_n 2, 1) := by decide +kernel
theorem dX4_replay_29 : decode cX4_replay 29 = .ok (.iload_n 2, 1) := by decide +kernel
theorem dX4_replay_30 : decode cX4_replay 30 = .ok (.iload_n 1, 1) := by decide +kernel
theorem dX4_replay_31 : decode cX4_replay 31 = .ok (.if_icmp .ge 125, 3) := by decide +kernel
theorem dX4_replay_34 : decode cX4_replay 34 = .ok (.aload_n 0, 1) := by decide +kernel
theorem dX4_replay_35 : decode cX4_replay 35 = .ok (.getfield 51, 3) := by decide +kernel
theorem dX4_replay_38 : decode cX4_replay 38 = .ok (.iload_n 2, 1) := by decide +kernel
theorem dX4_replay_39 : decode cX4_replay 39 = .ok (.iconst (-1), 1) := by decide +kernel
theorem dX4_replay_40 : decode cX4_replay 40 = .ok (.iastore, 1) := by decide +kernel
theorem dX4_replay_41 : decode cX4_replay 41 = .ok (.aload_n 0, 1) := by decide +kernel
theorem dX4_replay_42 : decode cX4_replay 42 = .ok (.getfield 48, 3) := by decide +kernel
theorem dX4_replay_45 : decode cX4_replay 45 = .ok (.iload_n 2, 1) := by decide +kernel
theorem dX4_replay_46 : decode cX4_replay 46 = .ok (.iaload, 1) := by decide +kernel
theorem dX4_replay_47 : decode cX4_replay 47 = .ok (.istore_n 3, 1) := by decide +kernel
theorem dX4_replay_48 : decode cX4_replay 48 = .ok (.iload_n 3, 1) := by decide +kernel
theorem dX4_replay_49 : decode cX4_replay 49 = .ok (.ifCond .ne 11, 3) := by decide +kernel
theorem dX4_replay_52 : decode cX4_replay 52 = .ok (.aload_n 0, 1) := by decide +kernel
theorem dX4_replay_53 : decode cX4_replay 53 = .ok (.invokevirtual 145, 3) := by decide +kernel
theorem dX4_replay_56 : decode cX4_replay 56 = .ok (.pop, 1) := by decide +kernel
theorem dX4_replay_57 : decode cX4_replay 57 = .ok (.goto 93, 3) := by decide +kernel
theorem dX4_replay_60 : decode cX4_replay 60 = .ok (.iload_n 3, 1) := by decide +kernel
theorem dX4_replay_61 : decode cX4_replay 61 = .ok (.ifCond .le 41, 3) := by decide +kernel
theorem dX4_replay_64 : decode cX4_replay 64 = .ok (.aload_n 0, 1) := by decide +kernel
theorem dX4_replay_65 : decode cX4_replay 65 = .ok (.getfield 103, 3) := by decide +kernel
theorem dX4_replay_68 : decode cX4_replay 68 = .ok (.sipush 256, 3) := by decide +kernel
theorem dX4_replay_71 : decode cX4_replay 71 = .ok (.if_icmp .ne 7, 3) := by decide +kernel
theorem dX4_replay_74 : decode cX4_replay 74 = .ok (.iconst 1, 1) := by decide +kernel
theorem dX4_replay_75 : decode cX4_replay 75 = .ok (.iload_n 2, 1) := by decide +kernel
theorem dX4_replay_76 : decode cX4_replay 76 = .ok (.iadd, 1) := by decide +kernel
theorem dX4_replay_77 : decode cX4_replay 77 = .ok (.ireturn, 1) := by decide +kernel
theorem dX4_replay_78 : decode cX4_replay 78 = .ok (.aload_n 0, 1) := by decide +kernel
theorem dX4_replay_79 : decode cX4_replay 79 = .ok (.getfield 51, 3) := by decide +kernel
theorem dX4_replay_82 : decode cX4_replay 82 = .ok (.iload_n 2, 1) := by decide +kernel
theorem dX4_replay_83 : decode cX4_replay 83 = .ok (.aload_n 0, 1) := by decide +kernel
theorem dX4_replay_84 : decode cX4_replay 84 = .ok (.iload_n 3, 1) := by decide +kernel
theorem dX4_replay_85 : decode cX4_replay 85 = .ok (.invokevirtual 166, 3) := by decide +kernel
theorem dX4_replay_88 : decode cX4_replay 88 = .ok (.iastore, 1) := by decide +kernel
theorem dX4_replay_89 : decode cX4_replay 89 = .ok (.aload_n 0, 1) := by decide +kernel
theorem dX4_replay_90 : decode cX4_replay 90 = .ok (.getfield 51, 3) := by decide +kernel
theorem dX4_replay_93 : decode cX4_replay 93 = .ok (.iload_n 2, 1) := by decide +kernel
theorem dX4_replay_94 : decode cX4_replay 94 = .ok (.iaload, 1) := by decide +kernel
theorem dX4_replay_95 : decode cX4_replay 95 = .ok (.ifCond .ge 55, 3) := by decide +kernel
theorem dX4_replay_98 : decode cX4_replay 98 = .ok (.iconst 1, 1) := by decide +kernel
theorem dX4_replay_99 : decode cX4_replay 99 = .ok (.iload_n 2, 1) := by decide +kernel
theorem dX4_replay_100 : decode cX4_replay 100 = .ok (.iadd, 1) := by decide +kernel
theorem dX4_replay_101 : decode cX4_replay 101 = .ok (.ireturn, 1) := by decide +kernel
theorem dX4_replay_102 : decode cX4_replay 102 = .ok (.iconst (-1), 1) := by decide +kernel
theorem dX4_replay_103 : decode cX4_replay 103 = .ok (.iload_n 3, 1) := by decide +kernel
theorem dX4_replay_104 : decode cX4_replay 104 = .ok (.isub, 1) := by decide +kernel
theorem dX4_replay_105 : decode cX4_replay 105 = .ok (.istore 4, 2) := by decide +kernel
theorem dX4_replay_107 : decode cX4_replay 107 = .ok (.iload 4, 2) := by decide +kernel
theorem dX4_replay_109 : decode cX4_replay 109 = .ok (.iload_n 2, 1) := by decide +kernel
theorem dX4_replay_110 : decode cX4_replay 110 = .ok (.if_icmp .ge 13, 3) := by decide +kernel
theorem dX4_replay_113 : decode cX4_replay 113 = .ok (.aload_n 0, 1) := by decide +kernel
theorem dX4_replay_114 : decode cX4_replay 114 = .ok (.getfield 51, 3) := by decide +kernel
theorem dX4_replay_117 : decode cX4_replay 117 = .ok (.iload 4, 2) := by decide +kernel
theorem dX4_replay_119 : decode cX4_replay 119 = .ok (.iaload, 1) := by decide +kernel
theorem dX4_replay_120 : decode cX4_replay 120 = .ok (.ifCond .ge 7, 3) := by decide +kernel
theorem dX4_replay_123 : decode cX4_replay 123 = .ok (.iconst 1, 1) := by decide +kernel
theorem dX4_replay_124 : decode cX4_replay 124 = .ok (.iload_n 2, 1) := by decide +kernel
theorem dX4_replay_125 : decode cX4_replay 125 = .ok (.iadd, 1) := by decide +kernel
theorem dX4_replay_126 : decode cX4_replay 126 = .ok (.ireturn, 1) := by decide +kernel
theorem dX4_replay_127 : decode cX4_replay 127 = .ok (.aload_n 0, 1) := by decide +kernel
theorem dX4_replay_128 : decode cX4_replay 128 = .ok (.aload_n 0, 1) := by decide +kernel
theorem dX4_replay_129 : decode cX4_replay 129 = .ok (.aload_n 0, 1) := by decide +kernel
theorem dX4_replay_130 : decode cX4_replay 130 = .ok (.getfield 51, 3) := by decide +kernel
theorem dX4_replay_133 : decode cX4_replay 133 = .ok (.iload 4, 2) := by decide +kernel
theorem dX4_replay_135 : decode cX4_replay 135 = .ok (.iaload, 1) := by decide +kernel
theorem dX4_replay_136 : decode cX4_replay 136 = .ok (.invokevirtual 169, 3) := by decide +kernel
theorem dX4_replay_139 : decode cX4_replay 139 = .ok (.invokevirtual 172, 3) := by decide +kernel
theorem dX4_replay_142 : decode cX4_replay 142 = .ok (.aload_n 0, 1) := by decide +kernel
theorem dX4_replay_143 : decode cX4_replay 143 = .ok (.getfield 51, 3) := by decide +kernel
theorem dX4_replay_146 : decode cX4_replay 146 = .ok (.iload 4, 2) := by decide +kernel
theorem dX4_replay_148 : decode cX4_replay 148 = .ok (.iconst (-1), 1) := by decide +kernel
theorem dX4_replay_149 : decode cX4_replay 149 = .ok (.iastore, 1) := by decide +kernel
theorem dX4_replay_150 : decode cX4_replay 150 = .ok (.iinc 2 1, 3) := by decide +kernel
theorem dX4_replay_153 : decode cX4_replay 153 = .ok (.goto (-124), 3) := by decide +kernel
theorem dX4_replay_156 : decode cX4_replay 156 = .ok (.iconst 0, 1) := by decide +kernel
theorem dX4_replay_157 : decode cX4_replay 157 = .ok (.ireturn, 1) := by decide +kernel
theorem dJ6_numberOfTrailingZeros_0f7a4_0 : decode cJ6_numberOfTrailingZeros_0f7a4 0 = .ok (.iload_n 0, 1) := by decide +kernel
theorem dJ6_numberOfTrailingZeros_0f7a4_1 : decode cJ6_numberOfTrailingZeros_0f7a4 1 = .ok (.iconst (-1), 1) := by decide +kernel
theorem dJ6_numberOfTrailingZeros_0f7a4_2 : decode cJ6_numberOfTrailingZeros_0f7a4 2 = .ok (.ixor, 1) := by decide +kernel
theorem dJ6_numberOfTrailingZeros_0f7a4_3 : decode cJ6_numberOfTrailingZeros_0f7a4 3 = .ok (.iload_n 0, 1) := by decide +kernel
theorem dJ6_numberOfTrailingZeros_0f7a4_4 : decode cJ6_numberOfTrailingZeros_0f7a4 4 = .ok (.iconst 1, 1) := by decide +kernel
theorem dJ6_numberOfTrailingZeros_0f7a4_5 : decode cJ6_numberOfTrailingZeros_0f7a4 5 = .ok (.isub, 1) := by decide +kernel
theorem dJ6_numberOfTrailingZeros_0f7a4_6 : decode cJ6_numberOfTrailingZeros_0f7a4 6 = .ok (.iand, 1) := by decide +kernel
theorem dJ6_numberOfTrailingZeros_0f7a4_7 : decode cJ6_numberOfTrailingZeros_0f7a4 7 = .ok (.istore_n 0, 1) := by decide +kernel
theorem dJ6_numberOfTrailingZeros_0f7a4_8 : decode cJ6_numberOfTrailingZeros_0f7a4 8 = .ok (.iload_n 0, 1) := by decide +kernel
theorem dJ6_numberOfTrailingZeros_0f7a4_9 : decode cJ6_numberOfTrailingZeros_0f7a4 9 = .ok (.ifCond .gt 8, 3) := by decide +kernel
theorem dJ6_numberOfTrailingZeros_0f7a4_12 : decode cJ6_numberOfTrailingZeros_0f7a4 12 = .ok (.iload_n 0, 1) := by decide +kernel
theorem dJ6_numberOfTrailingZeros_0f7a4_13 : decode cJ6_numberOfTrailingZeros_0f7a4 13 = .ok (.bipush 32, 2) := by decide +kernel
theorem dJ6_numberOfTrailingZeros_0f7a4_15 : decode cJ6_numberOfTrailingZeros_0f7a4 15 = .ok (.iand, 1) := by decide +kernel
theorem dJ6_numberOfTrailingZeros_0f7a4_16 : decode cJ6_numberOfTrailingZeros_0f7a4 16 = .ok (.ireturn, 1) := by decide +kernel
theorem dJ6_numberOfTrailingZeros_0f7a4_17 : decode cJ6_numberOfTrailingZeros_0f7a4 17 = .ok (.iconst 1, 1) := by decide +kernel
theorem dJ6_numberOfTrailingZeros_0f7a4_18 : decode cJ6_numberOfTrailingZeros_0f7a4 18 = .ok (.istore_n 1, 1) := by decide +kernel
theorem dJ6_numberOfTrailingZeros_0f7a4_19 : decode cJ6_numberOfTrailingZeros_0f7a4 19 = .ok (.iload_n 0, 1) := by decide +kernel
theorem dJ6_numberOfTrailingZeros_0f7a4_20 : decode cJ6_numberOfTrailingZeros_0f7a4 20 = .ok (.ldc_w 264, 3) := by decide +kernel
theorem dJ6_numberOfTrailingZeros_0f7a4_23 : decode cJ6_numberOfTrailingZeros_0f7a4 23 = .ok (.if_icmp .le 11, 3) := by decide +kernel
theorem dJ6_numberOfTrailingZeros_0f7a4_26 : decode cJ6_numberOfTrailingZeros_0f7a4 26 = .ok (.iinc 1 16, 3) := by decide +kernel
theorem dJ6_numberOfTrailingZeros_0f7a4_29 : decode cJ6_numberOfTrailingZeros_0f7a4 29 = .ok (.iload_n 0, 1) := by decide +kernel
theorem dJ6_numberOfTrailingZeros_0f7a4_30 : decode cJ6_numberOfTrailingZeros_0f7a4 30 = .ok (.bipush 16, 2) := by decide +kernel
theorem dJ6_numberOfTrailingZeros_0f7a4_32 : decode cJ6_numberOfTrailingZeros_0f7a4 32 = .ok (.iushr, 1) := by decide +kernel
theorem dJ6_numberOfTrailingZeros_0f7a4_33 : decode cJ6_numberOfTrailingZeros_0f7a4 33 = .ok (.istore_n 0, 1) := by decide +kernel
theorem dJ6_numberOfTrailingZeros_0f7a4_34 : decode cJ6_numberOfTrailingZeros_0f7a4 34 = .ok (.iload_n 0, 1) := by decide +kernel
theorem dJ6_numberOfTrailingZeros_0f7a4_35 : decode cJ6_numberOfTrailingZeros_0f7a4 35 = .ok (.sipush 256, 3) := by decide +kernel
theorem dJ6_numberOfTrailingZeros_0f7a4_38 : decode cJ6_numberOfTrailingZeros_0f7a4 38 = .ok (.if_icmp .le 11, 3) := by decide +kernel
theorem dJ6_numberOfTrailingZeros_0f7a4_41 : decode cJ6_numberOfTrailingZeros_0f7a4 41 = .ok (.iinc 1 8, 3) := by decide +kernel
theorem dJ6_numberOfTrailingZeros_0f7a4_44 : decode cJ6_numberOfTrailingZeros_0f7a4 44 = .ok (.iload_n 0, 1) := by decide +kernel
theorem dJ6_numberOfTrailingZeros_0f7a4_45 : decode cJ6_numberOfTrailingZeros_0f7a4 45 = .ok (.bipush 8, 2) := by decide +kernel
theorem dJ6_numberOfTrailingZeros_0f7a4_47 : decode cJ6_numberOfTrailingZeros_0f7a4 47 = .ok (.iushr, 1) := by decide +kernel
theorem dJ6_numberOfTrailingZeros_0f7a4_48 : decode cJ6_numberOfTrailingZeros_0f7a4 48 = .ok (.istore_n 0, 1) := by decide +kernel
theorem dJ6_numberOfTrailingZeros_0f7a4_49 : decode cJ6_numberOfTrailingZeros_0f7a4 49 = .ok (.iload_n 0, 1) := by decide +kernel
theorem dJ6_numberOfTrailingZeros_0f7a4_50 : decode cJ6_numberOfTrailingZeros_0f7a4 50 = .ok (.bipush 16, 2) := by decide +kernel
theorem dJ6_numberOfTrailingZeros_0f7a4_52 : decode cJ6_numberOfTrailingZeros_0f7a4 52 = .ok (.if_icmp .le 10, 3) := by decide +kernel
theorem dJ6_numberOfTrailingZeros_0f7a4_55 : decode cJ6_numberOfTrailingZeros_0f7a4 55 = .ok (.iinc 1 4, 3) := by decide +kernel
theorem dJ6_numberOfTrailingZeros_0f7a4_58 : decode cJ6_numberOfTrailingZeros_0f7a4 58 = .ok (.iload_n 0, 1) := by decide +kernel
theorem dJ6_numberOfTrailingZeros_0f7a4_59 : decode cJ6_numberOfTrailingZeros_0f7a4 59 = .ok (.iconst 4, 1) := by decide +kernel
theorem dJ6_numberOfTrailingZeros_0f7a4_60 : decode cJ6_numberOfTrailingZeros_0f7a4 60 = .ok (.iushr, 1) := by decide +kernel
theorem dJ6_numberOfTrailingZeros_0f7a4_61 : decode cJ6_numberOfTrailingZeros_0f7a4 61 = .ok (.istore_n 0, 1) := by decide +kernel
theorem dJ6_numberOfTrailingZeros_0f7a4_62 : decode cJ6_numberOfTrailingZeros_0f7a4 62 = .ok (.iload_n 0, 1) := by decide +kernel
theorem dJ6_numberOfTrailingZeros_0f7a4_63 : decode cJ6_numberOfTrailingZeros_0f7a4 63 = .ok (.iconst 4, 1) := by decide +kernel
theorem dJ6_numberOfTrailingZeros_0f7a4_64 : decode cJ6_numberOfTrailingZeros_0f7a4 64 = .ok (.if_icmp .le 10, 3) := by decide +kernel
theorem dJ6_numberOfTrailingZeros_0f7a4_67 : decode cJ6_numberOfTrailingZeros_0f7a4 67 = .ok (.iinc 1 2, 3) := by decide +kernel
theorem dJ6_numberOfTrailingZeros_0f7a4_70 : decode cJ6_numberOfTrailingZeros_0f7a4 70 = .ok (.iload_n 0, 1) := by decide +kernel
theorem dJ6_numberOfTrailingZeros_0f7a4_71 : decode cJ6_numberOfTrailingZeros_0f7a4 71 = .ok (.iconst 2, 1) := by decide +kernel
theorem dJ6_numberOfTrailingZeros_0f7a4_72 : decode cJ6_numberOfTrailingZeros_0f7a4 72 = .ok (.iushr, 1) := by decide +kernel
theorem dJ6_numberOfTrailingZeros_0f7a4_73 : decode cJ6_numberOfTrailingZeros_0f7a4 73 = .ok (.istore_n 0, 1) := by decide +kernel
theorem dJ6_numberOfTrailingZeros_0f7a4_74 : decode cJ6_numberOfTrailingZeros_0f7a4 74 = .ok (.iload_n 1, 1) := by decide +kernel
theorem dJ6_numberOfTrailingZeros_0f7a4_75 : decode cJ6_numberOfTrailingZeros_0f7a4 75 = .ok (.iload_n 0, 1) := by decide +kernel
theorem dJ6_numberOfTrailingZeros_0f7a4_76 : decode cJ6_numberOfTrailingZeros_0f7a4 76 = .ok (.iconst 1, 1) := by decide +kernel
theorem dJ6_numberOfTrailingZeros_0f7a4_77 : decode cJ6_numberOfTrailingZeros_0f7a4 77 = .ok (.iushr, 1) := by decide +kernel
theorem dJ6_numberOfTrailingZeros_0f7a4_78 : decode cJ6_numberOfTrailingZeros_0f7a4 78 = .ok (.iadd, 1) := by decide +kernel
theorem dJ6_numberOfTrailingZeros_0f7a4_79 : decode cJ6_numberOfTrailingZeros_0f7a4 79 = .ok (.ireturn, 1) := by decide +kernel
theorem dJ6_bitCount_0f7a4_0 : decode cJ6_bitCount_0f7a4 0 = .ok (.iload_n 0, 1) := by decide +kernel
theorem dJ6_bitCount_0f7a4_1 : decode cJ6_bitCount_0f7a4 1 = .ok (.iload_n 0, 1) := by decide +kernel
theorem dJ6_bitCount_0f7a4_2 : decode cJ6_bitCount_0f7a4 2 = .ok (.iconst 1, 1) := by decide +kernel
theorem dJ6_bitCount_0f7a4_3 : decode cJ6_bitCount_0f7a4 3 = .ok (.iushr, 1) := by decide +kernel
theorem dJ6_bitCount_0f7a4_4 : decode cJ6_bitCount_0f7a4 4 = .ok (.ldc_w 265, 3) := by decide +kernel
theorem dJ6_bitCount_0f7a4_7 : decode cJ6_bitCount_0f7a4 7 = .ok (.iand, 1) := by decide +kernel
theorem dJ6_bitCount_0f7a4_8 : decode cJ6_bitCount_0f7a4 8 = .ok (.isub, 1) := by decide +kernel
theorem dJ6_bitCount_0f7a4_9 : decode cJ6_bitCount_0f7a4 9 = .ok (.istore_n 0, 1) := by decide +kernel
theorem dJ6_bitCount_0f7a4_10 : decode cJ6_bitCount_0f7a4 10 = .ok (.iload_n 0, 1) := by decide +kernel
theorem dJ6_bitCount_0f7a4_11 : decode cJ6_bitCount_0f7a4 11 = .ok (.ldc_w 266, 3) := by decide +kernel
theorem dJ6_bitCount_0f7a4_14 : decode cJ6_bitCount_0f7a4 14 = .ok (.iand, 1) := by decide +kernel
theorem dJ6_bitCount_0f7a4_15 : decode cJ6_bitCount_0f7a4 15 = .ok (.iload_n 0, 1) := by decide +kernel
theorem dJ6_bitCount_0f7a4_16 : decode cJ6_bitCount_0f7a4 16 = .ok (.iconst 2, 1) := by decide +kernel
theorem dJ6_bitCount_0f7a4_17 : decode cJ6_bitCount_0f7a4 17 = .ok (.iushr, 1) := by decide +kernel
theorem dJ6_bitCount_0f7a4_18 : decode cJ6_bitCount_0f7a4 18 = .ok (.ldc_w 266, 3) := by decide +kernel
theorem dJ6_bitCount_0f7a4_21 : decode cJ6_bitCount_0f7a4 21 = .ok (.iand, 1) := by decide +kernel
theorem dJ6_bitCount_0f7a4_22 : decode cJ6_bitCount_0f7a4 22 = .ok (.iadd, 1) := by decide +kernel
theorem dJ6_bitCount_0f7a4_23 : decode cJ6_bitCount_0f7a4 23 = .ok (.istore_n 0, 1) := by decide +kernel
theorem dJ6_bitCount_0f7a4_24 : decode cJ6_bitCount_0f7a4 24 = .ok (.iload_n 0, 1) := by decide +kernel
theorem dJ6_bitCount_0f7a4_25 : decode cJ6_bitCount_0f7a4 25 = .ok (.iload_n 0, 1) := by decide +kernel
theorem dJ6_bitCount_0f7a4_26 : decode cJ6_bitCount_0f7a4 26 = .ok (.iconst 4, 1) := by decide +kernel
theorem dJ6_bitCount_0f7a4_27 : decode cJ6_bitCount_0f7a4 27 = .ok (.iushr, 1) := by decide +kernel
theorem dJ6_bitCount_0f7a4_28 : decode cJ6_bitCount_0f7a4 28 = .ok (.iadd, 1) := by decide +kernel
theorem dJ6_bitCount_0f7a4_29 : decode cJ6_bitCount_0f7a4 29 = .ok (.ldc_w 267, 3) := by decide +kernel
theorem dJ6_bitCount_0f7a4_32 : decode cJ6_bitCount_0f7a4 32 = .ok (.iand, 1) := by decide +kernel
theorem dJ6_bitCount_0f7a4_33 : decode cJ6_bitCount_0f7a4 33 = .ok (.istore_n 0, 1) := by decide +kernel
theorem dJ6_bitCount_0f7a4_34 : decode cJ6_bitCount_0f7a4 34 = .ok (.iload_n 0, 1) := by decide +kernel
theorem dJ6_bitCount_0f7a4_35 : decode cJ6_bitCount_0f7a4 35 = .ok (.iload_n 0, 1) := by decide +kernel
theorem dJ6_bitCount_0f7a4_36 : decode cJ6_bitCount_0f7a4 36 = .ok (.bipush 8, 2) := by decide +kernel
theorem dJ6_bitCount_0f7a4_38 : decode cJ6_bitCount_0f7a4 38 = .ok (.iushr, 1) := by decide +kernel
theorem dJ6_bitCount_0f7a4_39 : decode cJ6_bitCount_0f7a4 39 = .ok (.iadd, 1) := by decide +kernel
theorem dJ6_bitCount_0f7a4_40 : decode cJ6_bitCount_0f7a4 40 = .ok (.istore_n 0, 1) := by decide +kernel
theorem dJ6_bitCount_0f7a4_41 : decode cJ6_bitCount_0f7a4 41 = .ok (.iload_n 0, 1) := by decide +kernel
theorem dJ6_bitCount_0f7a4_42 : decode cJ6_bitCount_0f7a4 42 = .ok (.iload_n 0, 1) := by decide +kernel
theorem dJ6_bitCount_0f7a4_43 : decode cJ6_bitCount_0f7a4 43 = .ok (.bipush 16, 2) := by decide +kernel
theorem dJ6_bitCount_0f7a4_45 : decode cJ6_bitCount_0f7a4 45 = .ok (.iushr, 1) := by decide +kernel
theorem dJ6_bitCount_0f7a4_46 : decode cJ6_bitCount_0f7a4 46 = .ok (.iadd, 1) := by decide +kernel
theorem dJ6_bitCount_0f7a4_47 : decode cJ6_bitCount_0f7a4 47 = .ok (.istore_n 0, 1) := by decide +kernel
theorem dJ6_bitCount_0f7a4_48 : decode cJ6_bitCount_0f7a4 48 = .ok (.iload_n 0, 1) := by decide +kernel
theorem dJ6_bitCount_0f7a4_49 : decode cJ6_bitCount_0f7a4 49 = .ok (.bipush 63, 2) := by decide +kernel
theorem dJ6_bitCount_0f7a4_51 : decode cJ6_bitCount_0f7a4 51 = .ok (.iand, 1) := by decide +kernel
theorem dJ6_bitCount_0f7a4_52 : decode cJ6_bitCount_0f7a4 52 = .ok (.ireturn, 1) := by decide +kernel
theorem dJ9_max_7cf53_0 : decode cJ9_max_7cf53 0 = .ok (.iload_n 0, 1) := by decide +kernel
theorem dJ9_max_7cf53_1 : decode cJ9_max_7cf53 1 = .ok (.iload_n 1, 1) := by decide +kernel
theorem dJ9_max_7cf53_2 : decode cJ9_max_7cf53 2 = .ok (.if_icmp .lt 7, 3) := by decide +kernel
theorem dJ9_max_7cf53_5 : decode cJ9_max_7cf53 5 = .ok (.iload_n 0, 1) := by decide +kernel
theorem dJ9_max_7cf53_6 : decode cJ9_max_7cf53 6 = .ok (.goto 4, 3) := by decide +kernel
theorem dJ9_max_7cf53_9 : decode cJ9_max_7cf53 9 = .ok (.iload_n 1, 1) := by decide +kernel
theorem dJ9_max_7cf53_10 : decode cJ9_max_7cf53 10 = .ok (.ireturn, 1) := by decide +kernel
theorem dJ9_min_7cf53_0 : decode cJ9_min_7cf53 0 = .ok (.iload_n 0, 1) := by decide +kernel
theorem dJ9_min_7cf53_1 : decode cJ9_min_7cf53 1 = .ok (.iload_n 1, 1) := by decide +kernel
theorem dJ9_min_7cf53_2 : decode cJ9_min_7cf53 2 = .ok (.if_icmp .gt 7, 3) := by decide +kernel
theorem dJ9_min_7cf53_5 : decode cJ9_min_7cf53 5 = .ok (.iload_n 0, 1) := by decide +kernel
theorem dJ9_min_7cf53_6 : decode cJ9_min_7cf53 6 = .ok (.goto 4, 3) := by decide +kernel
theorem dJ9_min_7cf53_9 : decode cJ9_min_7cf53 9 = .ok (.iload_n 1, 1) := by decide +kernel
theorem dJ9_min_7cf53_10 : decode cJ9_min_7cf53 10 = .ok (.ireturn, 1) := by decide +kernel
theorem dJ7_fill_53178_0 : decode cJ7_fill_53178 0 = .ok (.iconst 0, 1) := by decide +kernel
theorem dJ7_fill_53178_1 : decode cJ7_fill_53178 1 = .ok (.istore_n 2, 1) := by decide +kernel
theorem dJ7_fill_53178_2 : decode cJ7_fill_53178 2 = .ok (.aload_n 0, 1) := by decide +kernel
theorem dJ7_fill_53178_3 : decode cJ7_fill_53178 3 = .ok (.arraylength, 1) := by decide +kernel
theorem dJ7_fill_53178_4 : decode cJ7_fill_53178 4 = .ok (.istore_n 3, 1) := by decide +kernel
theorem dJ7_fill_53178_5 : decode cJ7_fill_53178 5 = .ok (.iload_n 2, 1) := by decide +kernel
theorem dJ7_fill_53178_6 : decode cJ7_fill_53178 6 = .ok (.iload_n 3, 1) := by decide +kernel
theorem dJ7_fill_53178_7 : decode cJ7_fill_53178 7 = .ok (.if_icmp .ge 13, 3) := by decide +kernel
theorem dJ7_fill_53178_10 : decode cJ7_fill_53178 10 = .ok (.aload_n 0, 1) := by decide +kernel
theorem dJ7_fill_53178_11 : decode cJ7_fill_53178 11 = .ok (.iload_n 2, 1) := by decide +kernel
theorem dJ7_fill_53178_12 : decode cJ7_fill_53178 12 = .ok (.iload_n 1, 1) := by decide +kernel
theorem dJ7_fill_53178_13 : decode cJ7_fill_53178 13 = .ok (.iastore, 1) := by decide +kernel
theorem dJ7_fill_53178_14 : decode cJ7_fill_53178 14 = .ok (.iinc 2 1, 3) := by decide +kernel
theorem dJ7_fill_53178_17 : decode cJ7_fill_53178 17 = .ok (.goto (-12), 3) := by decide +kernel
theorem dJ7_fill_53178_20 : decode cJ7_fill_53178 20 = .ok (.return_, 1) := by decide +kernel
theorem dJ7_copyOf_59c91_0 : decode cJ7_copyOf_59c91 0 = .ok (.iload_n 1, 1) := by decide +kernel
theorem dJ7_copyOf_59c91_1 : decode cJ7_copyOf_59c91 1 = .ok (.aload_n 0, 1) := by decide +kernel
theorem dJ7_copyOf_59c91_2 : decode cJ7_copyOf_59c91 2 = .ok (.arraylength, 1) := by decide +kernel
theorem dJ7_copyOf_59c91_3 : decode cJ7_copyOf_59c91 3 = .ok (.if_icmp .ne 11, 3) := by decide +kernel
