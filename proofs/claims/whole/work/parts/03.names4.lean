theorem dX3_change_40 : decode cX3_change 40 = .ok (.ifCond .eq 13, 3) := by decide +kernel
theorem dX3_change_43 : decode cX3_change 43 = .ok (.new 84, 3) := by decide +kernel
theorem dX3_change_46 : decode cX3_change 46 = .ok (.dup, 1) := by decide +kernel
theorem dX3_change_47 : decode cX3_change 47 = .ok (.ldc 86, 2) := by decide +kernel
theorem dX3_change_49 : decode cX3_change 49 = .ok (.invokespecial 88, 3) := by decide +kernel
theorem dX3_change_52 : decode cX3_change 52 = .ok (.athrow, 1) := by decide +kernel
theorem dX3_change_53 : decode cX3_change 53 = .ok (.aload_n 0, 1) := by decide +kernel
theorem dX3_change_54 : decode cX3_change 54 = .ok (.getfield 19, 3) := by decide +kernel
theorem dX3_change_57 : decode cX3_change 57 = .ok (.iload_n 2, 1) := by decide +kernel
theorem dX3_change_58 : decode cX3_change 58 = .ok (.invokevirtual 92, 3) := by decide +kernel
theorem dX3_change_61 : decode cX3_change 61 = .ok (.istore 4, 2) := by decide +kernel
theorem dX3_change_63 : decode cX3_change 63 = .ok (.iload 4, 2) := by decide +kernel
theorem dX3_change_65 : decode cX3_change 65 = .ok (.ifCond .eq 11, 3) := by decide +kernel
theorem dX3_change_68 : decode cX3_change 68 = .ok (.aload_n 0, 1) := by decide +kernel
theorem dX3_change_69 : decode cX3_change 69 = .ok (.getfield 19, 3) := by decide +kernel
theorem dX3_change_72 : decode cX3_change 72 = .ok (.iload_n 3, 1) := by decide +kernel
theorem dX3_change_73 : decode cX3_change 73 = .ok (.invokevirtual 101, 3) := by decide +kernel
theorem dX3_change_76 : decode cX3_change 76 = .ok (.aload_n 0, 1) := by decide +kernel
theorem dX3_change_77 : decode cX3_change 77 = .ok (.iload 4, 2) := by decide +kernel
theorem dX3_change_79 : decode cX3_change 79 = .ok (.invokevirtual 95, 3) := by decide +kernel
theorem dX3_change_82 : decode cX3_change 82 = .ok (.ireturn, 1) := by decide +kernel
set_option maxRecDepth 20000 in
theorem ggX3_block_X3_requireBlock : GoodIn wsX3_block wsX3_requireBlock := goodIn_ca (goodIn_ca (goodIn_r _ [8, 1, 2, 3, 9, 10, 11, 7, 12, 13, 14, 15, 16, 17, 18, 19, 20, 21, 22, 23, 38, 39, 40, 41, 42, 43, 44, 45, 46, 47, 48, 49, 50, 51, 52, 53, 54, 55, 56, 57, 58, 59, 60, 61, 62, 63, 64] (by decide +kernel) (by decide +kernel)) (goodIn_sub (fun _ h => List.mem_cons_of_mem _ (List.mem_append_left _ (List.mem_append_right _ h))) (by decide +kernel))) (goodIn_sub (fun _ h => List.mem_cons_of_mem _ (List.mem_append_right _ h)) (by decide +kernel))
set_option maxRecDepth 20000 in
theorem gX3_block_X3_requireBlock : GoodIn wsX3_block (wsV RX3 98 RX3 yX3_requireBlock wsX3_requireBlock) := goodIn_app (goodIn_of _ (by decide +kernel)) ggX3_block_X3_requireBlock
set_option maxRecDepth 20000 in
theorem ggX3_block_X2_kindOf : GoodIn wsX3_block wsX2_kindOf := goodIn_r _ [27, 28, 56, 57, 58, 59, 60, 61, 62, 63, 64] (by decide +kernel) (by decide +kernel)
set_option maxRecDepth 20000 in
theorem gX3_block_X2_kindOf : GoodIn wsX3_block (wsV RX3 115 RX2 yX2_kindOf wsX2_kindOf) := goodIn_app (goodIn_of _ (by decide +kernel)) ggX3_block_X2_kindOf
set_option maxRecDepth 20000 in
theorem ggX3_block_X2_requestOf : GoodIn wsX3_block wsX2_requestOf := goodIn_r _ [32, 23, 56, 57, 58, 59, 60, 61, 62, 63, 64] (by decide +kernel) (by decide +kernel)
set_option maxRecDepth 20000 in
theorem gX3_block_X2_requestOf : GoodIn wsX3_block (wsV RX3 120 RX2 yX2_requestOf wsX2_requestOf) := goodIn_app (goodIn_of _ (by decide +kernel)) ggX3_block_X2_requestOf
set_option maxRecDepth 20000 in
theorem ggX3_block_X2_depthOf : GoodIn wsX3_block wsX2_depthOf := goodIn_r _ [36, 37, 56, 57, 58, 59, 60, 61, 62, 63, 64] (by decide +kernel) (by decide +kernel)
set_option maxRecDepth 20000 in
theorem gX3_block_X2_depthOf : GoodIn wsX3_block (wsV RX3 123 RX2 yX2_depthOf wsX2_depthOf) := goodIn_app (goodIn_of _ (by decide +kernel)) ggX3_block_X2_depthOf
theorem dX3_block_0 : decode cX3_block 0 = .ok (.aload_n 0, 1) := by decide +kernel
theorem dX3_block_1 : decode cX3_block 1 = .ok (.iload_n 1, 1) := by decide +kernel
theorem dX3_block_2 : decode cX3_block 2 = .ok (.invokevirtual 98, 3) := by decide +kernel
theorem dX3_block_5 : decode cX3_block 5 = .ok (.istore_n 3, 1) := by decide +kernel
theorem dX3_block_6 : decode cX3_block 6 = .ok (.iload_n 2, 1) := by decide +kernel
theorem dX3_block_7 : decode cX3_block 7 = .ok (.tableswitch 61 0 2 #[25, 37, 49], 25) := by decide +kernel
theorem dX3_block_32 : decode cX3_block 32 = .ok (.aload_n 0, 1) := by decide +kernel
theorem dX3_block_33 : decode cX3_block 33 = .ok (.getfield 19, 3) := by decide +kernel
theorem dX3_block_36 : decode cX3_block 36 = .ok (.getfield 111, 3) := by decide +kernel
theorem dX3_block_39 : decode cX3_block 39 = .ok (.iload_n 3, 1) := by decide +kernel
theorem dX3_block_40 : decode cX3_block 40 = .ok (.invokevirtual 115, 3) := by decide +kernel
theorem dX3_block_43 : decode cX3_block 43 = .ok (.ireturn, 1) := by decide +kernel
theorem dX3_block_44 : decode cX3_block 44 = .ok (.aload_n 0, 1) := by decide +kernel
theorem dX3_block_45 : decode cX3_block 45 = .ok (.getfield 19, 3) := by decide +kernel
theorem dX3_block_48 : decode cX3_block 48 = .ok (.getfield 111, 3) := by decide +kernel
theorem dX3_block_51 : decode cX3_block 51 = .ok (.iload_n 3, 1) := by decide +kernel
theorem dX3_block_52 : decode cX3_block 52 = .ok (.invokevirtual 120, 3) := by decide +kernel
theorem dX3_block_55 : decode cX3_block 55 = .ok (.ireturn, 1) := by decide +kernel
theorem dX3_block_56 : decode cX3_block 56 = .ok (.aload_n 0, 1) := by decide +kernel
theorem dX3_block_57 : decode cX3_block 57 = .ok (.getfield 19, 3) := by decide +kernel
theorem dX3_block_60 : decode cX3_block 60 = .ok (.getfield 111, 3) := by decide +kernel
theorem dX3_block_63 : decode cX3_block 63 = .ok (.iload_n 3, 1) := by decide +kernel
theorem dX3_block_64 : decode cX3_block 64 = .ok (.invokevirtual 123, 3) := by decide +kernel
theorem dX3_block_67 : decode cX3_block 67 = .ok (.ireturn, 1) := by decide +kernel
theorem dX3_block_68 : decode cX3_block 68 = .ok (.new 42, 3) := by decide +kernel
theorem dX3_block_71 : decode cX3_block 71 = .ok (.dup, 1) := by decide +kernel
theorem dX3_block_72 : decode cX3_block 72 = .ok (.ldc 126, 2) := by decide +kernel
theorem dX3_block_74 : decode cX3_block 74 = .ok (.invokespecial 46, 3) := by decide +kernel
theorem dX3_block_77 : decode cX3_block 77 = .ok (.athrow, 1) := by decide +kernel
set_option maxRecDepth 20000 in
theorem ggX3_path_X3_requireBlock : GoodIn wsX3_path wsX3_requireBlock := goodIn_ca (goodIn_ca (goodIn_r _ [8, 1, 2, 3, 9, 10, 11, 7, 12, 13, 14, 15, 16, 17, 18, 19, 20, 21, 22, 23, 33, 34, 35, 36, 37, 38, 39, 40, 41, 42, 43, 44, 45, 46, 47, 48, 49, 50, 51, 52, 53, 54, 55, 56, 57, 58, 59] (by decide +kernel) (by decide +kernel)) (goodIn_sub (fun _ h => List.mem_cons_of_mem _ (List.mem_append_left _ (List.mem_append_right _ h))) (by decide +kernel))) (goodIn_sub (fun _ h => List.mem_cons_of_mem _ (List.mem_append_right _ h)) (by decide +kernel))
set_option maxRecDepth 20000 in
theorem gX3_path_X3_requireBlock : GoodIn wsX3_path (wsV RX3 98 RX3 yX3_requireBlock wsX3_requireBlock) := goodIn_app (goodIn_of _ (by decide +kernel)) ggX3_path_X3_requireBlock
set_option maxRecDepth 20000 in
theorem ggX3_path_X2_sideAt : GoodIn wsX3_path wsX2_sideAt := goodIn_r _ [27, 28, 29, 30, 31, 19, 32, 51, 52, 53, 54, 55, 56, 57, 58, 59] (by decide +kernel) (by decide +kernel)
set_option maxRecDepth 20000 in
theorem gX3_path_X2_sideAt : GoodIn wsX3_path (wsV RX3 130 RX2 yX2_sideAt wsX2_sideAt) := goodIn_app (goodIn_of _ (by decide +kernel)) ggX3_path_X2_sideAt
theorem dX3_path_0 : decode cX3_path 0 = .ok (.aload_n 0, 1) := by decide +kernel
theorem dX3_path_1 : decode cX3_path 1 = .ok (.iload_n 1, 1) := by decide +kernel
theorem dX3_path_2 : decode cX3_path 2 = .ok (.invokevirtual 98, 3) := by decide +kernel
theorem dX3_path_5 : decode cX3_path 5 = .ok (.istore_n 3, 1) := by decide +kernel
theorem dX3_path_6 : decode cX3_path 6 = .ok (.iload_n 2, 1) := by decide +kernel
theorem dX3_path_7 : decode cX3_path 7 = .ok (.ifCond .ge 13, 3) := by decide +kernel
theorem dX3_path_10 : decode cX3_path 10 = .ok (.new 42, 3) := by decide +kernel
theorem dX3_path_13 : decode cX3_path 13 = .ok (.dup, 1) := by decide +kernel
theorem dX3_path_14 : decode cX3_path 14 = .ok (.ldc 128, 2) := by decide +kernel
theorem dX3_path_16 : decode cX3_path 16 = .ok (.invokespecial 46, 3) := by decide +kernel
theorem dX3_path_19 : decode cX3_path 19 = .ok (.athrow, 1) := by decide +kernel
theorem dX3_path_20 : decode cX3_path 20 = .ok (.aload_n 0, 1) := by decide +kernel
theorem dX3_path_21 : decode cX3_path 21 = .ok (.getfield 19, 3) := by decide +kernel
theorem dX3_path_24 : decode cX3_path 24 = .ok (.getfield 111, 3) := by decide +kernel
theorem dX3_path_27 : decode cX3_path 27 = .ok (.iload_n 3, 1) := by decide +kernel
theorem dX3_path_28 : decode cX3_path 28 = .ok (.iload_n 2, 1) := by decide +kernel
theorem dX3_path_29 : decode cX3_path 29 = .ok (.invokevirtual 130, 3) := by decide +kernel
theorem dX3_path_32 : decode cX3_path 32 = .ok (.ireturn, 1) := by decide +kernel
set_option maxRecDepth 20000 in
theorem ggX3_keep_X3_requireMemory : GoodIn wsX3_keep wsX3_requireMemory := goodIn_ca (goodIn_r _ [8, 9, 10, 11, 25, 26, 27, 28, 29] (by decide +kernel) (by decide +kernel)) (goodIn_sub (fun _ h => List.mem_cons_of_mem _ (List.mem_append_right _ h)) (by decide +kernel))
set_option maxRecDepth 20000 in
theorem gX3_keep_X3_requireMemory : GoodIn wsX3_keep (wsV RX3 77 RX3 yX3_requireMemory wsX3_requireMemory) := goodIn_app (goodIn_of _ (by decide +kernel)) ggX3_keep_X3_requireMemory
set_option maxRecDepth 20000 in
theorem ggX3_keep_X3_requireReached : GoodIn wsX3_keep wsX3_requireReached := goodIn_ca (goodIn_r _ [15, 1, 2, 3, 16, 17, 7, 18, 19, 20, 21, 22, 23, 24, 25, 26, 27, 28, 29, 30, 31, 32, 33, 34, 35, 36, 37, 38, 39, 40, 41, 42] (by decide +kernel) (by decide +kernel)) (goodIn_sub (fun _ h => List.mem_cons_of_mem _ (List.mem_append_left _ (List.mem_append_right _ h))) (by decide +kernel))
set_option maxRecDepth 20000 in
theorem gX3_keep_X3_requireReached : GoodIn wsX3_keep (wsV RX3 134 RX3 yX3_requireReached wsX3_requireReached) := goodIn_app (goodIn_of _ (by decide +kernel)) ggX3_keep_X3_requireReached
theorem dX3_keep_0 : decode cX3_keep 0 = .ok (.aload_n 0, 1) := by decide +kernel
theorem dX3_keep_1 : decode cX3_keep 1 = .ok (.invokevirtual 77, 3) := by decide +kernel
theorem dX3_keep_4 : decode cX3_keep 4 = .ok (.aload_n 0, 1) := by decide +kernel
theorem dX3_keep_5 : decode cX3_keep 5 = .ok (.iload_n 1, 1) := by decide +kernel
theorem dX3_keep_6 : decode cX3_keep 6 = .ok (.invokevirtual 134, 3) := by decide +kernel
theorem dX3_keep_9 : decode cX3_keep 9 = .ok (.iload_n 2, 1) := by decide +kernel
theorem dX3_keep_10 : decode cX3_keep 10 = .ok (.ifCond .lt 10, 3) := by decide +kernel
theorem dX3_keep_13 : decode cX3_keep 13 = .ok (.iload_n 2, 1) := by decide +kernel
theorem dX3_keep_14 : decode cX3_keep 14 = .ok (.sipush 255, 3) := by decide +kernel
theorem dX3_keep_17 : decode cX3_keep 17 = .ok (.if_icmp .le 13, 3) := by decide +kernel
theorem dX3_keep_20 : decode cX3_keep 20 = .ok (.new 42, 3) := by decide +kernel
theorem dX3_keep_23 : decode cX3_keep 23 = .ok (.dup, 1) := by decide +kernel
theorem dX3_keep_24 : decode cX3_keep 24 = .ok (.ldc 137, 2) := by decide +kernel
theorem dX3_keep_26 : decode cX3_keep 26 = .ok (.invokespecial 46, 3) := by decide +kernel
theorem dX3_keep_29 : decode cX3_keep 29 = .ok (.athrow, 1) := by decide +kernel
theorem dX3_keep_30 : decode cX3_keep 30 = .ok (.aload_n 0, 1) := by decide +kernel
theorem dX3_keep_31 : decode cX3_keep 31 = .ok (.getfield 19, 3) := by decide +kernel
theorem dX3_keep_34 : decode cX3_keep 34 = .ok (.getfield 139, 3) := by decide +kernel
theorem dX3_keep_37 : decode cX3_keep 37 = .ok (.iload_n 1, 1) := by decide +kernel
theorem dX3_keep_38 : decode cX3_keep 38 = .ok (.iload_n 2, 1) := by decide +kernel
theorem dX3_keep_39 : decode cX3_keep 39 = .ok (.iastore, 1) := by decide +kernel
theorem dX3_keep_40 : decode cX3_keep 40 = .ok (.return_, 1) := by decide +kernel
set_option maxRecDepth 20000 in
theorem ggX3_join_X3_requireMemory : GoodIn wsX3_join wsX3_requireMemory := goodIn_ca (goodIn_r _ [6, 7, 8, 9, 73, 74, 75, 76, 77] (by decide +kernel) (by decide +kernel)) (goodIn_sub (fun _ h => List.mem_cons_of_mem _ (List.mem_append_right _ h)) (by decide +kernel))
set_option maxRecDepth 20000 in
theorem gX3_join_X3_requireMemory : GoodIn wsX3_join (wsV RX3 77 RX3 yX3_requireMemory wsX3_requireMemory) := goodIn_app (goodIn_of _ (by decide +kernel)) ggX3_join_X3_requireMemory
set_option maxRecDepth 20000 in
theorem ggX3_join_X0_uniteAll : GoodIn wsX3_join wsX0_uniteAll := goodIn_r _ [14, 15, 16, 17, 18, 19, 20, 21, 22, 23, 24, 25, 26, 27, 28, 29, 30, 31, 32, 33, 34, 35, 36, 37, 38, 39, 40, 13, 41, 42, 43, 44, 45, 46, 47, 48, 49, 50, 51, 52, 53, 54, 55, 56, 57, 58, 59, 60, 61, 62, 63, 64, 65, 66, 67, 68, 69, 70, 71, 72, 78, 79, 80, 81, 82, 83, 84, 85, 86, 87, 88, 89, 90, 91, 92, 93, 94, 95, 96, 97, 98, 99] (by decide +kernel) (by decide +kernel)
set_option maxRecDepth 20000 in
theorem gX3_join_X0_uniteAll : GoodIn wsX3_join (wsV RX3 142 RX0 yX0_uniteAll wsX0_uniteAll) := goodIn_app (goodIn_of _ (by decide +kernel)) ggX3_join_X0_uniteAll
theorem dX3_join_0 : decode cX3_join 0 = .ok (.aload_n 0, 1) := by decide +kernel
theorem dX3_join_1 : decode cX3_join 1 = .ok (.invokevirtual 77, 3) := by decide +kernel
theorem dX3_join_4 : decode cX3_join 4 = .ok (.aload_n 0, 1) := by decide +kernel
theorem dX3_join_5 : decode cX3_join 5 = .ok (.getfield 19, 3) := by decide +kernel
theorem dX3_join_8 : decode cX3_join 8 = .ok (.invokevirtual 142, 3) := by decide +kernel
theorem dX3_join_11 : decode cX3_join 11 = .ok (.ireturn, 1) := by decide +kernel
set_option maxRecDepth 20000 in
theorem ggX3_nodes_X3_requireMemory : GoodIn wsX3_nodes wsX3_requireMemory := goodIn_ca (goodIn_r _ [8, 9, 10, 11, 41, 42, 43, 44, 45] (by decide +kernel) (by decide +kernel)) (goodIn_sub (fun _ h => List.mem_cons_of_mem _ (List.mem_append_right _ h)) (by decide +kernel))
set_option maxRecDepth 20000 in
theorem gX3_nodes_X3_requireMemory : GoodIn wsX3_nodes (wsV RX3 77 RX3 yX3_requireMemory wsX3_requireMemory) := goodIn_app (goodIn_of _ (by decide +kernel)) ggX3_nodes_X3_requireMemory
set_option maxRecDepth 20000 in
theorem ggX3_nodes_X3_requireReached : GoodIn wsX3_nodes wsX3_requireReached := goodIn_ca (goodIn_r _ [15, 1, 2, 3, 16, 17, 7, 18, 19, 20, 21, 22, 23, 24, 41, 42, 43, 44, 45, 46, 47, 48, 49, 50, 51, 52, 53, 54, 55, 56, 57, 58] (by decide +kernel) (by decide +kernel)) (goodIn_sub (fun _ h => List.mem_cons_of_mem _ (List.mem_append_left _ (List.mem_append_right _ h))) (by decide +kernel))
set_option maxRecDepth 20000 in
theorem gX3_nodes_X3_requireReached : GoodIn wsX3_nodes (wsV RX3 134 RX3 yX3_requireReached wsX3_requireReached) := goodIn_app (goodIn_of _ (by decide +kernel)) ggX3_nodes_X3_requireReached
set_option maxRecDepth 20000 in
theorem ggX3_nodes_X2_outermost : GoodIn wsX3_nodes wsX2_outermost := goodIn_r _ [29, 30, 31, 59, 60, 61, 62, 63, 64, 65, 66, 67] (by decide +kernel) (by decide +kernel)
set_option maxRecDepth 20000 in
theorem gX3_nodes_X2_outermost : GoodIn wsX3_nodes (wsV RX3 149 RX2 yX2_outermost wsX2_outermost) := goodIn_app (goodIn_of _ (by decide +kernel)) ggX3_nodes_X2_outermost
set_option maxRecDepth 20000 in
theorem ggX3_nodes_X3_addressOrNone : GoodIn wsX3_nodes wsX3_addressOrNone := goodIn_r _ [35, 3, 36, 37, 38, 28, 39, 40, 41, 42, 43, 44, 45, 46, 47, 48, 49, 50, 51, 52, 53, 54, 55, 56, 57, 58, 59, 60, 61, 62, 63, 64, 65, 66, 67] (by decide +kernel) (by decide +kernel)
set_option maxRecDepth 20000 in
theorem gX3_nodes_X3_addressOrNone : GoodIn wsX3_nodes (wsV RX3 95 RX3 yX3_addressOrNone wsX3_addressOrNone) := goodIn_app (goodIn_of _ (by decide +kernel)) ggX3_nodes_X3_addressOrNone
theorem dX3_nodes_0 : decode cX3_nodes 0 = .ok (.aload_n 0, 1) := by decide +kernel
theorem dX3_nodes_1 : decode cX3_nodes 1 = .ok (.invokevirtual 77, 3) := by decide +kernel
theorem dX3_nodes_4 : decode cX3_nodes 4 = .ok (.aload_n 0, 1) := by decide +kernel
theorem dX3_nodes_5 : decode cX3_nodes 5 = .ok (.iload_n 1, 1) := by decide +kernel
theorem dX3_nodes_6 : decode cX3_nodes 6 = .ok (.invokevirtual 134, 3) := by decide +kernel
theorem dX3_nodes_9 : decode cX3_nodes 9 = .ok (.iload_n 2, 1) := by decide +kernel
theorem dX3_nodes_10 : decode cX3_nodes 10 = .ok (.tableswitch 74 0 2 #[26, 36, 55], 26) := by decide +kernel
theorem dX3_nodes_36 : decode cX3_nodes 36 = .ok (.aload_n 0, 1) := by decide +kernel
theorem dX3_nodes_37 : decode cX3_nodes 37 = .ok (.getfield 19, 3) := by decide +kernel
theorem dX3_nodes_40 : decode cX3_nodes 40 = .ok (.getfield 146, 3) := by decide +kernel
theorem dX3_nodes_43 : decode cX3_nodes 43 = .ok (.iload_n 1, 1) := by decide +kernel
theorem dX3_nodes_44 : decode cX3_nodes 44 = .ok (.iaload, 1) := by decide +kernel
theorem dX3_nodes_45 : decode cX3_nodes 45 = .ok (.ireturn, 1) := by decide +kernel
theorem dX3_nodes_46 : decode cX3_nodes 46 = .ok (.aload_n 0, 1) := by decide +kernel
theorem dX3_nodes_47 : decode cX3_nodes 47 = .ok (.aload_n 0, 1) := by decide +kernel
theorem dX3_nodes_48 : decode cX3_nodes 48 = .ok (.getfield 19, 3) := by decide +kernel
theorem dX3_nodes_51 : decode cX3_nodes 51 = .ok (.getfield 111, 3) := by decide +kernel
theorem dX3_nodes_54 : decode cX3_nodes 54 = .ok (.iconst 1, 1) := by decide +kernel
theorem dX3_nodes_55 : decode cX3_nodes 55 = .ok (.iload_n 1, 1) := by decide +kernel
theorem dX3_nodes_56 : decode cX3_nodes 56 = .ok (.ishl, 1) := by decide +kernel
theorem dX3_nodes_57 : decode cX3_nodes 57 = .ok (.iconst 0, 1) := by decide +kernel
theorem dX3_nodes_58 : decode cX3_nodes 58 = .ok (.invokevirtual 149, 3) := by decide +kernel
theorem dX3_nodes_61 : decode cX3_nodes 61 = .ok (.invokevirtual 95, 3) := by decide +kernel
theorem dX3_nodes_64 : decode cX3_nodes 64 = .ok (.ireturn, 1) := by decide +kernel
theorem dX3_nodes_65 : decode cX3_nodes 65 = .ok (.aload_n 0, 1) := by decide +kernel
theorem dX3_nodes_66 : decode cX3_nodes 66 = .ok (.aload_n 0, 1) := by decide +kernel
theorem dX3_nodes_67 : decode cX3_nodes 67 = .ok (.getfield 19, 3) := by decide +kernel
theorem dX3_nodes_70 : decode cX3_nodes 70 = .ok (.getfield 111, 3) := by decide +kernel
theorem dX3_nodes_73 : decode cX3_nodes 73 = .ok (.iconst 1, 1) := by decide +kernel
theorem dX3_nodes_74 : decode cX3_nodes 74 = .ok (.iload_n 1, 1) := by decide +kernel
theorem dX3_nodes_75 : decode cX3_nodes 75 = .ok (.ishl, 1) := by decide +kernel
theorem dX3_nodes_76 : decode cX3_nodes 76 = .ok (.iconst 1, 1) := by decide +kernel
theorem dX3_nodes_77 : decode cX3_nodes 77 = .ok (.invokevirtual 149, 3) := by decide +kernel
theorem dX3_nodes_80 : decode cX3_nodes 80 = .ok (.invokevirtual 95, 3) := by decide +kernel
theorem dX3_nodes_83 : decode cX3_nodes 83 = .ok (.ireturn, 1) := by decide +kernel
theorem dX3_nodes_84 : decode cX3_nodes 84 = .ok (.new 42, 3) := by decide +kernel
theorem dX3_nodes_87 : decode cX3_nodes 87 = .ok (.dup, 1) := by decide +kernel
theorem dX3_nodes_88 : decode cX3_nodes 88 = .ok (.ldc 152, 2) := by decide +kernel
theorem dX3_nodes_90 : decode cX3_nodes 90 = .ok (.invokespecial 46, 3) := by decide +kernel
theorem dX3_nodes_93 : decode cX3_nodes 93 = .ok (.athrow, 1) := by decide +kernel
set_option maxRecDepth 20000 in
theorem ggX3_leaf_X3_requireMemory : GoodIn wsX3_leaf wsX3_requireMemory := goodIn_ca (goodIn_r _ [6, 7, 8, 9, 32, 33, 34, 35, 36] (by decide +kernel) (by decide +kernel)) (goodIn_sub (fun _ h => List.mem_cons_of_mem _ (List.mem_append_right _ h)) (by decide +kernel))
set_option maxRecDepth 20000 in
theorem gX3_leaf_X3_requireMemory : GoodIn wsX3_leaf (wsV RX3 77 RX3 yX3_requireMemory wsX3_requireMemory) := goodIn_app (goodIn_of _ (by decide +kernel)) ggX3_leaf_X3_requireMemory
set_option maxRecDepth 20000 in
theorem ggX3_leaf_X2_unsplitAt : GoodIn wsX3_leaf wsX2_unsplitAt := goodIn_r _ [14, 15, 16, 50, 51, 52, 53, 54, 55, 56, 57, 58] (by decide +kernel) (by decide +kernel)
set_option maxRecDepth 20000 in
theorem gX3_leaf_X2_unsplitAt : GoodIn wsX3_leaf (wsV RX3 154 RX2 yX2_unsplitAt wsX2_unsplitAt) := goodIn_app (goodIn_of _ (by decide +kernel)) ggX3_leaf_X2_unsplitAt
set_option maxRecDepth 20000 in
theorem ggX3_leaf_X2_addressOf : GoodIn wsX3_leaf wsX2_addressOf := goodIn_r _ [20, 21, 50, 51, 52, 53, 54, 55, 56, 57, 58] (by decide +kernel) (by decide +kernel)
set_option maxRecDepth 20000 in
theorem gX3_leaf_X2_addressOf : GoodIn wsX3_leaf (wsV RX3 157 RX2 yX2_addressOf wsX2_addressOf) := goodIn_app (goodIn_of _ (by decide +kernel)) ggX3_leaf_X2_addressOf
set_option maxRecDepth 20000 in
theorem ggX3_leaf_X2_kindOf : GoodIn wsX3_leaf wsX2_kindOf := goodIn_r _ [25, 26, 50, 51, 52, 53, 54, 55, 56, 57, 58] (by decide +kernel) (by decide +kernel)
set_option maxRecDepth 20000 in
theorem gX3_leaf_X2_kindOf : GoodIn wsX3_leaf (wsV RX3 115 RX2 yX2_kindOf wsX2_kindOf) := goodIn_app (goodIn_of _ (by decide +kernel)) ggX3_leaf_X2_kindOf
set_option maxRecDepth 20000 in
theorem ggX3_leaf_X2_requestOf : GoodIn wsX3_leaf wsX2_requestOf := goodIn_r _ [30, 31, 50, 51, 52, 53, 54, 55, 56, 57, 58] (by decide +kernel) (by decide +kernel)
set_option maxRecDepth 20000 in
theorem gX3_leaf_X2_requestOf : GoodIn wsX3_leaf (wsV RX3 120 RX2 yX2_requestOf wsX2_requestOf) := goodIn_app (goodIn_of _ (by decide +kernel)) ggX3_leaf_X2_requestOf
theorem dX3_leaf_0 : decode cX3_leaf 0 = .ok (.aload_n 0, 1) := by decide +kernel
theorem dX3_leaf_1 : decode cX3_leaf 1 = .ok (.invokevirtual 77, 3) := by decide +kernel
theorem dX3_leaf_4 : decode cX3_leaf 4 = .ok (.aload_n 0, 1) := by decide +kernel
theorem dX3_leaf_5 : decode cX3_leaf 5 = .ok (.getfield 19, 3) := by decide +kernel
theorem dX3_leaf_8 : decode cX3_leaf 8 = .ok (.getfield 111, 3) := by decide +kernel
theorem dX3_leaf_11 : decode cX3_leaf 11 = .ok (.iload_n 1, 1) := by decide +kernel
theorem dX3_leaf_12 : decode cX3_leaf 12 = .ok (.invokevirtual 154, 3) := by decide +kernel
theorem dX3_leaf_15 : decode cX3_leaf 15 = .ok (.istore_n 3, 1) := by decide +kernel
theorem dX3_leaf_16 : decode cX3_leaf 16 = .ok (.iload_n 3, 1) := by decide +kernel
theorem dX3_leaf_17 : decode cX3_leaf 17 = .ok (.ifCond .ne 5, 3) := by decide +kernel
theorem dX3_leaf_20 : decode cX3_leaf 20 = .ok (.iconst (-1), 1) := by decide +kernel
theorem dX3_leaf_21 : decode cX3_leaf 21 = .ok (.ireturn, 1) := by decide +kernel
theorem dX3_leaf_22 : decode cX3_leaf 22 = .ok (.iload_n 2, 1) := by decide +kernel
theorem dX3_leaf_23 : decode cX3_leaf 23 = .ok (.tableswitch 61 0 2 #[25, 37, 49], 25) := by decide +kernel
theorem dX3_leaf_48 : decode cX3_leaf 48 = .ok (.aload_n 0, 1) := by decide +kernel
theorem dX3_leaf_49 : decode cX3_leaf 49 = .ok (.getfield 19, 3) := by decide +kernel
theorem dX3_leaf_52 : decode cX3_leaf 52 = .ok (.getfield 111, 3) := by decide +kernel
theorem dX3_leaf_55 : decode cX3_leaf 55 = .ok (.iload_n 3, 1) := by decide +kernel
theorem dX3_leaf_56 : decode cX3_leaf 56 = .ok (.invokevirtual 157, 3) := by decide +kernel
theorem dX3_leaf_59 : decode cX3_leaf 59 = .ok (.ireturn, 1) := by decide +kernel
theorem dX3_leaf_60 : decode cX3_leaf 60 = .ok (.aload_n 0, 1) := by decide +kernel
theorem dX3_leaf_61 : decode cX3_leaf 61 = .ok (.getfield 19, 3) := by decide +kernel
theorem dX3_leaf_64 : decode cX3_leaf 64 = .ok (.getfield 111, 3) := by decide +kernel
theorem dX3_leaf_67 : decode cX3_leaf 67 = .ok (.iload_n 3, 1) := by decide +kernel
theorem dX3_leaf_68 : decode cX3_leaf 68 = .ok (.invokevirtual 115, 3) := by decide +kernel
theorem dX3_leaf_71 : decode cX3_leaf 71 = .ok (.ireturn, 1) := by decide +kernel
theorem dX3_leaf_72 : decode cX3_leaf 72 = .ok (.aload_n 0, 1) := by decide +kernel
theorem dX3_leaf_73 : decode cX3_leaf 73 = .ok (.getfield 19, 3) := by decide +kernel
theorem dX3_leaf_76 : decode cX3_leaf 76 = .ok (.getfield 111, 3) := by decide +kernel
theorem dX3_leaf_79 : decode cX3_leaf 79 = .ok (.iload_n 3, 1) := by decide +kernel
theorem dX3_leaf_80 : decode cX3_leaf 80 = .ok (.invokevirtual 120, 3) := by decide +kernel
theorem dX3_leaf_83 : decode cX3_leaf 83 = .ok (.ireturn, 1) := by decide +kernel
theorem dX3_leaf_84 : decode cX3_leaf 84 = .ok (.iconst (-1), 1) := by decide +kernel
theorem dX3_leaf_85 : decode cX3_leaf 85 = .ok (.ireturn, 1) := by decide +kernel
set_option maxRecDepth 20000 in
theorem ggX3_count_X3_requireMemory : GoodIn wsX3_count wsX3_requireMemory := goodIn_ca (goodIn_r _ [6, 7, 8, 9, 63, 64, 65, 66, 67] (by decide +kernel) (by decide +kernel)) (goodIn_sub (fun _ h => List.mem_cons_of_mem _ (List.mem_append_right _ h)) (by decide +kernel))
set_option maxRecDepth 20000 in
theorem gX3_count_X3_requireMemory : GoodIn wsX3_count (wsV RX3 77 RX3 yX3_requireMemory wsX3_requireMemory) := goodIn_app (goodIn_of _ (by decide +kernel)) ggX3_count_X3_requireMemory
set_option maxRecDepth 20000 in
theorem ggX3_count_X0_sizeOf : GoodIn wsX3_count wsX0_sizeOf := goodIn_r _ [14, 15, 16, 17, 18, 19, 20, 21, 22, 68, 69, 70, 71, 72, 73, 74, 75, 76, 77, 78, 79, 80, 81, 82, 83, 84, 85, 86, 87, 88, 89, 90, 91, 92, 93] (by decide +kernel) (by decide +kernel)
set_option maxRecDepth 20000 in
theorem gX3_count_X0_sizeOf : GoodIn wsX3_count (wsV RX3 104 RX0 yX0_sizeOf wsX0_sizeOf) := goodIn_app (goodIn_of _ (by decide +kernel)) ggX3_count_X0_sizeOf
set_option maxRecDepth 20000 in
theorem ggX3_count_X2_unsplitNodes : GoodIn wsX3_count wsX2_unsplitNodes := goodIn_r _ [26, 27, 85, 86, 87, 88, 89, 90, 91, 92, 93] (by decide +kernel) (by decide +kernel)
set_option maxRecDepth 20000 in
theorem gX3_count_X2_unsplitNodes : GoodIn wsX3_count (wsV RX3 170 RX2 yX2_unsplitNodes wsX2_unsplitNodes) := goodIn_app (goodIn_of _ (by decide +kernel)) ggX3_count_X2_unsplitNodes
set_option maxRecDepth 20000 in
theorem ggX3_count_X0_greatestIfJoined : GoodIn wsX3_count wsX0_greatestIfJoined := goodIn_r _ [31, 16, 32, 33, 34, 35, 36, 37, 38, 20, 39, 40, 41, 42, 43, 44, 45, 46, 47, 48, 49, 50, 51, 52, 53, 54, 55, 56, 57, 11, 12, 13, 14, 15, 17, 18, 19, 21, 22, 58, 68, 69, 70, 71, 72, 73, 74, 75, 76, 77, 78, 79, 80, 85, 86, 87, 88, 89, 90, 91, 92, 93, 81, 82, 83, 84] (by decide +kernel) (by decide +kernel)
set_option maxRecDepth 20000 in
theorem gX3_count_X0_greatestIfJoined : GoodIn wsX3_count (wsV RX3 173 RX0 yX0_greatestIfJoined wsX0_greatestIfJoined) := goodIn_app (goodIn_of _ (by decide +kernel)) ggX3_count_X0_greatestIfJoined
set_option maxRecDepth 20000 in
theorem ggX3_count_X0_freeNodesIfJoined : GoodIn wsX3_count wsX0_freeNodesIfJoined := goodIn_r _ [62, 16, 36, 37, 38, 20, 39, 40, 41, 42, 43, 44, 45, 46, 47, 48, 49, 50, 51, 52, 53, 54, 55, 56, 58, 68, 69, 70, 71, 72, 73, 74, 75, 76, 77, 78, 79, 80, 85, 86, 87, 88, 89, 90, 91, 92, 93] (by decide +kernel) (by decide +kernel)
set_option maxRecDepth 20000 in
theorem gX3_count_X0_freeNodesIfJoined : GoodIn wsX3_count (wsV RX3 182 RX0 yX0_freeNodesIfJoined wsX0_freeNodesIfJoined) := goodIn_app (goodIn_of _ (by decide +kernel)) ggX3_count_X0_freeNodesIfJoined
theorem dX3_count_0 : decode cX3_count 0 = .ok (.aload_n 0, 1) := by decide +kernel
theorem dX3_count_1 : decode cX3_count 1 = .ok (.invokevirtual 77, 3) := by decide +kernel
theorem dX3_count_4 : decode cX3_count 4 = .ok (.iload_n 1, 1) := by decide +kernel
theorem dX3_count_5 : decode cX3_count 5 = .ok (.tableswitch 164 0 9 #[55, 64, 72, 88, 105, 113, 132, 140, 148, 156], 55) := by decide +kernel
theorem dX3_count_60 : decode cX3_count 60 = .ok (.aload_n 0, 1) := by decide +kernel
theorem dX3_count_61 : decode cX3_count 61 = .ok (.getfield 19, 3) := by decide +kernel
theorem dX3_count_64 : decode cX3_count 64 = .ok (.iconst 1, 1) := by decide +kernel
theorem dX3_count_65 : decode cX3_count 65 = .ok (.invokevirtual 104, 3) := by decide +kernel
theorem dX3_count_68 : decode cX3_count 68 = .ok (.ireturn, 1) := by decide +kernel
theorem dX3_count_69 : decode cX3_count 69 = .ok (.aload_n 0, 1) := by decide +kernel
theorem dX3_count_70 : decode cX3_count 70 = .ok (.getfield 19, 3) := by decide +kernel
theorem dX3_count_73 : decode cX3_count 73 = .ok (.getfield 160, 3) := by decide +kernel
theorem dX3_count_76 : decode cX3_count 76 = .ok (.ireturn, 1) := by decide +kernel
theorem dX3_count_77 : decode cX3_count 77 = .ok (.aload_n 0, 1) := by decide +kernel
theorem dX3_count_78 : decode cX3_count 78 = .ok (.getfield 19, 3) := by decide +kernel
theorem dX3_count_81 : decode cX3_count 81 = .ok (.getfield 164, 3) := by decide +kernel
theorem dX3_count_84 : decode cX3_count 84 = .ok (.aload_n 0, 1) := by decide +kernel
theorem dX3_count_85 : decode cX3_count 85 = .ok (.getfield 19, 3) := by decide +kernel
theorem dX3_count_88 : decode cX3_count 88 = .ok (.getfield 160, 3) := by decide +kernel
theorem dX3_count_91 : decode cX3_count 91 = .ok (.isub, 1) := by decide +kernel
theorem dX3_count_92 : decode cX3_count 92 = .ok (.ireturn, 1) := by decide +kernel
theorem dX3_count_93 : decode cX3_count 93 = .ok (.aload_n 0, 1) := by decide +kernel
theorem dX3_count_94 : decode cX3_count 94 = .ok (.getfield 19, 3) := by decide +kernel
theorem dX3_count_97 : decode cX3_count 97 = .ok (.iconst 1, 1) := by decide +kernel
theorem dX3_count_98 : decode cX3_count 98 = .ok (.invokevirtual 104, 3) := by decide +kernel
theorem dX3_count_101 : decode cX3_count 101 = .ok (.aload_n 0, 1) := by decide +kernel
theorem dX3_count_102 : decode cX3_count 102 = .ok (.getfield 19, 3) := by decide +kernel
theorem dX3_count_105 : decode cX3_count 105 = .ok (.getfield 164, 3) := by decide +kernel
theorem dX3_count_108 : decode cX3_count 108 = .ok (.isub, 1) := by decide +kernel
theorem dX3_count_109 : decode cX3_count 109 = .ok (.ireturn, 1) := by decide +kernel
theorem dX3_count_110 : decode cX3_count 110 = .ok (.aload_n 0, 1) := by decide +kernel
theorem dX3_count_111 : decode cX3_count 111 = .ok (.getfield 19, 3) := by decide +kernel
theorem dX3_count_114 : decode cX3_count 114 = .ok (.getfield 167, 3) := by decide +kernel
theorem dX3_count_117 : decode cX3_count 117 = .ok (.ireturn, 1) := by decide +kernel
theorem dX3_count_118 : decode cX3_count 118 = .ok (.aload_n 0, 1) := by decide +kernel
theorem dX3_count_119 : decode cX3_count 119 = .ok (.getfield 19, 3) := by decide +kernel
theorem dX3_count_122 : decode cX3_count 122 = .ok (.getfield 111, 3) := by decide +kernel
theorem dX3_count_125 : decode cX3_count 125 = .ok (.invokevirtual 170, 3) := by decide +kernel
theorem dX3_count_128 : decode cX3_count 128 = .ok (.aload_n 0, 1) := by decide +kernel
theorem dX3_count_129 : decode cX3_count 129 = .ok (.getfield 19, 3) := by decide +kernel
theorem dX3_count_132 : decode cX3_count 132 = .ok (.getfield 167, 3) := by decide +kernel
theorem dX3_count_135 : decode cX3_count 135 = .ok (.isub, 1) := by decide +kernel
theorem dX3_count_136 : decode cX3_count 136 = .ok (.ireturn, 1) := by decide +kernel
theorem dX3_count_137 : decode cX3_count 137 = .ok (.aload_n 0, 1) := by decide +kernel
theorem dX3_count_138 : decode cX3_count 138 = .ok (.getfield 19, 3) := by decide +kernel
theorem dX3_count_141 : decode cX3_count 141 = .ok (.invokevirtual 173, 3) := by decide +kernel
theorem dX3_count_144 : decode cX3_count 144 = .ok (.ireturn, 1) := by decide +kernel
theorem dX3_count_145 : decode cX3_count 145 = .ok (.aload_n 0, 1) := by decide +kernel
theorem dX3_count_146 : decode cX3_count 146 = .ok (.getfield 19, 3) := by decide +kernel
theorem dX3_count_149 : decode cX3_count 149 = .ok (.getfield 176, 3) := by decide +kernel
theorem dX3_count_152 : decode cX3_count 152 = .ok (.ireturn, 1) := by decide +kernel
theorem dX3_count_153 : decode cX3_count 153 = .ok (.aload_n 0, 1) := by decide +kernel
theorem dX3_count_154 : decode cX3_count 154 = .ok (.getfield 19, 3) := by decide +kernel
theorem dX3_count_157 : decode cX3_count 157 = .ok (.getfield 179, 3) := by decide +kernel
theorem dX3_count_160 : decode cX3_count 160 = .ok (.ireturn, 1) := by decide +kernel
theorem dX3_count_161 : decode cX3_count 161 = .ok (.aload_n 0, 1) := by decide +kernel
theorem dX3_count_162 : decode cX3_count 162 = .ok (.getfield 19, 3) := by decide +kernel
theorem dX3_count_165 : decode cX3_count 165 = .ok (.invokevirtual 182, 3) := by decide +kernel
theorem dX3_count_168 : decode cX3_count 168 = .ok (.ireturn, 1) := by decide +kernel
theorem dX3_count_169 : decode cX3_count 169 = .ok (.iconst (-1), 1) := by decide +kernel
theorem dX3_count_170 : decode cX3_count 170 = .ok (.ireturn, 1) := by decide +kernel
set_option maxRecDepth 20000 in
theorem ggX3_room_X3_requireMemory : GoodIn wsX3_room wsX3_requireMemory := goodIn_ca (goodIn_r _ [6, 7, 8, 9, 64, 65, 66, 67, 68] (by decide +kernel) (by decide +kernel)) (goodIn_sub (fun _ h => List.mem_cons_of_mem _ (List.mem_append_left _ (List.mem_append_right _ h))) (by decide +kernel))
set_option maxRecDepth 20000 in
theorem gX3_room_X3_requireMemory : GoodIn wsX3_room (wsV RX3 77 RX3 yX3_requireMemory wsX3_requireMemory) := goodIn_app (goodIn_of _ (by decide +kernel)) ggX3_room_X3_requireMemory
set_option maxRecDepth 20000 in
theorem ggX3_room_X3_requireWords : GoodIn wsX3_room wsX3_requireWords := goodIn_ca (goodIn_r _ [12, 13, 14] (by decide +kernel) (by decide +kernel)) (goodIn_sub (fun _ h => List.mem_cons_of_mem _ (List.mem_append_right _ h)) (by decide +kernel))
set_option maxRecDepth 20000 in
theorem gX3_room_X3_requireWords : GoodIn wsX3_room (va_wsS RX3 89 yX3_requireWords wsX3_requireWords) := goodIn_app (goodIn_of _ (by decide +kernel)) ggX3_room_X3_requireWords
set_option maxRecDepth 20000 in
theorem ggX3_room_X0_grantsLeft : GoodIn wsX3_room wsX0_grantsLeft := goodIn_r _ [19, 20, 21, 22, 23, 24, 18, 25, 26, 27, 28, 29, 30, 31, 32, 33, 34, 35, 36, 37, 38, 39, 40, 41, 42, 43, 44, 45, 46, 47, 48, 49, 50, 51, 52, 53, 54, 55, 56, 57, 58, 59, 60, 61, 62, 63, 69, 70, 71, 72, 73, 74, 75, 76, 77, 78, 79, 80, 81, 82, 83, 84, 85, 86, 87, 88, 89, 90, 91, 92, 93, 94] (by decide +kernel) (by decide +kernel)
set_option maxRecDepth 20000 in
theorem gX3_room_X0_grantsLeft : GoodIn wsX3_room (wsV RX3 185 RX0 yX0_grantsLeft wsX0_grantsLeft) := goodIn_app (goodIn_of _ (by decide +kernel)) ggX3_room_X0_grantsLeft
theorem dX3_room_0 : decode cX3_room 0 = .ok (.aload_n 0, 1) := by decide +kernel
theorem dX3_room_1 : decode cX3_room 1 = .ok (.invokevirtual 77, 3) := by decide +kernel
theorem dX3_room_4 : decode cX3_room 4 = .ok (.iload_n 1, 1) := by decide +kernel
theorem dX3_room_5 : decode cX3_room 5 = .ok (.invokestatic 89, 3) := by decide +kernel
theorem dX3_room_8 : decode cX3_room 8 = .ok (.aload_n 0, 1) := by decide +kernel
theorem dX3_room_9 : decode cX3_room 9 = .ok (.getfield 19, 3) := by decide +kernel
theorem dX3_room_12 : decode cX3_room 12 = .ok (.iload_n 1, 1) := by decide +kernel
theorem dX3_room_13 : decode cX3_room 13 = .ok (.invokevirtual 185, 3) := by decide +kernel
theorem dX3_room_16 : decode cX3_room 16 = .ok (.ireturn, 1) := by decide +kernel
theorem dX3_load_0 : decode cX3_load 0 = .ok (.iload_n 1, 1) := by decide +kernel
theorem dX3_load_1 : decode cX3_load 1 = .ok (.ifCond .lt 10, 3) := by decide +kernel
theorem dX3_load_4 : decode cX3_load 4 = .ok (.iload_n 1, 1) := by decide +kernel
theorem dX3_load_5 : decode cX3_load 5 = .ok (.sipush 256, 3) := by decide +kernel
theorem dX3_load_8 : decode cX3_load 8 = .ok (.if_icmp .lt 13, 3) := by decide +kernel
theorem dX3_load_11 : decode cX3_load 11 = .ok (.new 42, 3) := by decide +kernel
theorem dX3_load_14 : decode cX3_load 14 = .ok (.dup, 1) := by decide +kernel
theorem dX3_load_15 : decode cX3_load 15 = .ok (.ldc 188, 2) := by decide +kernel
theorem dX3_load_17 : decode cX3_load 17 = .ok (.invokespecial 46, 3) := by decide +kernel
theorem dX3_load_20 : decode cX3_load 20 = .ok (.athrow, 1) := by decide +kernel
theorem dX3_load_21 : decode cX3_load 21 = .ok (.aload_n 0, 1) := by decide +kernel
theorem dX3_load_22 : decode cX3_load 22 = .ok (.getfield 23, 3) := by decide +kernel
theorem dX3_load_25 : decode cX3_load 25 = .ok (.iload_n 1, 1) := by decide +kernel
theorem dX3_load_26 : decode cX3_load 26 = .ok (.iload_n 2, 1) := by decide +kernel
theorem dX3_load_27 : decode cX3_load 27 = .ok (.iastore, 1) := by decide +kernel
theorem dX3_load_28 : decode cX3_load 28 = .ok (.return_, 1) := by decide +kernel
set_option maxRecDepth 20000 in
theorem ggX3_replay_X3_requireMemory : GoodIn wsX3_replay wsX3_requireMemory := goodIn_ca (goodIn_r _ [8, 9, 10, 11, 186, 187, 188, 189, 190] (by decide +kernel) (by decide +kernel)) (goodIn_sub (fun _ h => List.mem_cons_of_mem _ (List.mem_append_right _ h)) (by decide +kernel))
set_option maxRecDepth 20000 in
theorem gX3_replay_X3_requireMemory : GoodIn wsX3_replay (wsV RX3 77 RX3 yX3_requireMemory wsX3_requireMemory) := goodIn_app (goodIn_of _ (by decide +kernel)) ggX3_replay_X3_requireMemory
set_option maxRecDepth 20000 in
theorem ggX3_replay_J7_fill_53178 : GoodIn wsX3_replay wsJ7_fill_53178 := goodIn_r _ [15] (by decide +kernel) (by decide +kernel)
set_option maxRecDepth 20000 in
theorem gX3_replay_J7_fill_53178 : GoodIn wsX3_replay (va_wsS RX3 192 yJ7_fill_53178 wsJ7_fill_53178) := goodIn_app (goodIn_of _ (by decide +kernel)) ggX3_replay_J7_fill_53178
set_option maxRecDepth 20000 in
theorem ggX3_replay_X3_perform : GoodIn wsX3_replay wsX3_perform := goodIn_r _ [19, 20, 3, 21, 22, 23, 24, 25, 26, 27, 28, 29, 30, 31, 32, 33, 34, 35, 36, 37, 38, 39, 40, 41, 42, 43, 44, 45, 46, 47, 48, 49, 50, 51, 52, 53, 54, 55, 56, 57, 58, 59, 60, 61, 62, 63, 64, 65, 66, 67, 68, 69, 70, 71, 72, 73, 74, 75, 76, 77, 78, 79, 80, 81, 82, 83, 84, 85, 86, 87, 88, 89, 90, 91, 92, 93, 94, 95, 96, 97, 98, 99, 100, 101, 102, 103, 104, 105, 106, 107, 108, 109, 110, 111, 112, 113, 114, 115, 116, 117, 118, 119, 120, 121, 122, 123, 124, 125, 126, 127, 128, 129, 130, 131, 132, 133, 14, 134, 135, 136, 137, 138, 139, 140, 141, 142, 143, 144, 145, 146, 147, 148, 149, 150, 151, 152, 153, 154, 155, 156, 157, 158, 7, 159, 160, 161, 162, 163, 164, 165, 166, 167, 168, 169, 170, 171, 172, 173, 174, 175, 176, 177, 178, 179, 180, 181, 182, 183, 184, 185, 186, 187, 188, 189, 190, 191, 192, 193, 194, 195, 196, 197, 198, 199, 200, 201, 202, 203, 204, 205, 206, 207, 208, 209, 210, 211, 212, 213, 214, 215, 216] (by decide +kernel) (by decide +kernel)
set_option maxRecDepth 20000 in
theorem gX3_replay_X3_perform : GoodIn wsX3_replay (wsV RX3 198 RX3 yX3_perform wsX3_perform) := goodIn_app (goodIn_of _ (by decide +kernel)) ggX3_replay_X3_perform
theorem dX3_replay_0 : decode cX3_replay 0 = .ok (.aload_n 0, 1) := by decide +kernel
theorem dX3_replay_1 : decode cX3_replay 1 = .ok (.invokevirtual 77, 3) := by decide +kernel
theorem dX3_replay_4 : decode cX3_replay 4 = .ok (.iload_n 1, 1) := by decide +kernel
theorem dX3_replay_5 : decode cX3_replay 5 = .ok (.ifCond .lt 10, 3) := by decide +kernel
theorem dX3_replay_8 : decode cX3_replay 8 = .ok (.iload_n 1, 1) := by decide +kernel
theorem dX3_replay_9 : decode cX3_replay 9 = .ok (.sipush 256, 3) := by decide +kernel
theorem dX3_replay_12 : decode cX3_replay 12 = .ok (.if_icmp .le 13, 3) := by decide +kernel
theorem dX3_replay_15 : decode cX3_replay 15 = .ok (.new 42, 3) := by decide +kernel
theorem dX3_replay_18 : decode cX3_replay 18 = .ok (.dup, 1) := by decide +kernel
theorem dX3_replay_19 : decode cX3_replay 19 = .ok (.ldc 190, 2) := by decide +kernel
theorem dX3_replay_21 : decode cX3_replay 21 = .ok (.invokespecial 46, 3) := by decide +kernel
theorem dX3_replay_24 : decode cX3_replay 24 = .ok (.athrow, 1) := by decide +kernel
theorem dX3_replay_25 : decode cX3_replay 25 = .ok (.aload_n 0, 1) := by decide +kernel
theorem dX3_replay_26 : decode cX3_replay 26 = .ok (.getfield 27, 3) := by decide +kernel
theorem dX3_replay_29 : decode cX3_replay 29 = .ok (.iconst 0, 1) := by decide +kernel
theorem dX3_replay_30 : decode cX3_replay 30 = .ok (.invokestatic 192, 3) := by decide +kernel
theorem dX3_replay_33 : decode cX3_replay 33 = .ok (.iconst 0, 1) := by decide +kernel
theorem dX3_replay_34 : decode cX3_replay 34 = .ok (.istore_n 2, 1) := by decide +kernel
theorem dX3_replay_35 : decode cX3_replay 35 = .ok (.iload_n 2, 1) := by decide +kernel
theorem dX3_replay_36 : decode cX3_replay 36 = .ok (.iload_n 1, 1) := by decide +kernel
theorem dX3_replay_37 : decode cX3_replay 37 = .ok (.if_icmp .ge 21, 3) := by decide +kernel
theorem dX3_replay_40 : decode cX3_replay 40 = .ok (.aload_n 0, 1) := by decide +kernel
theorem dX3_replay_41 : decode cX3_replay 41 = .ok (.iload_n 2, 1) := by decide +kernel
theorem dX3_replay_42 : decode cX3_replay 42 = .ok (.invokevirtual 198, 3) := by decide +kernel
theorem dX3_replay_45 : decode cX3_replay 45 = .ok (.ifCond .ne 7, 3) := by decide +kernel
theorem dX3_replay_48 : decode cX3_replay 48 = .ok (.iconst 1, 1) := by decide +kernel
theorem dX3_replay_49 : decode cX3_replay 49 = .ok (.iload_n 2, 1) := by decide +kernel
theorem dX3_replay_50 : decode cX3_replay 50 = .ok (.iadd, 1) := by decide +kernel
theorem dX3_replay_51 : decode cX3_replay 51 = .ok (.ireturn, 1) := by decide +kernel
theorem dX3_replay_52 : decode cX3_replay 52 = .ok (.iinc 2 1, 3) := by decide +kernel
theorem dX3_replay_55 : decode cX3_replay 55 = .ok (.goto (-20), 3) := by decide +kernel
theorem dX3_replay_58 : decode cX3_replay 58 = .ok (.iconst 0, 1) := by decide +kernel
theorem dX3_replay_59 : decode cX3_replay 59 = .ok (.ireturn, 1) := by decide +kernel
set_option maxRecDepth 20000 in
theorem ggX3_perform_X0_isFull : GoodIn wsX3_perform wsX0_isFull := goodIn_r _ [8, 9, 175, 176, 177, 178, 179, 180, 181, 182, 183, 184, 185, 186, 187] (by decide +kernel) (by decide +kernel)
set_option maxRecDepth 20000 in
theorem gX3_perform_X0_isFull : GoodIn wsX3_perform (wsV RX3 80 RX0 yX0_isFull wsX0_isFull) := goodIn_app (goodIn_of _ (by decide +kernel)) ggX3_perform_X0_isFull
set_option maxRecDepth 20000 in
theorem ggX3_perform_X0_grant : GoodIn wsX3_perform wsX0_grant := goodIn_r _ [13, 14, 15, 9, 16, 17, 18, 19, 20, 7, 21, 22, 23, 24, 25, 26, 27, 28, 29, 30, 31, 32, 33, 34, 35, 36, 37, 38, 39, 40, 41, 42, 43, 44, 45, 46, 47, 48, 49, 50, 51, 52, 53, 54, 55, 56, 57, 58, 59, 60, 61, 62, 63, 64, 65, 66, 67, 68, 69, 70, 71, 72, 73, 74, 75, 76, 77, 78, 79, 80, 81, 82, 83, 84, 85, 86, 87, 88, 89, 90, 91, 92, 93, 94, 95, 96, 97, 98, 99, 100, 101, 102, 103, 104, 105, 106, 107, 108, 109, 110, 111, 112, 113, 114, 115, 116, 117, 118, 119, 120, 121, 122, 123, 124, 125, 126, 127, 128, 129, 130, 131, 132, 133, 134, 135, 136, 137, 175, 176, 177, 178, 179, 180, 181, 182, 183, 184, 185, 186, 187, 188, 189, 190, 191, 192, 193, 194, 195, 196, 197, 198, 199, 200] (by decide +kernel) (by decide +kernel)
set_option maxRecDepth 20000 in
theorem gX3_perform_X0_grant : GoodIn wsX3_perform (wsV RX3 92 RX0 yX0_grant wsX0_grant) := goodIn_app (goodIn_of _ (by decide +kernel)) ggX3_perform_X0_grant
set_option maxRecDepth 20000 in
theorem ggX3_perform_X0_uniteAll : GoodIn wsX3_perform wsX0_uniteAll := goodIn_r _ [39, 40, 15, 41, 42, 43, 28, 44, 30, 35, 45, 46, 47, 48, 49, 50, 51, 52, 53, 54, 55, 56, 57, 58, 59, 60, 61, 7, 62, 14, 63, 64, 65, 66, 67, 68, 69, 70, 71, 72, 73, 74, 75, 76, 77, 78, 79, 80, 81, 82, 83, 84, 85, 86, 87, 88, 89, 90, 91, 92, 175, 176, 177, 178, 179, 180, 181, 182, 183, 184, 185, 186, 187, 192, 193, 194, 195, 196, 197, 198, 199, 200] (by decide +kernel) (by decide +kernel)
set_option maxRecDepth 20000 in
theorem gX3_perform_X0_uniteAll : GoodIn wsX3_perform (wsV RX3 142 RX0 yX0_uniteAll wsX0_uniteAll) := goodIn_app (goodIn_of _ (by decide +kernel)) ggX3_perform_X0_uniteAll
set_option maxRecDepth 20000 in
theorem ggX3_perform_X3_takeBack : GoodIn wsX3_perform wsX3_takeBack := goodIn_r _ [143, 2, 3, 144, 145, 146, 7, 147, 9, 16, 15, 17, 14, 148, 149, 150, 28, 151, 53, 134, 135, 136, 137, 24, 67, 68, 69, 70, 71, 133, 85, 86, 87, 30, 88, 152, 153, 154, 155, 156, 157, 158, 159, 160, 161, 162, 163, 164, 165, 50, 51, 52, 35, 166, 167, 168, 169, 76, 59, 60, 61, 62, 40, 63, 64, 65, 66, 72, 73, 74, 75, 77, 78, 79, 80, 81, 82, 83, 84, 89, 90, 91, 92, 45, 46, 47, 48, 49, 170, 171, 172, 173, 174, 175, 176, 177, 178, 179, 180, 181, 182, 183, 184, 185, 186, 187, 192, 193, 194, 195, 196, 197, 198, 199, 200, 188, 189, 190, 191] (by decide +kernel) (by decide +kernel)
set_option maxRecDepth 20000 in
theorem gX3_perform_X3_takeBack : GoodIn wsX3_perform (wsV RX3 201 RX3 yX3_takeBack wsX3_takeBack) := goodIn_app (goodIn_of _ (by decide +kernel)) ggX3_perform_X3_takeBack
theorem dX3_perform_0 : decode cX3_perform 0 = .ok (.aload_n 0, 1) := by decide +kernel
theorem dX3_perform_1 : decode cX3_perform 1 = .ok (.getfield 23, 3) := by decide +kernel
theorem dX3_perform_4 : decode cX3_perform 4 = .ok (.iload_n 1, 1) := by decide +kernel
theorem dX3_perform_5 : decode cX3_perform 5 = .ok (.iaload, 1) := by decide +kernel
theorem dX3_perform_6 : decode cX3_perform 6 = .ok (.istore_n 2, 1) := by decide +kernel
theorem dX3_perform_7 : decode cX3_perform 7 = .ok (.iload_n 2, 1) := by decide +kernel
theorem dX3_perform_8 : decode cX3_perform 8 = .ok (.ifCond .le 46, 3) := by decide +kernel
theorem dX3_perform_11 : decode cX3_perform 11 = .ok (.aload_n 0, 1) := by decide +kernel
theorem dX3_perform_12 : decode cX3_perform 12 = .ok (.getfield 27, 3) := by decide +kernel
theorem dX3_perform_15 : decode cX3_perform 15 = .ok (.iload_n 1, 1) := by decide +kernel
theorem dX3_perform_16 : decode cX3_perform 16 = .ok (.aload_n 0, 1) := by decide +kernel
theorem dX3_perform_17 : decode cX3_perform 17 = .ok (.getfield 19, 3) := by decide +kernel
theorem dX3_perform_20 : decode cX3_perform 20 = .ok (.invokevirtual 80, 3) := by decide +kernel
theorem dX3_perform_23 : decode cX3_perform 23 = .ok (.ifCond .eq 7, 3) := by decide +kernel
theorem dX3_perform_26 : decode cX3_perform 26 = .ok (.iconst 0, 1) := by decide +kernel
theorem dX3_perform_27 : decode cX3_perform 27 = .ok (.goto 11, 3) := by decide +kernel
theorem dX3_perform_30 : decode cX3_perform 30 = .ok (.aload_n 0, 1) := by decide +kernel
theorem dX3_perform_31 : decode cX3_perform 31 = .ok (.getfield 19, 3) := by decide +kernel
theorem dX3_perform_34 : decode cX3_perform 34 = .ok (.iload_n 2, 1) := by decide +kernel
theorem dX3_perform_35 : decode cX3_perform 35 = .ok (.invokevirtual 92, 3) := by decide +kernel
theorem dX3_perform_38 : decode cX3_perform 38 = .ok (.iastore, 1) := by decide +kernel
theorem dX3_perform_39 : decode cX3_perform 39 = .ok (.aload_n 0, 1) := by decide +kernel
theorem dX3_perform_40 : decode cX3_perform 40 = .ok (.getfield 27, 3) := by decide +kernel
theorem dX3_perform_43 : decode cX3_perform 43 = .ok (.iload_n 1, 1) := by decide +kernel
theorem dX3_perform_44 : decode cX3_perform 44 = .ok (.iaload, 1) := by decide +kernel
theorem dX3_perform_45 : decode cX3_perform 45 = .ok (.ifCond .eq 7, 3) := by decide +kernel
theorem dX3_perform_48 : decode cX3_perform 48 = .ok (.iconst 1, 1) := by decide +kernel
theorem dX3_perform_49 : decode cX3_perform 49 = .ok (.goto 4, 3) := by decide +kernel
theorem dX3_perform_52 : decode cX3_perform 52 = .ok (.iconst 0, 1) := by decide +kernel
theorem dX3_perform_53 : decode cX3_perform 53 = .ok (.ireturn, 1) := by decide +kernel
theorem dX3_perform_54 : decode cX3_perform 54 = .ok (.iload_n 2, 1) := by decide +kernel
theorem dX3_perform_55 : decode cX3_perform 55 = .ok (.ifCond .ne 13, 3) := by decide +kernel
theorem dX3_perform_58 : decode cX3_perform 58 = .ok (.aload_n 0, 1) := by decide +kernel
theorem dX3_perform_59 : decode cX3_perform 59 = .ok (.getfield 19, 3) := by decide +kernel
theorem dX3_perform_62 : decode cX3_perform 62 = .ok (.invokevirtual 142, 3) := by decide +kernel
theorem dX3_perform_65 : decode cX3_perform 65 = .ok (.pop, 1) := by decide +kernel
theorem dX3_perform_66 : decode cX3_perform 66 = .ok (.iconst 1, 1) := by decide +kernel
theorem dX3_perform_67 : decode cX3_perform 67 = .ok (.ireturn, 1) := by decide +kernel
theorem dX3_perform_68 : decode cX3_perform 68 = .ok (.aload_n 0, 1) := by decide +kernel
theorem dX3_perform_69 : decode cX3_perform 69 = .ok (.iconst (-1), 1) := by decide +kernel
theorem dX3_perform_70 : decode cX3_perform 70 = .ok (.iload_n 2, 1) := by decide +kernel
theorem dX3_perform_71 : decode cX3_perform 71 = .ok (.isub, 1) := by decide +kernel
theorem dX3_perform_72 : decode cX3_perform 72 = .ok (.invokevirtual 201, 3) := by decide +kernel
theorem dX3_perform_75 : decode cX3_perform 75 = .ok (.ireturn, 1) := by decide +kernel
set_option maxRecDepth 20000 in
theorem ggX3_takeBack_X0_release : GoodIn wsX3_takeBack wsX0_release := goodIn_r _ [7, 8, 9, 10, 11, 12, 13, 14, 15, 16, 17, 18, 19, 20, 21, 6, 22, 23, 24, 25, 26, 27, 28, 29, 30, 31, 32, 33, 34, 35, 36, 37, 38, 39, 40, 41, 42, 43, 44, 45, 46, 47, 48, 49, 50, 51, 52, 53, 54, 55, 56, 57, 58, 59, 60, 61, 62, 63, 64, 65, 66, 67, 68, 69, 70, 71, 72, 73, 74, 75, 76, 77, 78, 79, 80, 81, 82, 83, 84, 85, 86, 87, 93, 94, 95, 96, 97, 98, 99, 100, 101, 102, 103, 104, 105, 106, 107, 108, 109, 110, 111, 112, 113, 114, 115, 116, 117, 118] (by decide +kernel) (by decide +kernel)
set_option maxRecDepth 20000 in
theorem gX3_takeBack_X0_release : GoodIn wsX3_takeBack (wsV RX3 101 RX0 yX0_release wsX0_release) := goodIn_app (goodIn_of _ (by decide +kernel)) ggX3_takeBack_X0_release
theorem dX3_takeBack_0 : decode cX3_takeBack 0 = .ok (.iload_n 1, 1) := by decide +kernel
theorem dX3_takeBack_1 : decode cX3_takeBack 1 = .ok (.sipush 256, 3) := by decide +kernel
theorem dX3_takeBack_4 : decode cX3_takeBack 4 = .ok (.if_icmp .ge 12, 3) := by decide +kernel
theorem dX3_takeBack_7 : decode cX3_takeBack 7 = .ok (.aload_n 0, 1) := by decide +kernel
theorem dX3_takeBack_8 : decode cX3_takeBack 8 = .ok (.getfield 27, 3) := by decide +kernel
theorem dX3_takeBack_11 : decode cX3_takeBack 11 = .ok (.iload_n 1, 1) := by decide +kernel
theorem dX3_takeBack_12 : decode cX3_takeBack 12 = .ok (.iaload, 1) := by decide +kernel
theorem dX3_takeBack_13 : decode cX3_takeBack 13 = .ok (.ifCond .ne 5, 3) := by decide +kernel
theorem dX3_takeBack_16 : decode cX3_takeBack 16 = .ok (.iconst 0, 1) := by decide +kernel
theorem dX3_takeBack_17 : decode cX3_takeBack 17 = .ok (.ireturn, 1) := by decide +kernel
theorem dX3_takeBack_18 : decode cX3_takeBack 18 = .ok (.aload_n 0, 1) := by decide +kernel
theorem dX3_takeBack_19 : decode cX3_takeBack 19 = .ok (.getfield 19, 3) := by decide +kernel
theorem dX3_takeBack_22 : decode cX3_takeBack 22 = .ok (.aload_n 0, 1) := by decide +kernel
theorem dX3_takeBack_23 : decode cX3_takeBack 23 = .ok (.getfield 27, 3) := by decide +kernel
theorem dX3_takeBack_26 : decode cX3_takeBack 26 = .ok (.iload_n 1, 1) := by decide +kernel
theorem dX3_takeBack_27 : decode cX3_takeBack 27 = .ok (.iaload, 1) := by decide +kernel
theorem dX3_takeBack_28 : decode cX3_takeBack 28 = .ok (.invokevirtual 101, 3) := by decide +kernel
theorem dX3_takeBack_31 : decode cX3_takeBack 31 = .ok (.aload_n 0, 1) := by decide +kernel
theorem dX3_takeBack_32 : decode cX3_takeBack 32 = .ok (.getfield 27, 3) := by decide +kernel
theorem dX3_takeBack_35 : decode cX3_takeBack 35 = .ok (.iload_n 1, 1) := by decide +kernel
theorem dX3_takeBack_36 : decode cX3_takeBack 36 = .ok (.iconst 0, 1) := by decide +kernel
theorem dX3_takeBack_37 : decode cX3_takeBack 37 = .ok (.iastore, 1) := by decide +kernel
theorem dX3_takeBack_38 : decode cX3_takeBack 38 = .ok (.iconst 1, 1) := by decide +kernel
theorem dX3_takeBack_39 : decode cX3_takeBack 39 = .ok (.ireturn, 1) := by decide +kernel
set_option maxRecDepth 20000 in
theorem ggX3_addressOrNone_X2_addressOf : GoodIn wsX3_addressOrNone wsX2_addressOf := goodIn_r _ [6, 7, 26, 27, 28, 29, 30, 31, 32, 33, 34] (by decide +kernel) (by decide +kernel)
set_option maxRecDepth 20000 in
theorem gX3_addressOrNone_X2_addressOf : GoodIn wsX3_addressOrNone (wsV RX3 157 RX2 yX2_addressOf wsX2_addressOf) := goodIn_app (goodIn_of _ (by decide +kernel)) ggX3_addressOrNone_X2_addressOf
theorem dX3_addressOrNone_0 : decode cX3_addressOrNone 0 = .ok (.iload_n 1, 1) := by decide +kernel
theorem dX3_addressOrNone_1 : decode cX3_addressOrNone 1 = .ok (.ifCond .ne 7, 3) := by decide +kernel
theorem dX3_addressOrNone_4 : decode cX3_addressOrNone 4 = .ok (.iconst (-1), 1) := by decide +kernel
theorem dX3_addressOrNone_5 : decode cX3_addressOrNone 5 = .ok (.goto 14, 3) := by decide +kernel
theorem dX3_addressOrNone_8 : decode cX3_addressOrNone 8 = .ok (.aload_n 0, 1) := by decide +kernel
theorem dX3_addressOrNone_9 : decode cX3_addressOrNone 9 = .ok (.getfield 19, 3) := by decide +kernel
theorem dX3_addressOrNone_12 : decode cX3_addressOrNone 12 = .ok (.getfield 111, 3) := by decide +kernel
theorem dX3_addressOrNone_15 : decode cX3_addressOrNone 15 = .ok (.iload_n 1, 1) := by decide +kernel
theorem dX3_addressOrNone_16 : decode cX3_addressOrNone 16 = .ok (.invokevirtual 157, 3) := by decide +kernel
theorem dX3_addressOrNone_19 : decode cX3_addressOrNone 19 = .ok (.ireturn, 1) := by decide +kernel
theorem dX3_requireMemory_0 : decode cX3_requireMemory 0 = .ok (.aload_n 0, 1) := by decide +kernel
theorem dX3_requireMemory_1 : decode cX3_requireMemory 1 = .ok (.getfield 30, 3) := by decide +kernel
theorem dX3_requireMemory_4 : decode cX3_requireMemory 4 = .ok (.ifCond .ne 13, 3) := by decide +kernel
theorem dX3_requireMemory_7 : decode cX3_requireMemory 7 = .ok (.new 84, 3) := by decide +kernel
theorem dX3_requireMemory_10 : decode cX3_requireMemory 10 = .ok (.dup, 1) := by decide +kernel
theorem dX3_requireMemory_11 : decode cX3_requireMemory 11 = .ok (.ldc 204, 2) := by decide +kernel
theorem dX3_requireMemory_13 : decode cX3_requireMemory 13 = .ok (.invokespecial 88, 3) := by decide +kernel
theorem dX3_requireMemory_16 : decode cX3_requireMemory 16 = .ok (.athrow, 1) := by decide +kernel
theorem dX3_requireMemory_17 : decode cX3_requireMemory 17 = .ok (.return_, 1) := by decide +kernel
set_option maxRecDepth 20000 in
theorem ggX3_requireBlock_X3_requireMemory : GoodIn wsX3_requireBlock wsX3_requireMemory := goodIn_ca (goodIn_r _ [8, 9, 10, 11, 20, 21, 22, 23, 24] (by decide +kernel) (by decide +kernel)) (goodIn_sub (fun _ h => List.mem_cons_of_mem _ (List.mem_append_right _ h)) (by decide +kernel))
set_option maxRecDepth 20000 in
theorem gX3_requireBlock_X3_requireMemory : GoodIn wsX3_requireBlock (wsV RX3 77 RX3 yX3_requireMemory wsX3_requireMemory) := goodIn_app (goodIn_of _ (by decide +kernel)) ggX3_requireBlock_X3_requireMemory
set_option maxRecDepth 20000 in
theorem ggX3_requireBlock_X2_liveAt : GoodIn wsX3_requireBlock wsX2_liveAt := goodIn_r _ [16, 17, 18, 19, 38, 39, 40, 41, 42, 43, 44, 45, 46] (by decide +kernel) (by decide +kernel)
set_option maxRecDepth 20000 in
theorem gX3_requireBlock_X2_liveAt : GoodIn wsX3_requireBlock (wsV RX3 206 RX2 yX2_liveAt wsX2_liveAt) := goodIn_app (goodIn_of _ (by decide +kernel)) ggX3_requireBlock_X2_liveAt
theorem dX3_requireBlock_0 : decode cX3_requireBlock 0 = .ok (.aload_n 0, 1) := by decide +kernel
theorem dX3_requireBlock_1 : decode cX3_requireBlock 1 = .ok (.invokevirtual 77, 3) := by decide +kernel
theorem dX3_requireBlock_4 : decode cX3_requireBlock 4 = .ok (.aload_n 0, 1) := by decide +kernel
theorem dX3_requireBlock_5 : decode cX3_requireBlock 5 = .ok (.getfield 19, 3) := by decide +kernel
theorem dX3_requireBlock_8 : decode cX3_requireBlock 8 = .ok (.getfield 111, 3) := by decide +kernel
theorem dX3_requireBlock_11 : decode cX3_requireBlock 11 = .ok (.iload_n 1, 1) := by decide +kernel
theorem dX3_requireBlock_12 : decode cX3_requireBlock 12 = .ok (.invokevirtual 206, 3) := by decide +kernel
theorem dX3_requireBlock_15 : decode cX3_requireBlock 15 = .ok (.istore_n 2, 1) := by decide +kernel
theorem dX3_requireBlock_16 : decode cX3_requireBlock 16 = .ok (.iload_n 2, 1) := by decide +kernel
theorem dX3_requireBlock_17 : decode cX3_requireBlock 17 = .ok (.ifCond .ne 13, 3) := by decide +kernel
theorem dX3_requireBlock_20 : decode cX3_requireBlock 20 = .ok (.new 42, 3) := by decide +kernel
theorem dX3_requireBlock_23 : decode cX3_requireBlock 23 = .ok (.dup, 1) := by decide +kernel
theorem dX3_requireBlock_24 : decode cX3_requireBlock 24 = .ok (.ldc 209, 2) := by decide +kernel
theorem dX3_requireBlock_26 : decode cX3_requireBlock 26 = .ok (.invokespecial 46, 3) := by decide +kernel
theorem dX3_requireBlock_29 : decode cX3_requireBlock 29 = .ok (.athrow, 1) := by decide +kernel
theorem dX3_requireBlock_30 : decode cX3_requireBlock 30 = .ok (.iload_n 2, 1) := by decide +kernel
theorem dX3_requireBlock_31 : decode cX3_requireBlock 31 = .ok (.ireturn, 1) := by decide +kernel
set_option maxRecDepth 20000 in
theorem ggX3_requireReached_X3_isClass : GoodIn wsX3_requireReached wsX3_isClass := goodIn_r _ [7] (by decide +kernel) (by decide +kernel)
set_option maxRecDepth 20000 in
theorem gX3_requireReached_X3_isClass : GoodIn wsX3_requireReached (va_wsS RX3 211 yX3_isClass wsX3_isClass) := goodIn_app (goodIn_of _ (by decide +kernel)) ggX3_requireReached_X3_isClass
set_option maxRecDepth 20000 in
theorem ggX3_requireReached_X0_reaches : GoodIn wsX3_requireReached wsX0_reaches := goodIn_r _ [12, 13, 19, 20, 21, 22, 23, 24, 25, 26, 27, 28, 29, 30, 31] (by decide +kernel) (by decide +kernel)
set_option maxRecDepth 20000 in
theorem gX3_requireReached_X0_reaches : GoodIn wsX3_requireReached (wsV RX3 214 RX0 yX0_reaches wsX0_reaches) := goodIn_app (goodIn_of _ (by decide +kernel)) ggX3_requireReached_X0_reaches
theorem dX3_requireReached_0 : decode cX3_requireReached 0 = .ok (.iload_n 1, 1) := by decide +kernel
theorem dX3_requireReached_1 : decode cX3_requireReached 1 = .ok (.invokestatic 211, 3) := by decide +kernel
theorem dX3_requireReached_4 : decode cX3_requireReached 4 = .ok (.ifCond .eq 14, 3) := by decide +kernel
theorem dX3_requireReached_7 : decode cX3_requireReached 7 = .ok (.aload_n 0, 1) := by decide +kernel
theorem dX3_requireReached_8 : decode cX3_requireReached 8 = .ok (.getfield 19, 3) := by decide +kernel
theorem dX3_requireReached_11 : decode cX3_requireReached 11 = .ok (.iload_n 1, 1) := by decide +kernel
theorem dX3_requireReached_12 : decode cX3_requireReached 12 = .ok (.invokevirtual 214, 3) := by decide +kernel
theorem dX3_requireReached_15 : decode cX3_requireReached 15 = .ok (.ifCond .ne 13, 3) := by decide +kernel
theorem dX3_requireReached_18 : decode cX3_requireReached 18 = .ok (.new 42, 3) := by decide +kernel
theorem dX3_requireReached_21 : decode cX3_requireReached 21 = .ok (.dup, 1) := by decide +kernel
theorem dX3_requireReached_22 : decode cX3_requireReached 22 = .ok (.ldc 217, 2) := by decide +kernel
theorem dX3_requireReached_24 : decode cX3_requireReached 24 = .ok (.invokespecial 46, 3) := by decide +kernel
theorem dX3_requireReached_27 : decode cX3_requireReached 27 = .ok (.athrow, 1) := by decide +kernel
theorem dX3_requireReached_28 : decode cX3_requireReached 28 = .ok (.return_, 1) := by decide +kernel
set_option maxRecDepth 20000 in
theorem ggX3_requireClass_X3_isClass : GoodIn wsX3_requireClass wsX3_isClass := goodIn_r _ [6] (by decide +kernel) (by decide +kernel)
set_option maxRecDepth 20000 in
theorem gX3_requireClass_X3_isClass : GoodIn wsX3_requireClass (va_wsS RX3 211 yX3_isClass wsX3_isClass) := goodIn_app (goodIn_of _ (by decide +kernel)) ggX3_requireClass_X3_isClass
theorem dX3_requireClass_0 : decode cX3_requireClass 0 = .ok (.iload_n 0, 1) := by decide +kernel
theorem dX3_requireClass_1 : decode cX3_requireClass 1 = .ok (.invokestatic 211, 3) := by decide +kernel
theorem dX3_requireClass_4 : decode cX3_requireClass 4 = .ok (.ifCond .ne 13, 3) := by decide +kernel
theorem dX3_requireClass_7 : decode cX3_requireClass 7 = .ok (.new 42, 3) := by decide +kernel
theorem dX3_requireClass_10 : decode cX3_requireClass 10 = .ok (.dup, 1) := by decide +kernel
theorem dX3_requireClass_11 : decode cX3_requireClass 11 = .ok (.ldc 219, 2) := by decide +kernel
theorem dX3_requireClass_13 : decode cX3_requireClass 13 = .ok (.invokespecial 46, 3) := by decide +kernel
theorem dX3_requireClass_16 : decode cX3_requireClass 16 = .ok (.athrow, 1) := by decide +kernel
theorem dX3_requireClass_17 : decode cX3_requireClass 17 = .ok (.return_, 1) := by decide +kernel
theorem dX3_requireWords_0 : decode cX3_requireWords 0 = .ok (.iload_n 0, 1) := by decide +kernel
theorem dX3_requireWords_1 : decode cX3_requireWords 1 = .ok (.iconst 1, 1) := by decide +kernel
theorem dX3_requireWords_2 : decode cX3_requireWords 2 = .ok (.if_icmp .ge 13, 3) := by decide +kernel
theorem dX3_requireWords_5 : decode cX3_requireWords 5 = .ok (.new 42, 3) := by decide +kernel
theorem dX3_requireWords_8 : decode cX3_requireWords 8 = .ok (.dup, 1) := by decide +kernel
theorem dX3_requireWords_9 : decode cX3_requireWords 9 = .ok (.ldc 221, 2) := by decide +kernel
theorem dX3_requireWords_11 : decode cX3_requireWords 11 = .ok (.invokespecial 46, 3) := by decide +kernel
theorem dX3_requireWords_14 : decode cX3_requireWords 14 = .ok (.athrow, 1) := by decide +kernel
theorem dX3_requireWords_15 : decode cX3_requireWords 15 = .ok (.return_, 1) := by decide +kernel
theorem dX3_isClass_0 : decode cX3_isClass 0 = .ok (.iload_n 0, 1) := by decide +kernel
theorem dX3_isClass_1 : decode cX3_isClass 1 = .ok (.iconst 1, 1) := by decide +kernel
theorem dX3_isClass_2 : decode cX3_isClass 2 = .ok (.if_icmp .lt 13, 3) := by decide +kernel
theorem dX3_isClass_5 : decode cX3_isClass 5 = .ok (.iload_n 0, 1) := by decide +kernel
theorem dX3_isClass_6 : decode cX3_isClass 6 = .ok (.bipush 24, 2) := by decide +kernel
theorem dX3_isClass_8 : decode cX3_isClass 8 = .ok (.if_icmp .gt 7, 3) := by decide +kernel
theorem dX3_isClass_11 : decode cX3_isClass 11 = .ok (.iconst 1, 1) := by decide +kernel
theorem dX3_isClass_12 : decode cX3_isClass 12 = .ok (.goto 4, 3) := by decide +kernel
theorem dX3_isClass_15 : decode cX3_isClass 15 = .ok (.iconst 0, 1) := by decide +kernel
theorem dX3_isClass_16 : decode cX3_isClass 16 = .ok (.ireturn, 1) := by decide +kernel
theorem dX3_isSize_0 : decode cX3_isSize 0 = .ok (.iload_n 0, 1) := by decide +kernel
theorem dX3_isSize_1 : decode cX3_isSize 1 = .ok (.iconst 4, 1) := by decide +kernel
theorem dX3_isSize_2 : decode cX3_isSize 2 = .ok (.if_icmp .lt 13, 3) := by decide +kernel
theorem dX3_isSize_5 : decode cX3_isSize 5 = .ok (.iload_n 0, 1) := by decide +kernel
theorem dX3_isSize_6 : decode cX3_isSize 6 = .ok (.ldc 223, 2) := by decide +kernel
theorem dX3_isSize_8 : decode cX3_isSize 8 = .ok (.if_icmp .gt 7, 3) := by decide +kernel
theorem dX3_isSize_11 : decode cX3_isSize 11 = .ok (.iconst 1, 1) := by decide +kernel
theorem dX3_isSize_12 : decode cX3_isSize 12 = .ok (.goto 4, 3) := by decide +kernel
theorem dX3_isSize_15 : decode cX3_isSize 15 = .ok (.iconst 0, 1) := by decide +kernel
theorem dX3_isSize_16 : decode cX3_isSize 16 = .ok (.ireturn, 1) := by decide +kernel
theorem dX4_init_0 : decode cX4_init 0 = .ok (.aload_n 0, 1) := by decide +kernel
theorem dX4_init_1 : decode cX4_init 1 = .ok (.invokespecial 1, 3) := by decide +kernel
theorem dX4_init_4 : decode cX4_init 4 = .ok (.aload_n 0, 1) := by decide +kernel
theorem dX4_init_5 : decode cX4_init 5 = .ok (.bipush 25, 2) := by decide +kernel
theorem dX4_init_7 : decode cX4_init 7 = .ok (.newarray .int, 2) := by decide +kernel
theorem dX4_init_9 : decode cX4_init 9 = .ok (.putfield 7, 3) := by decide +kernel
theorem dX4_init_12 : decode cX4_init 12 = .ok (.aload_n 0, 1) := by decide +kernel
theorem dX4_init_13 : decode cX4_init 13 = .ok (.bipush 25, 2) := by decide +kernel
theorem dX4_init_15 : decode cX4_init 15 = .ok (.newarray .int, 2) := by decide +kernel
theorem dX4_init_17 : decode cX4_init 17 = .ok (.putfield 13, 3) := by decide +kernel
theorem dX4_init_20 : decode cX4_init 20 = .ok (.aload_n 0, 1) := by decide +kernel
theorem dX4_init_21 : decode cX4_init 21 = .ok (.bipush 25, 2) := by decide +kernel
theorem dX4_init_23 : decode cX4_init 23 = .ok (.newarray .int, 2) := by decide +kernel
theorem dX4_init_25 : decode cX4_init 25 = .ok (.putfield 16, 3) := by decide +kernel
theorem dX4_init_28 : decode cX4_init 28 = .ok (.aload_n 0, 1) := by decide +kernel
theorem dX4_init_29 : decode cX4_init 29 = .ok (.bipush 25, 2) := by decide +kernel
theorem dX4_init_31 : decode cX4_init 31 = .ok (.newarray .int, 2) := by decide +kernel
theorem dX4_init_33 : decode cX4_init 33 = .ok (.putfield 19, 3) := by decide +kernel
theorem dX4_init_36 : decode cX4_init 36 = .ok (.aload_n 0, 1) := by decide +kernel
theorem dX4_init_37 : decode cX4_init 37 = .ok (.bipush 25, 2) := by decide +kernel
theorem dX4_init_39 : decode cX4_init 39 = .ok (.newarray .int, 2) := by decide +kernel
theorem dX4_init_41 : decode cX4_init 41 = .ok (.putfield 22, 3) := by decide +kernel
theorem dX4_init_44 : decode cX4_init 44 = .ok (.aload_n 0, 1) := by decide +kernel
theorem dX4_init_45 : decode cX4_init 45 = .ok (.bipush 25, 2) := by decide +kernel
theorem dX4_init_47 : decode cX4_init 47 = .ok (.newarray .int, 2) := by decide +kernel
theorem dX4_init_49 : decode cX4_init 49 = .ok (.putfield 25, 3) := by decide +kernel
theorem dX4_init_52 : decode cX4_init 52 = .ok (.aload_n 0, 1) := by decide +kernel
theorem dX4_init_53 : decode cX4_init 53 = .ok (.bipush 25, 2) := by decide +kernel
theorem dX4_init_55 : decode cX4_init 55 = .ok (.newarray .boolean, 2) := by decide +kernel
theorem dX4_init_57 : decode cX4_init 57 = .ok (.putfield 28, 3) := by decide +kernel
theorem dX4_init_60 : decode cX4_init 60 = .ok (.aload_n 0, 1) := by decide +kernel
theorem dX4_init_61 : decode cX4_init 61 = .ok (.bipush 25, 2) := by decide +kernel
theorem dX4_init_63 : decode cX4_init 63 = .ok (.newarray .boolean, 2) := by decide +kernel
theorem dX4_init_65 : decode cX4_init 65 = .ok (.putfield 32, 3) := by decide +kernel
theorem dX4_init_68 : decode cX4_init 68 = .ok (.aload_n 0, 1) := by decide +kernel
theorem dX4_init_69 : decode cX4_init 69 = .ok (.bipush 25, 2) := by decide +kernel
theorem dX4_init_71 : decode cX4_init 71 = .ok (.newarray .int, 2) := by decide +kernel
theorem dX4_init_73 : decode cX4_init 73 = .ok (.putfield 35, 3) := by decide +kernel
theorem dX4_init_76 : decode cX4_init 76 = .ok (.aload_n 0, 1) := by decide +kernel
theorem dX4_init_77 : decode cX4_init 77 = .ok (.sipush 14000, 3) := by decide +kernel
theorem dX4_init_80 : decode cX4_init 80 = .ok (.newarray .long, 2) := by decide +kernel
theorem dX4_init_82 : decode cX4_init 82 = .ok (.putfield 38, 3) := by decide +kernel
theorem dX4_init_85 : decode cX4_init 85 = .ok (.aload_n 0, 1) := by decide +kernel
theorem dX4_init_86 : decode cX4_init 86 = .ok (.sipush 256, 3) := by decide +kernel
theorem dX4_init_89 : decode cX4_init 89 = .ok (.newarray .int, 2) := by decide +kernel
theorem dX4_init_91 : decode cX4_init 91 = .ok (.putfield 42, 3) := by decide +kernel
theorem dX4_init_94 : decode cX4_init 94 = .ok (.aload_n 0, 1) := by decide +kernel
theorem dX4_init_95 : decode cX4_init 95 = .ok (.sipush 256, 3) := by decide +kernel
theorem dX4_init_98 : decode cX4_init 98 = .ok (.newarray .int, 2) := by decide +kernel
theorem dX4_init_100 : decode cX4_init 100 = .ok (.putfield 45, 3) := by decide +kernel
theorem dX4_init_103 : decode cX4_init 103 = .ok (.aload_n 0, 1) := by decide +kernel
theorem dX4_init_104 : decode cX4_init 104 = .ok (.sipush 256, 3) := by decide +kernel
theorem dX4_init_107 : decode cX4_init 107 = .ok (.newarray .int, 2) := by decide +kernel
theorem dX4_init_109 : decode cX4_init 109 = .ok (.putfield 48, 3) := by decide +kernel
theorem dX4_init_112 : decode cX4_init 112 = .ok (.aload_n 0, 1) := by decide +kernel
theorem dX4_init_113 : decode cX4_init 113 = .ok (.sipush 256, 3) := by decide +kernel
theorem dX4_init_116 : decode cX4_init 116 = .ok (.newarray .int, 2) := by decide +kernel
theorem dX4_init_118 : decode cX4_init 118 = .ok (.putfield 51, 3) := by decide +kernel
theorem dX4_init_121 : decode cX4_init 121 = .ok (.aload_n 0, 1) := by decide +kernel
theorem dX4_init_122 : decode cX4_init 122 = .ok (.bipush 25, 2) := by decide +kernel
theorem dX4_init_124 : decode cX4_init 124 = .ok (.newarray .long, 2) := by decide +kernel
theorem dX4_init_126 : decode cX4_init 126 = .ok (.putfield 54, 3) := by decide +kernel
theorem dX4_init_129 : decode cX4_init 129 = .ok (.aload_n 0, 1) := by decide +kernel
theorem dX4_init_130 : decode cX4_init 130 = .ok (.bipush 32, 2) := by decide +kernel
theorem dX4_init_132 : decode cX4_init 132 = .ok (.newarray .int, 2) := by decide +kernel
theorem dX4_init_134 : decode cX4_init 134 = .ok (.putfield 57, 3) := by decide +kernel
theorem dX4_init_137 : decode cX4_init 137 = .ok (.aload_n 0, 1) := by decide +kernel
theorem dX4_init_138 : decode cX4_init 138 = .ok (.bipush 32, 2) := by decide +kernel
theorem dX4_init_140 : decode cX4_init 140 = .ok (.newarray .int, 2) := by decide +kernel
theorem dX4_init_142 : decode cX4_init 142 = .ok (.putfield 60, 3) := by decide +kernel
theorem dX4_init_145 : decode cX4_init 145 = .ok (.aload_n 0, 1) := by decide +kernel
theorem dX4_init_146 : decode cX4_init 146 = .ok (.bipush 25, 2) := by decide +kernel
theorem dX4_init_148 : decode cX4_init 148 = .ok (.newarray .int, 2) := by decide +kernel
theorem dX4_init_150 : decode cX4_init 150 = .ok (.putfield 63, 3) := by decide +kernel
theorem dX4_init_153 : decode cX4_init 153 = .ok (.return_, 1) := by decide +kernel
theorem dX4_thrown_0 : decode cX4_thrown 0 = .ok (.aload_n 0, 1) := by decide +kernel
theorem dX4_thrown_1 : decode cX4_thrown 1 = .ok (.getfield 66, 3) := by decide +kernel
theorem dX4_thrown_4 : decode cX4_thrown 4 = .ok (.ireturn, 1) := by decide +kernel
theorem dX4_raise_0 : decode cX4_raise 0 = .ok (.aload_n 0, 1) := by decide +kernel
theorem dX4_raise_1 : decode cX4_raise 1 = .ok (.iload_n 1, 1) := by decide +kernel
theorem dX4_raise_2 : decode cX4_raise 2 = .ok (.putfield 66, 3) := by decide +kernel
theorem dX4_raise_5 : decode cX4_raise 5 = .ok (.iconst 0, 1) := by decide +kernel
theorem dX4_raise_6 : decode cX4_raise 6 = .ok (.ireturn, 1) := by decide +kernel
theorem dX4_in_0 : decode cX4_in 0 = .ok (.lload_n 0, 1) := by decide +kernel
theorem dX4_in_1 : decode cX4_in 1 = .ok (.lload_n 2, 1) := by decide +kernel
theorem dX4_in_2 : decode cX4_in 2 = .ok (.lcmp, 1) := by decide +kernel
theorem dX4_in_3 : decode cX4_in 3 = .ok (.ifCond .lt 14, 3) := by decide +kernel
theorem dX4_in_6 : decode cX4_in 6 = .ok (.lload_n 0, 1) := by decide +kernel
theorem dX4_in_7 : decode cX4_in 7 = .ok (.lload 4, 2) := by decide +kernel
theorem dX4_in_9 : decode cX4_in 9 = .ok (.lcmp, 1) := by decide +kernel
theorem dX4_in_10 : decode cX4_in 10 = .ok (.ifCond .gt 7, 3) := by decide +kernel
theorem dX4_in_13 : decode cX4_in 13 = .ok (.iconst 1, 1) := by decide +kernel
theorem dX4_in_14 : decode cX4_in 14 = .ok (.goto 4, 3) := by decide +kernel
theorem dX4_in_17 : decode cX4_in 17 = .ok (.iconst 0, 1) := by decide +kernel
theorem dX4_in_18 : decode cX4_in 18 = .ok (.ireturn, 1) := by decide +kernel
set_option maxRecDepth 20000 in
theorem ggX4_row_X4_in : GoodIn wsX4_row wsX4_in := goodIn_r _ [9] (by decide +kernel) (by decide +kernel)
set_option maxRecDepth 20000 in
theorem gX4_row_X4_in : GoodIn wsX4_row (va_wsS RX4 72 yX4_in wsX4_in) := goodIn_app (goodIn_of _ (by decide +kernel)) ggX4_row_X4_in
theorem dX4_row_0 : decode cX4_row 0 = .ok (.aload_n 0, 1) := by decide +kernel
theorem dX4_row_1 : decode cX4_row 1 = .ok (.iload_n 1, 1) := by decide +kernel
theorem dX4_row_2 : decode cX4_row 2 = .ok (.i2l, 1) := by decide +kernel
theorem dX4_row_3 : decode cX4_row 3 = .ok (.lconst 1, 1) := by decide +kernel
theorem dX4_row_4 : decode cX4_row 4 = .ok (.ldc2_w 70, 3) := by decide +kernel
theorem dX4_row_7 : decode cX4_row 7 = .ok (.invokestatic 72, 3) := by decide +kernel
theorem dX4_row_10 : decode cX4_row 10 = .ok (.ifCond .eq 7, 3) := by decide +kernel
theorem dX4_row_13 : decode cX4_row 13 = .ok (.iconst 0, 1) := by decide +kernel
theorem dX4_row_14 : decode cX4_row 14 = .ok (.goto 4, 3) := by decide +kernel
theorem dX4_row_17 : decode cX4_row 17 = .ok (.iconst 1, 1) := by decide +kernel
theorem dX4_row_18 : decode cX4_row 18 = .ok (.putfield 66, 3) := by decide +kernel
theorem dX4_row_21 : decode cX4_row 21 = .ok (.aload_n 0, 1) := by decide +kernel
theorem dX4_row_22 : decode cX4_row 22 = .ok (.getfield 66, 3) := by decide +kernel
theorem dX4_row_25 : decode cX4_row 25 = .ok (.ifCond .le 4, 3) := by decide +kernel
theorem dX4_row_28 : decode cX4_row 28 = .ok (.return_, 1) := by decide +kernel
theorem dX4_row_29 : decode cX4_row 29 = .ok (.aload_n 0, 1) := by decide +kernel
theorem dX4_row_30 : decode cX4_row 30 = .ok (.getfield 7, 3) := by decide +kernel
theorem dX4_row_33 : decode cX4_row 33 = .ok (.iload_n 1, 1) := by decide +kernel
theorem dX4_row_34 : decode cX4_row 34 = .ok (.iload_n 2, 1) := by decide +kernel
theorem dX4_row_35 : decode cX4_row 35 = .ok (.iastore, 1) := by decide +kernel
theorem dX4_row_36 : decode cX4_row 36 = .ok (.aload_n 0, 1) := by decide +kernel
theorem dX4_row_37 : decode cX4_row 37 = .ok (.getfield 13, 3) := by decide +kernel
theorem dX4_row_40 : decode cX4_row 40 = .ok (.iload_n 1, 1) := by decide +kernel
theorem dX4_row_41 : decode cX4_row 41 = .ok (.iload_n 3, 1) := by decide +kernel
theorem dX4_row_42 : decode cX4_row 42 = .ok (.iastore, 1) := by decide +kernel
theorem dX4_row_43 : decode cX4_row 43 = .ok (.aload_n 0, 1) := by decide +kernel
theorem dX4_row_44 : decode cX4_row 44 = .ok (.getfield 16, 3) := by decide +kernel
theorem dX4_row_47 : decode cX4_row 47 = .ok (.iload_n 1, 1) := by decide +kernel
theorem dX4_row_48 : decode cX4_row 48 = .ok (.iload 4, 2) := by decide +kernel
theorem dX4_row_50 : decode cX4_row 50 = .ok (.iastore, 1) := by decide +kernel
theorem dX4_row_51 : decode cX4_row 51 = .ok (.return_, 1) := by decide +kernel
theorem dX4_leftOf_0 : decode cX4_leftOf 0 = .ok (.iload_n 0, 1) := by decide +kernel
theorem dX4_leftOf_1 : decode cX4_leftOf 1 = .ok (.ifCond .ne 7, 3) := by decide +kernel
theorem dX4_leftOf_4 : decode cX4_leftOf 4 = .ok (.iload_n 1, 1) := by decide +kernel
theorem dX4_leftOf_5 : decode cX4_leftOf 5 = .ok (.iconst 1, 1) := by decide +kernel
theorem dX4_leftOf_6 : decode cX4_leftOf 6 = .ok (.isub, 1) := by decide +kernel
theorem dX4_leftOf_7 : decode cX4_leftOf 7 = .ok (.ireturn, 1) := by decide +kernel
theorem dX4_leftOf_8 : decode cX4_leftOf 8 = .ok (.iload_n 0, 1) := by decide +kernel
theorem dX4_leftOf_9 : decode cX4_leftOf 9 = .ok (.iconst 1, 1) := by decide +kernel
theorem dX4_leftOf_10 : decode cX4_leftOf 10 = .ok (.if_icmp .ne 16, 3) := by decide +kernel
theorem dX4_leftOf_13 : decode cX4_leftOf 13 = .ok (.iload_n 1, 1) := by decide +kernel
theorem dX4_leftOf_14 : decode cX4_leftOf 14 = .ok (.iconst 2, 1) := by decide +kernel
theorem dX4_leftOf_15 : decode cX4_leftOf 15 = .ok (.if_icmp .le 9, 3) := by decide +kernel
theorem dX4_leftOf_18 : decode cX4_leftOf 18 = .ok (.iload_n 1, 1) := by decide +kernel
theorem dX4_leftOf_19 : decode cX4_leftOf 19 = .ok (.iconst 1, 1) := by decide +kernel
theorem dX4_leftOf_20 : decode cX4_leftOf 20 = .ok (.isub, 1) := by decide +kernel
theorem dX4_leftOf_21 : decode cX4_leftOf 21 = .ok (.goto 4, 3) := by decide +kernel
theorem dX4_leftOf_24 : decode cX4_leftOf 24 = .ok (.iconst 0, 1) := by decide +kernel
theorem dX4_leftOf_25 : decode cX4_leftOf 25 = .ok (.ireturn, 1) := by decide +kernel
theorem dX4_leftOf_26 : decode cX4_leftOf 26 = .ok (.iload_n 1, 1) := by decide +kernel
theorem dX4_leftOf_27 : decode cX4_leftOf 27 = .ok (.iconst 3, 1) := by decide +kernel
theorem dX4_leftOf_28 : decode cX4_leftOf 28 = .ok (.if_icmp .le 9, 3) := by decide +kernel
theorem dX4_leftOf_31 : decode cX4_leftOf 31 = .ok (.iload_n 1, 1) := by decide +kernel
theorem dX4_leftOf_32 : decode cX4_leftOf 32 = .ok (.iconst 1, 1) := by decide +kernel
theorem dX4_leftOf_33 : decode cX4_leftOf 33 = .ok (.isub, 1) := by decide +kernel
theorem dX4_leftOf_34 : decode cX4_leftOf 34 = .ok (.goto 4, 3) := by decide +kernel
theorem dX4_leftOf_37 : decode cX4_leftOf 37 = .ok (.iconst 0, 1) := by decide +kernel
theorem dX4_leftOf_38 : decode cX4_leftOf 38 = .ok (.ireturn, 1) := by decide +kernel
theorem dX4_rightOf_0 : decode cX4_rightOf 0 = .ok (.iload_n 0, 1) := by decide +kernel
theorem dX4_rightOf_1 : decode cX4_rightOf 1 = .ok (.ifCond .ne 7, 3) := by decide +kernel
theorem dX4_rightOf_4 : decode cX4_rightOf 4 = .ok (.iload_n 1, 1) := by decide +kernel
theorem dX4_rightOf_5 : decode cX4_rightOf 5 = .ok (.iconst 1, 1) := by decide +kernel
theorem dX4_rightOf_6 : decode cX4_rightOf 6 = .ok (.isub, 1) := by decide +kernel
theorem dX4_rightOf_7 : decode cX4_rightOf 7 = .ok (.ireturn, 1) := by decide +kernel
theorem dX4_rightOf_8 : decode cX4_rightOf 8 = .ok (.iload_n 0, 1) := by decide +kernel
theorem dX4_rightOf_9 : decode cX4_rightOf 9 = .ok (.iconst 1, 1) := by decide +kernel
theorem dX4_rightOf_10 : decode cX4_rightOf 10 = .ok (.if_icmp .ne 16, 3) := by decide +kernel
theorem dX4_rightOf_13 : decode cX4_rightOf 13 = .ok (.iload_n 1, 1) := by decide +kernel
theorem dX4_rightOf_14 : decode cX4_rightOf 14 = .ok (.iconst 2, 1) := by decide +kernel
theorem dX4_rightOf_15 : decode cX4_rightOf 15 = .ok (.if_icmp .le 9, 3) := by decide +kernel
theorem dX4_rightOf_18 : decode cX4_rightOf 18 = .ok (.iload_n 1, 1) := by decide +kernel
theorem dX4_rightOf_19 : decode cX4_rightOf 19 = .ok (.iconst 2, 1) := by decide +kernel
theorem dX4_rightOf_20 : decode cX4_rightOf 20 = .ok (.isub, 1) := by decide +kernel
theorem dX4_rightOf_21 : decode cX4_rightOf 21 = .ok (.goto 4, 3) := by decide +kernel
theorem dX4_rightOf_24 : decode cX4_rightOf 24 = .ok (.iconst 0, 1) := by decide +kernel
theorem dX4_rightOf_25 : decode cX4_rightOf 25 = .ok (.ireturn, 1) := by decide +kernel
theorem dX4_rightOf_26 : decode cX4_rightOf 26 = .ok (.iload_n 1, 1) := by decide +kernel
theorem dX4_rightOf_27 : decode cX4_rightOf 27 = .ok (.iconst 4, 1) := by decide +kernel
theorem dX4_rightOf_28 : decode cX4_rightOf 28 = .ok (.if_icmp .ge 5, 3) := by decide +kernel
theorem dX4_rightOf_31 : decode cX4_rightOf 31 = .ok (.iconst 0, 1) := by decide +kernel
theorem dX4_rightOf_32 : decode cX4_rightOf 32 = .ok (.ireturn, 1) := by decide +kernel
theorem dX4_rightOf_33 : decode cX4_rightOf 33 = .ok (.iload_n 1, 1) := by decide +kernel
theorem dX4_rightOf_34 : decode cX4_rightOf 34 = .ok (.iconst 4, 1) := by decide +kernel
theorem dX4_rightOf_35 : decode cX4_rightOf 35 = .ok (.if_icmp .ne 7, 3) := by decide +kernel
theorem dX4_rightOf_38 : decode cX4_rightOf 38 = .ok (.iconst 1, 1) := by decide +kernel
theorem dX4_rightOf_39 : decode cX4_rightOf 39 = .ok (.goto 19, 3) := by decide +kernel
theorem dX4_rightOf_42 : decode cX4_rightOf 42 = .ok (.iload_n 1, 1) := by decide +kernel
theorem dX4_rightOf_43 : decode cX4_rightOf 43 = .ok (.iconst 2, 1) := by decide +kernel
theorem dX4_rightOf_44 : decode cX4_rightOf 44 = .ok (.irem, 1) := by decide +kernel
theorem dX4_rightOf_45 : decode cX4_rightOf 45 = .ok (.iconst 1, 1) := by decide +kernel
theorem dX4_rightOf_46 : decode cX4_rightOf 46 = .ok (.if_icmp .ne 9, 3) := by decide +kernel
theorem dX4_rightOf_49 : decode cX4_rightOf 49 = .ok (.iload_n 1, 1) := by decide +kernel
theorem dX4_rightOf_50 : decode cX4_rightOf 50 = .ok (.iconst 3, 1) := by decide +kernel
theorem dX4_rightOf_51 : decode cX4_rightOf 51 = .ok (.isub, 1) := by decide +kernel
theorem dX4_rightOf_52 : decode cX4_rightOf 52 = .ok (.goto 6, 3) := by decide +kernel
theorem dX4_rightOf_55 : decode cX4_rightOf 55 = .ok (.iload_n 1, 1) := by decide +kernel
theorem dX4_rightOf_56 : decode cX4_rightOf 56 = .ok (.iconst 4, 1) := by decide +kernel
theorem dX4_rightOf_57 : decode cX4_rightOf 57 = .ok (.isub, 1) := by decide +kernel
theorem dX4_rightOf_58 : decode cX4_rightOf 58 = .ok (.ireturn, 1) := by decide +kernel
set_option maxRecDepth 20000 in
theorem ggX4_family_X4_in : GoodIn wsX4_family wsX4_in := goodIn_r _ [13] (by decide +kernel) (by decide +kernel)
set_option maxRecDepth 20000 in
theorem gX4_family_X4_in : GoodIn wsX4_family (va_wsS RX4 72 yX4_in wsX4_in) := goodIn_app (goodIn_of _ (by decide +kernel)) ggX4_family_X4_in
set_option maxRecDepth 20000 in
theorem ggX4_family_X4_leftOf : GoodIn wsX4_family wsX4_leftOf := goodIn_r _ [16] (by decide +kernel) (by decide +kernel)
set_option maxRecDepth 20000 in
theorem gX4_family_X4_leftOf : GoodIn wsX4_family (va_wsS RX4 82 yX4_leftOf wsX4_leftOf) := goodIn_app (goodIn_of _ (by decide +kernel)) ggX4_family_X4_leftOf
set_option maxRecDepth 20000 in
theorem ggX4_family_X4_rightOf : GoodIn wsX4_family wsX4_rightOf := goodIn_r _ [19] (by decide +kernel) (by decide +kernel)
set_option maxRecDepth 20000 in
theorem gX4_family_X4_rightOf : GoodIn wsX4_family (va_wsS RX4 86 yX4_rightOf wsX4_rightOf) := goodIn_app (goodIn_of _ (by decide +kernel)) ggX4_family_X4_rightOf
theorem dX4_family_0 : decode cX4_family 0 = .ok (.aload_n 0, 1) := by decide +kernel
theorem dX4_family_1 : decode cX4_family 1 = .ok (.iconst 1, 1) := by decide +kernel
theorem dX4_family_2 : decode cX4_family 2 = .ok (.putfield 66, 3) := by decide +kernel
theorem dX4_family_5 : decode cX4_family 5 = .ok (.iload_n 1, 1) := by decide +kernel
theorem dX4_family_6 : decode cX4_family 6 = .ok (.i2l, 1) := by decide +kernel
theorem dX4_family_7 : decode cX4_family 7 = .ok (.lconst 0, 1) := by decide +kernel
theorem dX4_family_8 : decode cX4_family 8 = .ok (.ldc2_w 76, 3) := by decide +kernel
theorem dX4_family_11 : decode cX4_family 11 = .ok (.invokestatic 72, 3) := by decide +kernel
theorem dX4_family_14 : decode cX4_family 14 = .ok (.ifCond .eq 49, 3) := by decide +kernel
theorem dX4_family_17 : decode cX4_family 17 = .ok (.iload_n 2, 1) := by decide +kernel
theorem dX4_family_18 : decode cX4_family 18 = .ok (.i2l, 1) := by decide +kernel
theorem dX4_family_19 : decode cX4_family 19 = .ok (.lconst 1, 1) := by decide +kernel
theorem dX4_family_20 : decode cX4_family 20 = .ok (.ldc2_w 70, 3) := by decide +kernel
theorem dX4_family_23 : decode cX4_family 23 = .ok (.invokestatic 72, 3) := by decide +kernel
theorem dX4_family_26 : decode cX4_family 26 = .ok (.ifCond .eq 37, 3) := by decide +kernel
theorem dX4_family_29 : decode cX4_family 29 = .ok (.iload_n 3, 1) := by decide +kernel
theorem dX4_family_30 : decode cX4_family 30 = .ok (.i2l, 1) := by decide +kernel
theorem dX4_family_31 : decode cX4_family 31 = .ok (.ldc2_w 78, 3) := by decide +kernel
theorem dX4_family_34 : decode cX4_family 34 = .ok (.ldc2_w 80, 3) := by decide +kernel
theorem dX4_family_37 : decode cX4_family 37 = .ok (.invokestatic 72, 3) := by decide +kernel
theorem dX4_family_40 : decode cX4_family 40 = .ok (.ifCond .eq 23, 3) := by decide +kernel
theorem dX4_family_43 : decode cX4_family 43 = .ok (.iload_n 1, 1) := by decide +kernel
theorem dX4_family_44 : decode cX4_family 44 = .ok (.iconst 1, 1) := by decide +kernel
theorem dX4_family_45 : decode cX4_family 45 = .ok (.if_icmp .ne 19, 3) := by decide +kernel
theorem dX4_family_48 : decode cX4_family 48 = .ok (.iload 4, 2) := by decide +kernel
theorem dX4_family_50 : decode cX4_family 50 = .ok (.i2l, 1) := by decide +kernel
theorem dX4_family_51 : decode cX4_family 51 = .ok (.ldc2_w 78, 3) := by decide +kernel
theorem dX4_family_54 : decode cX4_family 54 = .ok (.ldc2_w 80, 3) := by decide +kernel
theorem dX4_family_57 : decode cX4_family 57 = .ok (.invokestatic 72, 3) := by decide +kernel
theorem dX4_family_60 : decode cX4_family 60 = .ok (.ifCond .ne 4, 3) := by decide +kernel
theorem dX4_family_63 : decode cX4_family 63 = .ok (.return_, 1) := by decide +kernel
theorem dX4_family_64 : decode cX4_family 64 = .ok (.iconst 1, 1) := by decide +kernel
theorem dX4_family_65 : decode cX4_family 65 = .ok (.istore 5, 2) := by decide +kernel
theorem dX4_family_67 : decode cX4_family 67 = .ok (.iload 5, 2) := by decide +kernel
theorem dX4_family_69 : decode cX4_family 69 = .ok (.iload_n 2, 1) := by decide +kernel
theorem dX4_family_70 : decode cX4_family 70 = .ok (.if_icmp .gt 99, 3) := by decide +kernel
theorem dX4_family_73 : decode cX4_family 73 = .ok (.iload_n 1, 1) := by decide +kernel
theorem dX4_family_74 : decode cX4_family 74 = .ok (.iload 5, 2) := by decide +kernel
theorem dX4_family_76 : decode cX4_family 76 = .ok (.invokestatic 82, 3) := by decide +kernel
theorem dX4_family_79 : decode cX4_family 79 = .ok (.istore 6, 2) := by decide +kernel
theorem dX4_family_81 : decode cX4_family 81 = .ok (.aload_n 0, 1) := by decide +kernel
theorem dX4_family_82 : decode cX4_family 82 = .ok (.getfield 54, 3) := by decide +kernel
theorem dX4_family_85 : decode cX4_family 85 = .ok (.iload 5, 2) := by decide +kernel
theorem dX4_family_87 : decode cX4_family 87 = .ok (.iload 6, 2) := by decide +kernel
theorem dX4_family_89 : decode cX4_family 89 = .ok (.ifCond .le 25, 3) := by decide +kernel
theorem dX4_family_92 : decode cX4_family 92 = .ok (.aload_n 0, 1) := by decide +kernel
theorem dX4_family_93 : decode cX4_family 93 = .ok (.getfield 54, 3) := by decide +kernel
theorem dX4_family_96 : decode cX4_family 96 = .ok (.iload 6, 2) := by decide +kernel
theorem dX4_family_98 : decode cX4_family 98 = .ok (.laload, 1) := by decide +kernel
theorem dX4_family_99 : decode cX4_family 99 = .ok (.aload_n 0, 1) := by decide +kernel
theorem dX4_family_100 : decode cX4_family 100 = .ok (.getfield 54, 3) := by decide +kernel
theorem dX4_family_103 : decode cX4_family 103 = .ok (.iload_n 1, 1) := by decide +kernel
theorem dX4_family_104 : decode cX4_family 104 = .ok (.iload 5, 2) := by decide +kernel
theorem dX4_family_106 : decode cX4_family 106 = .ok (.invokestatic 86, 3) := by decide +kernel
theorem dX4_family_109 : decode cX4_family 109 = .ok (.laload, 1) := by decide +kernel
theorem dX4_family_110 : decode cX4_family 110 = .ok (.ladd, 1) := by decide +kernel
theorem dX4_family_111 : decode cX4_family 111 = .ok (.goto 36, 3) := by decide +kernel
theorem dX4_family_114 : decode cX4_family 114 = .ok (.iload_n 1, 1) := by decide +kernel
theorem dX4_family_115 : decode cX4_family 115 = .ok (.iconst 1, 1) := by decide +kernel
theorem dX4_family_116 : decode cX4_family 116 = .ok (.if_icmp .ne 15, 3) := by decide +kernel
theorem dX4_family_119 : decode cX4_family 119 = .ok (.iload 5, 2) := by decide +kernel
theorem dX4_family_121 : decode cX4_family 121 = .ok (.iconst 2, 1) := by decide +kernel
theorem dX4_family_122 : decode cX4_family 122 = .ok (.if_icmp .ne 9, 3) := by decide +kernel
theorem dX4_family_125 : decode cX4_family 125 = .ok (.iload 4, 2) := by decide +kernel
theorem dX4_family_127 : decode cX4_family 127 = .ok (.i2l, 1) := by decide +kernel
theorem dX4_family_128 : decode cX4_family 128 = .ok (.goto 19, 3) := by decide +kernel
theorem dX4_family_131 : decode cX4_family 131 = .ok (.iload_n 1, 1) := by decide +kernel
theorem dX4_family_132 : decode cX4_family 132 = .ok (.iconst 2, 1) := by decide +kernel
theorem dX4_family_133 : decode cX4_family 133 = .ok (.if_icmp .ne 12, 3) := by decide +kernel
theorem dX4_family_136 : decode cX4_family 136 = .ok (.iload 5, 2) := by decide +kernel
theorem dX4_family_138 : decode cX4_family 138 = .ok (.i2l, 1) := by decide +kernel
theorem dX4_family_139 : decode cX4_family 139 = .ok (.iload_n 3, 1) := by decide +kernel
theorem dX4_family_140 : decode cX4_family 140 = .ok (.i2l, 1) := by decide +kernel
theorem dX4_family_141 : decode cX4_family 141 = .ok (.lmul, 1) := by decide +kernel
theorem dX4_family_142 : decode cX4_family 142 = .ok (.goto 5, 3) := by decide +kernel
theorem dX4_family_145 : decode cX4_family 145 = .ok (.iload_n 3, 1) := by decide +kernel
theorem dX4_family_146 : decode cX4_family 146 = .ok (.i2l, 1) := by decide +kernel
theorem dX4_family_147 : decode cX4_family 147 = .ok (.lastore, 1) := by decide +kernel
theorem dX4_family_148 : decode cX4_family 148 = .ok (.aload_n 0, 1) := by decide +kernel
theorem dX4_family_149 : decode cX4_family 149 = .ok (.getfield 54, 3) := by decide +kernel
theorem dX4_family_152 : decode cX4_family 152 = .ok (.iload 5, 2) := by decide +kernel
theorem dX4_family_154 : decode cX4_family 154 = .ok (.laload, 1) := by decide +kernel
theorem dX4_family_155 : decode cX4_family 155 = .ok (.ldc2_w 80, 3) := by decide +kernel
theorem dX4_family_158 : decode cX4_family 158 = .ok (.lcmp, 1) := by decide +kernel
theorem dX4_family_159 : decode cX4_family 159 = .ok (.ifCond .le 4, 3) := by decide +kernel
theorem dX4_family_162 : decode cX4_family 162 = .ok (.return_, 1) := by decide +kernel
theorem dX4_family_163 : decode cX4_family 163 = .ok (.iinc 5 1, 3) := by decide +kernel
theorem dX4_family_166 : decode cX4_family 166 = .ok (.goto (-99), 3) := by decide +kernel
theorem dX4_family_169 : decode cX4_family 169 = .ok (.aload_n 0, 1) := by decide +kernel
theorem dX4_family_170 : decode cX4_family 170 = .ok (.iconst 0, 1) := by decide +kernel
theorem dX4_family_171 : decode cX4_family 171 = .ok (.putfield 66, 3) := by decide +kernel
theorem dX4_family_174 : decode cX4_family 174 = .ok (.iconst 1, 1) := by decide +kernel
theorem dX4_family_175 : decode cX4_family 175 = .ok (.istore 5, 2) := by decide +kernel
theorem dX4_family_177 : decode cX4_family 177 = .ok (.iload 5, 2) := by decide +kernel
theorem dX4_family_179 : decode cX4_family 179 = .ok (.bipush 25, 2) := by decide +kernel
theorem dX4_family_181 : decode cX4_family 181 = .ok (.if_icmp .ge 80, 3) := by decide +kernel
theorem dX4_family_184 : decode cX4_family 184 = .ok (.aload_n 0, 1) := by decide +kernel
theorem dX4_family_185 : decode cX4_family 185 = .ok (.getfield 7, 3) := by decide +kernel
theorem dX4_family_188 : decode cX4_family 188 = .ok (.iload 5, 2) := by decide +kernel
theorem dX4_family_190 : decode cX4_family 190 = .ok (.iload 5, 2) := by decide +kernel
theorem dX4_family_192 : decode cX4_family 192 = .ok (.iload_n 2, 1) := by decide +kernel
theorem dX4_family_193 : decode cX4_family 193 = .ok (.if_icmp .le 7, 3) := by decide +kernel
theorem dX4_family_196 : decode cX4_family 196 = .ok (.iconst 0, 1) := by decide +kernel
theorem dX4_family_197 : decode cX4_family 197 = .ok (.goto 11, 3) := by decide +kernel
theorem dX4_family_200 : decode cX4_family 200 = .ok (.aload_n 0, 1) := by decide +kernel
theorem dX4_family_201 : decode cX4_family 201 = .ok (.getfield 54, 3) := by decide +kernel
theorem dX4_family_204 : decode cX4_family 204 = .ok (.iload 5, 2) := by decide +kernel
theorem dX4_family_206 : decode cX4_family 206 = .ok (.laload, 1) := by decide +kernel
theorem dX4_family_207 : decode cX4_family 207 = .ok (.l2i, 1) := by decide +kernel
theorem dX4_family_208 : decode cX4_family 208 = .ok (.iastore, 1) := by decide +kernel
theorem dX4_family_209 : decode cX4_family 209 = .ok (.aload_n 0, 1) := by decide +kernel
theorem dX4_family_210 : decode cX4_family 210 = .ok (.getfield 13, 3) := by decide +kernel
theorem dX4_family_213 : decode cX4_family 213 = .ok (.iload 5, 2) := by decide +kernel
theorem dX4_family_215 : decode cX4_family 215 = .ok (.iload 5, 2) := by decide +kernel
theorem dX4_family_217 : decode cX4_family 217 = .ok (.iload_n 2, 1) := by decide +kernel
theorem dX4_family_218 : decode cX4_family 218 = .ok (.if_icmp .le 7, 3) := by decide +kernel
theorem dX4_family_221 : decode cX4_family 221 = .ok (.iconst 0, 1) := by decide +kernel
theorem dX4_family_222 : decode cX4_family 222 = .ok (.goto 9, 3) := by decide +kernel
theorem dX4_family_225 : decode cX4_family 225 = .ok (.iload_n 1, 1) := by decide +kernel
theorem dX4_family_226 : decode cX4_family 226 = .ok (.iload 5, 2) := by decide +kernel
theorem dX4_family_228 : decode cX4_family 228 = .ok (.invokestatic 82, 3) := by decide +kernel
theorem dX4_family_231 : decode cX4_family 231 = .ok (.iastore, 1) := by decide +kernel
theorem dX4_family_232 : decode cX4_family 232 = .ok (.aload_n 0, 1) := by decide +kernel
theorem dX4_family_233 : decode cX4_family 233 = .ok (.getfield 16, 3) := by decide +kernel
theorem dX4_family_236 : decode cX4_family 236 = .ok (.iload 5, 2) := by decide +kernel
theorem dX4_family_238 : decode cX4_family 238 = .ok (.iload 5, 2) := by decide +kernel
theorem dX4_family_240 : decode cX4_family 240 = .ok (.iload_n 2, 1) := by decide +kernel
theorem dX4_family_241 : decode cX4_family 241 = .ok (.if_icmp .le 7, 3) := by decide +kernel
theorem dX4_family_244 : decode cX4_family 244 = .ok (.iconst 0, 1) := by decide +kernel
theorem dX4_family_245 : decode cX4_family 245 = .ok (.goto 9, 3) := by decide +kernel
theorem dX4_family_248 : decode cX4_family 248 = .ok (.iload_n 1, 1) := by decide +kernel
theorem dX4_family_249 : decode cX4_family 249 = .ok (.iload 5, 2) := by decide +kernel
theorem dX4_family_251 : decode cX4_family 251 = .ok (.invokestatic 86, 3) := by decide +kernel
theorem dX4_family_254 : decode cX4_family 254 = .ok (.iastore, 1) := by decide +kernel
theorem dX4_family_255 : decode cX4_family 255 = .ok (.iinc 5 1, 3) := by decide +kernel
theorem dX4_family_258 : decode cX4_family 258 = .ok (.goto (-81), 3) := by decide +kernel
theorem dX4_family_261 : decode cX4_family 261 = .ok (.return_, 1) := by decide +kernel
set_option maxRecDepth 20000 in
theorem ggX4_isBad_X4_in : GoodIn wsX4_isBad wsX4_in := goodIn_r _ [10] (by decide +kernel) (by decide +kernel)
set_option maxRecDepth 20000 in
theorem gX4_isBad_X4_in : GoodIn wsX4_isBad (va_wsS RX4 72 yX4_in wsX4_in) := goodIn_app (goodIn_of _ (by decide +kernel)) ggX4_isBad_X4_in
theorem dX4_isBad_0 : decode cX4_isBad 0 = .ok (.aload_n 0, 1) := by decide +kernel
theorem dX4_isBad_1 : decode cX4_isBad 1 = .ok (.getfield 7, 3) := by decide +kernel
theorem dX4_isBad_4 : decode cX4_isBad 4 = .ok (.iload_n 1, 1) := by decide +kernel
theorem dX4_isBad_5 : decode cX4_isBad 5 = .ok (.iaload, 1) := by decide +kernel
theorem dX4_isBad_6 : decode cX4_isBad 6 = .ok (.i2l, 1) := by decide +kernel
theorem dX4_isBad_7 : decode cX4_isBad 7 = .ok (.ldc2_w 78, 3) := by decide +kernel
theorem dX4_isBad_10 : decode cX4_isBad 10 = .ok (.ldc2_w 80, 3) := by decide +kernel
theorem dX4_isBad_13 : decode cX4_isBad 13 = .ok (.invokestatic 72, 3) := by decide +kernel
theorem dX4_isBad_16 : decode cX4_isBad 16 = .ok (.ifCond .ne 5, 3) := by decide +kernel
theorem dX4_isBad_19 : decode cX4_isBad 19 = .ok (.iconst 1, 1) := by decide +kernel
theorem dX4_isBad_20 : decode cX4_isBad 20 = .ok (.ireturn, 1) := by decide +kernel
theorem dX4_isBad_21 : decode cX4_isBad 21 = .ok (.aload_n 0, 1) := by decide +kernel
theorem dX4_isBad_22 : decode cX4_isBad 22 = .ok (.getfield 13, 3) := by decide +kernel
theorem dX4_isBad_25 : decode cX4_isBad 25 = .ok (.iload_n 1, 1) := by decide +kernel
theorem dX4_isBad_26 : decode cX4_isBad 26 = .ok (.iaload, 1) := by decide +kernel
theorem dX4_isBad_27 : decode cX4_isBad 27 = .ok (.istore_n 2, 1) := by decide +kernel
theorem dX4_isBad_28 : decode cX4_isBad 28 = .ok (.aload_n 0, 1) := by decide +kernel
theorem dX4_isBad_29 : decode cX4_isBad 29 = .ok (.getfield 16, 3) := by decide +kernel
theorem dX4_isBad_32 : decode cX4_isBad 32 = .ok (.iload_n 1, 1) := by decide +kernel
theorem dX4_isBad_33 : decode cX4_isBad 33 = .ok (.iaload, 1) := by decide +kernel
theorem dX4_isBad_34 : decode cX4_isBad 34 = .ok (.istore_n 3, 1) := by decide +kernel
theorem dX4_isBad_35 : decode cX4_isBad 35 = .ok (.iload_n 2, 1) := by decide +kernel
theorem dX4_isBad_36 : decode cX4_isBad 36 = .ok (.ifCond .ne 13, 3) := by decide +kernel
theorem dX4_isBad_39 : decode cX4_isBad 39 = .ok (.iload_n 3, 1) := by decide +kernel
theorem dX4_isBad_40 : decode cX4_isBad 40 = .ok (.ifCond .eq 7, 3) := by decide +kernel
theorem dX4_isBad_43 : decode cX4_isBad 43 = .ok (.iconst 1, 1) := by decide +kernel
theorem dX4_isBad_44 : decode cX4_isBad 44 = .ok (.goto 4, 3) := by decide +kernel
theorem dX4_isBad_47 : decode cX4_isBad 47 = .ok (.iconst 0, 1) := by decide +kernel
theorem dX4_isBad_48 : decode cX4_isBad 48 = .ok (.ireturn, 1) := by decide +kernel
theorem dX4_isBad_49 : decode cX4_isBad 49 = .ok (.iload_n 2, 1) := by decide +kernel
theorem dX4_isBad_50 : decode cX4_isBad 50 = .ok (.i2l, 1) := by decide +kernel
theorem dX4_isBad_51 : decode cX4_isBad 51 = .ok (.lconst 1, 1) := by decide +kernel
theorem dX4_isBad_52 : decode cX4_isBad 52 = .ok (.ldc2_w 70, 3) := by decide +kernel
theorem dX4_isBad_55 : decode cX4_isBad 55 = .ok (.invokestatic 72, 3) := by decide +kernel
theorem dX4_isBad_58 : decode cX4_isBad 58 = .ok (.ifCond .eq 15, 3) := by decide +kernel
theorem dX4_isBad_61 : decode cX4_isBad 61 = .ok (.iload_n 3, 1) := by decide +kernel
theorem dX4_isBad_62 : decode cX4_isBad 62 = .ok (.i2l, 1) := by decide +kernel
theorem dX4_isBad_63 : decode cX4_isBad 63 = .ok (.lconst 1, 1) := by decide +kernel
theorem dX4_isBad_64 : decode cX4_isBad 64 = .ok (.ldc2_w 70, 3) := by decide +kernel
theorem dX4_isBad_67 : decode cX4_isBad 67 = .ok (.invokestatic 72, 3) := by decide +kernel
theorem dX4_isBad_70 : decode cX4_isBad 70 = .ok (.ifCond .ne 5, 3) := by decide +kernel
theorem dX4_isBad_73 : decode cX4_isBad 73 = .ok (.iconst 1, 1) := by decide +kernel
theorem dX4_isBad_74 : decode cX4_isBad 74 = .ok (.ireturn, 1) := by decide +kernel
theorem dX4_isBad_75 : decode cX4_isBad 75 = .ok (.aload_n 0, 1) := by decide +kernel
theorem dX4_isBad_76 : decode cX4_isBad 76 = .ok (.getfield 7, 3) := by decide +kernel
theorem dX4_isBad_79 : decode cX4_isBad 79 = .ok (.iload_n 2, 1) := by decide +kernel
theorem dX4_isBad_80 : decode cX4_isBad 80 = .ok (.iaload, 1) := by decide +kernel
theorem dX4_isBad_81 : decode cX4_isBad 81 = .ok (.aload_n 0, 1) := by decide +kernel
theorem dX4_isBad_82 : decode cX4_isBad 82 = .ok (.getfield 7, 3) := by decide +kernel
theorem dX4_isBad_85 : decode cX4_isBad 85 = .ok (.iload_n 1, 1) := by decide +kernel
theorem dX4_isBad_86 : decode cX4_isBad 86 = .ok (.iaload, 1) := by decide +kernel
theorem dX4_isBad_87 : decode cX4_isBad 87 = .ok (.if_icmp .ge 18, 3) := by decide +kernel
theorem dX4_isBad_90 : decode cX4_isBad 90 = .ok (.aload_n 0, 1) := by decide +kernel
theorem dX4_isBad_91 : decode cX4_isBad 91 = .ok (.getfield 7, 3) := by decide +kernel
theorem dX4_isBad_94 : decode cX4_isBad 94 = .ok (.iload_n 3, 1) := by decide +kernel
theorem dX4_isBad_95 : decode cX4_isBad 95 = .ok (.iaload, 1) := by decide +kernel
theorem dX4_isBad_96 : decode cX4_isBad 96 = .ok (.aload_n 0, 1) := by decide +kernel
theorem dX4_isBad_97 : decode cX4_isBad 97 = .ok (.getfield 7, 3) := by decide +kernel
theorem dX4_isBad_100 : decode cX4_isBad 100 = .ok (.iload_n 1, 1) := by decide +kernel
theorem dX4_isBad_101 : decode cX4_isBad 101 = .ok (.iaload, 1) := by decide +kernel
theorem dX4_isBad_102 : decode cX4_isBad 102 = .ok (.if_icmp .lt 5, 3) := by decide +kernel
theorem dX4_isBad_105 : decode cX4_isBad 105 = .ok (.iconst 1, 1) := by decide +kernel
theorem dX4_isBad_106 : decode cX4_isBad 106 = .ok (.ireturn, 1) := by decide +kernel
theorem dX4_isBad_107 : decode cX4_isBad 107 = .ok (.aload_n 0, 1) := by decide +kernel
theorem dX4_isBad_108 : decode cX4_isBad 108 = .ok (.getfield 7, 3) := by decide +kernel
theorem dX4_isBad_111 : decode cX4_isBad 111 = .ok (.iload_n 2, 1) := by decide +kernel
theorem dX4_isBad_112 : decode cX4_isBad 112 = .ok (.iaload, 1) := by decide +kernel
theorem dX4_isBad_113 : decode cX4_isBad 113 = .ok (.i2l, 1) := by decide +kernel
theorem dX4_isBad_114 : decode cX4_isBad 114 = .ok (.aload_n 0, 1) := by decide +kernel
theorem dX4_isBad_115 : decode cX4_isBad 115 = .ok (.getfield 7, 3) := by decide +kernel
theorem dX4_isBad_118 : decode cX4_isBad 118 = .ok (.iload_n 3, 1) := by decide +kernel
theorem dX4_isBad_119 : decode cX4_isBad 119 = .ok (.iaload, 1) := by decide +kernel
theorem dX4_isBad_120 : decode cX4_isBad 120 = .ok (.i2l, 1) := by decide +kernel
theorem dX4_isBad_121 : decode cX4_isBad 121 = .ok (.ladd, 1) := by decide +kernel
theorem dX4_isBad_122 : decode cX4_isBad 122 = .ok (.aload_n 0, 1) := by decide +kernel
theorem dX4_isBad_123 : decode cX4_isBad 123 = .ok (.getfield 7, 3) := by decide +kernel
theorem dX4_isBad_126 : decode cX4_isBad 126 = .ok (.iload_n 1, 1) := by decide +kernel
theorem dX4_isBad_127 : decode cX4_isBad 127 = .ok (.iaload, 1) := by decide +kernel
theorem dX4_isBad_128 : decode cX4_isBad 128 = .ok (.i2l, 1) := by decide +kernel
theorem dX4_isBad_129 : decode cX4_isBad 129 = .ok (.lcmp, 1) := by decide +kernel
theorem dX4_isBad_130 : decode cX4_isBad 130 = .ok (.ifCond .eq 7, 3) := by decide +kernel
theorem dX4_isBad_133 : decode cX4_isBad 133 = .ok (.iconst 1, 1) := by decide +kernel
theorem dX4_isBad_134 : decode cX4_isBad 134 = .ok (.goto 4, 3) := by decide +kernel
theorem dX4_isBad_137 : decode cX4_isBad 137 = .ok (.iconst 0, 1) := by decide +kernel
theorem dX4_isBad_138 : decode cX4_isBad 138 = .ok (.ireturn, 1) := by decide +kernel
set_option maxRecDepth 20000 in
theorem ggX4_build_X4_in : GoodIn wsX4_build wsX4_in := goodIn_r _ [21] (by decide +kernel) (by decide +kernel)
set_option maxRecDepth 20000 in
theorem gX4_build_X4_in : GoodIn wsX4_build (va_wsS RX4 72 yX4_in wsX4_in) := goodIn_app (goodIn_of _ (by decide +kernel)) ggX4_build_X4_in
set_option maxRecDepth 20000 in
theorem ggX4_build_X4_isBad : GoodIn wsX4_build wsX4_isBad := goodIn_r _ [25, 8, 26, 27, 4, 5, 1, 18, 19, 20, 21, 31, 32, 33, 34, 35, 36, 37, 38, 39, 40, 41, 42, 43, 44, 45, 46, 47, 48, 49, 50, 51, 52, 53, 54, 55, 56, 57, 58, 59] (by decide +kernel) (by decide +kernel)
set_option maxRecDepth 20000 in
theorem gX4_build_X4_isBad : GoodIn wsX4_build (wsV RX4 89 RX4 yX4_isBad wsX4_isBad) := goodIn_app (goodIn_of _ (by decide +kernel)) ggX4_build_X4_isBad
set_option maxRecDepth 20000 in
theorem ggX4_build_X4_nodeOf : GoodIn wsX4_build wsX4_nodeOf := goodIn_r _ [30] (by decide +kernel) (by decide +kernel)
set_option maxRecDepth 20000 in
theorem gX4_build_X4_nodeOf : GoodIn wsX4_build (va_wsS RX4 99 yX4_nodeOf wsX4_nodeOf) := goodIn_app (goodIn_of _ (by decide +kernel)) ggX4_build_X4_nodeOf
theorem dX4_build_0 : decode cX4_build 0 = .ok (.aload_n 0, 1) := by decide +kernel
theorem dX4_build_1 : decode cX4_build 1 = .ok (.iload_n 1, 1) := by decide +kernel
theorem dX4_build_2 : decode cX4_build 2 = .ok (.i2l, 1) := by decide +kernel
theorem dX4_build_3 : decode cX4_build 3 = .ok (.lconst 1, 1) := by decide +kernel
theorem dX4_build_4 : decode cX4_build 4 = .ok (.ldc2_w 70, 3) := by decide +kernel
theorem dX4_build_7 : decode cX4_build 7 = .ok (.invokestatic 72, 3) := by decide +kernel
theorem dX4_build_10 : decode cX4_build 10 = .ok (.ifCond .eq 7, 3) := by decide +kernel
theorem dX4_build_13 : decode cX4_build 13 = .ok (.iconst 0, 1) := by decide +kernel
theorem dX4_build_14 : decode cX4_build 14 = .ok (.goto 4, 3) := by decide +kernel
theorem dX4_build_17 : decode cX4_build 17 = .ok (.iconst 1, 1) := by decide +kernel
theorem dX4_build_18 : decode cX4_build 18 = .ok (.putfield 66, 3) := by decide +kernel
theorem dX4_build_21 : decode cX4_build 21 = .ok (.aload_n 0, 1) := by decide +kernel
theorem dX4_build_22 : decode cX4_build 22 = .ok (.getfield 66, 3) := by decide +kernel
theorem dX4_build_25 : decode cX4_build 25 = .ok (.ifCond .le 5, 3) := by decide +kernel
theorem dX4_build_28 : decode cX4_build 28 = .ok (.iconst 0, 1) := by decide +kernel
theorem dX4_build_29 : decode cX4_build 29 = .ok (.ireturn, 1) := by decide +kernel
theorem dX4_build_30 : decode cX4_build 30 = .ok (.iconst 1, 1) := by decide +kernel
theorem dX4_build_31 : decode cX4_build 31 = .ok (.istore_n 2, 1) := by decide +kernel
theorem dX4_build_32 : decode cX4_build 32 = .ok (.iload_n 2, 1) := by decide +kernel
theorem dX4_build_33 : decode cX4_build 33 = .ok (.bipush 25, 2) := by decide +kernel
theorem dX4_build_35 : decode cX4_build 35 = .ok (.if_icmp .ge 25, 3) := by decide +kernel
theorem dX4_build_38 : decode cX4_build 38 = .ok (.aload_n 0, 1) := by decide +kernel
theorem dX4_build_39 : decode cX4_build 39 = .ok (.getfield 32, 3) := by decide +kernel
theorem dX4_build_42 : decode cX4_build 42 = .ok (.iload_n 2, 1) := by decide +kernel
theorem dX4_build_43 : decode cX4_build 43 = .ok (.iload_n 2, 1) := by decide +kernel
theorem dX4_build_44 : decode cX4_build 44 = .ok (.iload_n 1, 1) := by decide +kernel
theorem dX4_build_45 : decode cX4_build 45 = .ok (.if_icmp .ne 7, 3) := by decide +kernel
theorem dX4_build_48 : decode cX4_build 48 = .ok (.iconst 1, 1) := by decide +kernel
theorem dX4_build_49 : decode cX4_build 49 = .ok (.goto 4, 3) := by decide +kernel
theorem dX4_build_52 : decode cX4_build 52 = .ok (.iconst 0, 1) := by decide +kernel
theorem dX4_build_53 : decode cX4_build 53 = .ok (.bastore, 1) := by decide +kernel
theorem dX4_build_54 : decode cX4_build 54 = .ok (.iinc 2 1, 3) := by decide +kernel
theorem dX4_build_57 : decode cX4_build 57 = .ok (.goto (-25), 3) := by decide +kernel
theorem dX4_build_60 : decode cX4_build 60 = .ok (.iconst 1, 1) := by decide +kernel
theorem dX4_build_61 : decode cX4_build 61 = .ok (.istore_n 2, 1) := by decide +kernel
theorem dX4_build_62 : decode cX4_build 62 = .ok (.iload_n 2, 1) := by decide +kernel
theorem dX4_build_63 : decode cX4_build 63 = .ok (.ifCond .eq 113, 3) := by decide +kernel
