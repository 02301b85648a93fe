theorem dX1_isBad_27 : decode cX1_isBad 27 = .ok (.iload_n 1, 1) := by decide +kernel
theorem dX1_isBad_28 : decode cX1_isBad 28 = .ok (.iaload, 1) := by decide +kernel
theorem dX1_isBad_29 : decode cX1_isBad 29 = .ok (.ifCond .eq 7, 3) := by decide +kernel
theorem dX1_isBad_32 : decode cX1_isBad 32 = .ok (.iconst 1, 1) := by decide +kernel
theorem dX1_isBad_33 : decode cX1_isBad 33 = .ok (.goto 4, 3) := by decide +kernel
theorem dX1_isBad_36 : decode cX1_isBad 36 = .ok (.iconst 0, 1) := by decide +kernel
theorem dX1_isBad_37 : decode cX1_isBad 37 = .ok (.ireturn, 1) := by decide +kernel
theorem dX1_isBad_38 : decode cX1_isBad 38 = .ok (.aload_n 0, 1) := by decide +kernel
theorem dX1_isBad_39 : decode cX1_isBad 39 = .ok (.getfield 15, 3) := by decide +kernel
theorem dX1_isBad_42 : decode cX1_isBad 42 = .ok (.iload_n 1, 1) := by decide +kernel
theorem dX1_isBad_43 : decode cX1_isBad 43 = .ok (.iaload, 1) := by decide +kernel
theorem dX1_isBad_44 : decode cX1_isBad 44 = .ok (.invokestatic 56, 3) := by decide +kernel
theorem dX1_isBad_47 : decode cX1_isBad 47 = .ok (.ifCond .eq 15, 3) := by decide +kernel
theorem dX1_isBad_50 : decode cX1_isBad 50 = .ok (.aload_n 0, 1) := by decide +kernel
theorem dX1_isBad_51 : decode cX1_isBad 51 = .ok (.getfield 18, 3) := by decide +kernel
theorem dX1_isBad_54 : decode cX1_isBad 54 = .ok (.iload_n 1, 1) := by decide +kernel
theorem dX1_isBad_55 : decode cX1_isBad 55 = .ok (.iaload, 1) := by decide +kernel
theorem dX1_isBad_56 : decode cX1_isBad 56 = .ok (.invokestatic 56, 3) := by decide +kernel
theorem dX1_isBad_59 : decode cX1_isBad 59 = .ok (.ifCond .ne 5, 3) := by decide +kernel
theorem dX1_isBad_62 : decode cX1_isBad 62 = .ok (.iconst 1, 1) := by decide +kernel
theorem dX1_isBad_63 : decode cX1_isBad 63 = .ok (.ireturn, 1) := by decide +kernel
theorem dX1_isBad_64 : decode cX1_isBad 64 = .ok (.aload_n 0, 1) := by decide +kernel
theorem dX1_isBad_65 : decode cX1_isBad 65 = .ok (.getfield 9, 3) := by decide +kernel
theorem dX1_isBad_68 : decode cX1_isBad 68 = .ok (.aload_n 0, 1) := by decide +kernel
theorem dX1_isBad_69 : decode cX1_isBad 69 = .ok (.getfield 15, 3) := by decide +kernel
theorem dX1_isBad_72 : decode cX1_isBad 72 = .ok (.iload_n 1, 1) := by decide +kernel
theorem dX1_isBad_73 : decode cX1_isBad 73 = .ok (.iaload, 1) := by decide +kernel
theorem dX1_isBad_74 : decode cX1_isBad 74 = .ok (.iaload, 1) := by decide +kernel
theorem dX1_isBad_75 : decode cX1_isBad 75 = .ok (.istore_n 2, 1) := by decide +kernel
theorem dX1_isBad_76 : decode cX1_isBad 76 = .ok (.aload_n 0, 1) := by decide +kernel
theorem dX1_isBad_77 : decode cX1_isBad 77 = .ok (.getfield 9, 3) := by decide +kernel
theorem dX1_isBad_80 : decode cX1_isBad 80 = .ok (.aload_n 0, 1) := by decide +kernel
theorem dX1_isBad_81 : decode cX1_isBad 81 = .ok (.getfield 18, 3) := by decide +kernel
theorem dX1_isBad_84 : decode cX1_isBad 84 = .ok (.iload_n 1, 1) := by decide +kernel
theorem dX1_isBad_85 : decode cX1_isBad 85 = .ok (.iaload, 1) := by decide +kernel
theorem dX1_isBad_86 : decode cX1_isBad 86 = .ok (.iaload, 1) := by decide +kernel
theorem dX1_isBad_87 : decode cX1_isBad 87 = .ok (.istore_n 3, 1) := by decide +kernel
theorem dX1_isBad_88 : decode cX1_isBad 88 = .ok (.iload_n 2, 1) := by decide +kernel
theorem dX1_isBad_89 : decode cX1_isBad 89 = .ok (.aload_n 0, 1) := by decide +kernel
theorem dX1_isBad_90 : decode cX1_isBad 90 = .ok (.getfield 9, 3) := by decide +kernel
theorem dX1_isBad_93 : decode cX1_isBad 93 = .ok (.iload_n 1, 1) := by decide +kernel
theorem dX1_isBad_94 : decode cX1_isBad 94 = .ok (.iaload, 1) := by decide +kernel
theorem dX1_isBad_95 : decode cX1_isBad 95 = .ok (.if_icmp .ge 29, 3) := by decide +kernel
theorem dX1_isBad_98 : decode cX1_isBad 98 = .ok (.iload_n 3, 1) := by decide +kernel
theorem dX1_isBad_99 : decode cX1_isBad 99 = .ok (.aload_n 0, 1) := by decide +kernel
theorem dX1_isBad_100 : decode cX1_isBad 100 = .ok (.getfield 9, 3) := by decide +kernel
theorem dX1_isBad_103 : decode cX1_isBad 103 = .ok (.iload_n 1, 1) := by decide +kernel
theorem dX1_isBad_104 : decode cX1_isBad 104 = .ok (.iaload, 1) := by decide +kernel
theorem dX1_isBad_105 : decode cX1_isBad 105 = .ok (.if_icmp .ge 19, 3) := by decide +kernel
theorem dX1_isBad_108 : decode cX1_isBad 108 = .ok (.iload_n 2, 1) := by decide +kernel
theorem dX1_isBad_109 : decode cX1_isBad 109 = .ok (.i2l, 1) := by decide +kernel
theorem dX1_isBad_110 : decode cX1_isBad 110 = .ok (.iload_n 3, 1) := by decide +kernel
theorem dX1_isBad_111 : decode cX1_isBad 111 = .ok (.i2l, 1) := by decide +kernel
theorem dX1_isBad_112 : decode cX1_isBad 112 = .ok (.ladd, 1) := by decide +kernel
theorem dX1_isBad_113 : decode cX1_isBad 113 = .ok (.aload_n 0, 1) := by decide +kernel
theorem dX1_isBad_114 : decode cX1_isBad 114 = .ok (.getfield 9, 3) := by decide +kernel
theorem dX1_isBad_117 : decode cX1_isBad 117 = .ok (.iload_n 1, 1) := by decide +kernel
theorem dX1_isBad_118 : decode cX1_isBad 118 = .ok (.iaload, 1) := by decide +kernel
theorem dX1_isBad_119 : decode cX1_isBad 119 = .ok (.i2l, 1) := by decide +kernel
theorem dX1_isBad_120 : decode cX1_isBad 120 = .ok (.lcmp, 1) := by decide +kernel
theorem dX1_isBad_121 : decode cX1_isBad 121 = .ok (.ifCond .eq 7, 3) := by decide +kernel
theorem dX1_isBad_124 : decode cX1_isBad 124 = .ok (.iconst 1, 1) := by decide +kernel
theorem dX1_isBad_125 : decode cX1_isBad 125 = .ok (.goto 4, 3) := by decide +kernel
theorem dX1_isBad_128 : decode cX1_isBad 128 = .ok (.iconst 0, 1) := by decide +kernel
theorem dX1_isBad_129 : decode cX1_isBad 129 = .ok (.ireturn, 1) := by decide +kernel
theorem dX2_init_0 : decode cX2_init 0 = .ok (.aload_n 0, 1) := by decide +kernel
theorem dX2_init_1 : decode cX2_init 1 = .ok (.invokespecial 3, 3) := by decide +kernel
theorem dX2_init_4 : decode cX2_init 4 = .ok (.aload_n 0, 1) := by decide +kernel
theorem dX2_init_5 : decode cX2_init 5 = .ok (.bipush 64, 2) := by decide +kernel
theorem dX2_init_7 : decode cX2_init 7 = .ok (.newarray .int, 2) := by decide +kernel
theorem dX2_init_9 : decode cX2_init 9 = .ok (.putfield 11, 3) := by decide +kernel
theorem dX2_init_12 : decode cX2_init 12 = .ok (.aload_n 0, 1) := by decide +kernel
theorem dX2_init_13 : decode cX2_init 13 = .ok (.bipush 64, 2) := by decide +kernel
theorem dX2_init_15 : decode cX2_init 15 = .ok (.newarray .int, 2) := by decide +kernel
theorem dX2_init_17 : decode cX2_init 17 = .ok (.putfield 15, 3) := by decide +kernel
theorem dX2_init_20 : decode cX2_init 20 = .ok (.aload_n 0, 1) := by decide +kernel
theorem dX2_init_21 : decode cX2_init 21 = .ok (.bipush 64, 2) := by decide +kernel
theorem dX2_init_23 : decode cX2_init 23 = .ok (.newarray .int, 2) := by decide +kernel
theorem dX2_init_25 : decode cX2_init 25 = .ok (.putfield 18, 3) := by decide +kernel
theorem dX2_init_28 : decode cX2_init 28 = .ok (.aload_n 0, 1) := by decide +kernel
theorem dX2_init_29 : decode cX2_init 29 = .ok (.bipush 64, 2) := by decide +kernel
theorem dX2_init_31 : decode cX2_init 31 = .ok (.newarray .int, 2) := by decide +kernel
theorem dX2_init_33 : decode cX2_init 33 = .ok (.putfield 21, 3) := by decide +kernel
theorem dX2_init_36 : decode cX2_init 36 = .ok (.aload_n 0, 1) := by decide +kernel
theorem dX2_init_37 : decode cX2_init 37 = .ok (.bipush 64, 2) := by decide +kernel
theorem dX2_init_39 : decode cX2_init 39 = .ok (.newarray .int, 2) := by decide +kernel
theorem dX2_init_41 : decode cX2_init 41 = .ok (.putfield 24, 3) := by decide +kernel
theorem dX2_init_44 : decode cX2_init 44 = .ok (.aload_n 0, 1) := by decide +kernel
theorem dX2_init_45 : decode cX2_init 45 = .ok (.bipush 64, 2) := by decide +kernel
theorem dX2_init_47 : decode cX2_init 47 = .ok (.newarray .int, 2) := by decide +kernel
theorem dX2_init_49 : decode cX2_init 49 = .ok (.putfield 27, 3) := by decide +kernel
theorem dX2_init_52 : decode cX2_init 52 = .ok (.aload_n 0, 1) := by decide +kernel
theorem dX2_init_53 : decode cX2_init 53 = .ok (.bipush 64, 2) := by decide +kernel
theorem dX2_init_55 : decode cX2_init 55 = .ok (.newarray .int, 2) := by decide +kernel
theorem dX2_init_57 : decode cX2_init 57 = .ok (.putfield 30, 3) := by decide +kernel
theorem dX2_init_60 : decode cX2_init 60 = .ok (.aload_n 0, 1) := by decide +kernel
theorem dX2_init_61 : decode cX2_init 61 = .ok (.iconst 0, 1) := by decide +kernel
theorem dX2_init_62 : decode cX2_init 62 = .ok (.putfield 33, 3) := by decide +kernel
theorem dX2_init_65 : decode cX2_init 65 = .ok (.aload_n 0, 1) := by decide +kernel
theorem dX2_init_66 : decode cX2_init 66 = .ok (.iconst 0, 1) := by decide +kernel
theorem dX2_init_67 : decode cX2_init 67 = .ok (.putfield 37, 3) := by decide +kernel
theorem dX2_init_70 : decode cX2_init 70 = .ok (.return_, 1) := by decide +kernel
set_option maxRecDepth 20000 in
theorem ggX2_begin_X2_put : GoodIn wsX2_begin wsX2_put := goodIn_r _ [7, 8, 9, 10, 11, 12, 13, 14, 15, 6, 16, 17, 18, 19, 20, 21, 22, 23, 24, 25, 26, 27, 28] (by decide +kernel) (by decide +kernel)
set_option maxRecDepth 20000 in
theorem gX2_begin_X2_put : GoodIn wsX2_begin (wsV RX2 40 RX2 yX2_put wsX2_put) := goodIn_app (goodIn_of _ (by decide +kernel)) ggX2_begin_X2_put
theorem dX2_begin_0 : decode cX2_begin 0 = .ok (.aload_n 0, 1) := by decide +kernel
theorem dX2_begin_1 : decode cX2_begin 1 = .ok (.iconst 2, 1) := by decide +kernel
theorem dX2_begin_2 : decode cX2_begin 2 = .ok (.putfield 33, 3) := by decide +kernel
theorem dX2_begin_5 : decode cX2_begin 5 = .ok (.aload_n 0, 1) := by decide +kernel
theorem dX2_begin_6 : decode cX2_begin 6 = .ok (.iconst 0, 1) := by decide +kernel
theorem dX2_begin_7 : decode cX2_begin 7 = .ok (.putfield 37, 3) := by decide +kernel
theorem dX2_begin_10 : decode cX2_begin 10 = .ok (.aload_n 0, 1) := by decide +kernel
theorem dX2_begin_11 : decode cX2_begin 11 = .ok (.iconst 1, 1) := by decide +kernel
theorem dX2_begin_12 : decode cX2_begin 12 = .ok (.iconst 0, 1) := by decide +kernel
theorem dX2_begin_13 : decode cX2_begin 13 = .ok (.iload_n 1, 1) := by decide +kernel
theorem dX2_begin_14 : decode cX2_begin 14 = .ok (.iconst 0, 1) := by decide +kernel
theorem dX2_begin_15 : decode cX2_begin 15 = .ok (.invokevirtual 40, 3) := by decide +kernel
theorem dX2_begin_18 : decode cX2_begin 18 = .ok (.return_, 1) := by decide +kernel
theorem dX2_made_0 : decode cX2_made 0 = .ok (.aload_n 0, 1) := by decide +kernel
theorem dX2_made_1 : decode cX2_made 1 = .ok (.getfield 33, 3) := by decide +kernel
theorem dX2_made_4 : decode cX2_made 4 = .ok (.ireturn, 1) := by decide +kernel
theorem dX2_kindOf_0 : decode cX2_kindOf 0 = .ok (.aload_n 0, 1) := by decide +kernel
theorem dX2_kindOf_1 : decode cX2_kindOf 1 = .ok (.getfield 18, 3) := by decide +kernel
theorem dX2_kindOf_4 : decode cX2_kindOf 4 = .ok (.iload_n 1, 1) := by decide +kernel
theorem dX2_kindOf_5 : decode cX2_kindOf 5 = .ok (.iaload, 1) := by decide +kernel
theorem dX2_kindOf_6 : decode cX2_kindOf 6 = .ok (.ireturn, 1) := by decide +kernel
theorem dX2_addressOf_0 : decode cX2_addressOf 0 = .ok (.aload_n 0, 1) := by decide +kernel
theorem dX2_addressOf_1 : decode cX2_addressOf 1 = .ok (.getfield 21, 3) := by decide +kernel
theorem dX2_addressOf_4 : decode cX2_addressOf 4 = .ok (.iload_n 1, 1) := by decide +kernel
theorem dX2_addressOf_5 : decode cX2_addressOf 5 = .ok (.iaload, 1) := by decide +kernel
theorem dX2_addressOf_6 : decode cX2_addressOf 6 = .ok (.ireturn, 1) := by decide +kernel
theorem dX2_requestOf_0 : decode cX2_requestOf 0 = .ok (.aload_n 0, 1) := by decide +kernel
theorem dX2_requestOf_1 : decode cX2_requestOf 1 = .ok (.getfield 24, 3) := by decide +kernel
theorem dX2_requestOf_4 : decode cX2_requestOf 4 = .ok (.iload_n 1, 1) := by decide +kernel
theorem dX2_requestOf_5 : decode cX2_requestOf 5 = .ok (.iaload, 1) := by decide +kernel
theorem dX2_requestOf_6 : decode cX2_requestOf 6 = .ok (.ireturn, 1) := by decide +kernel
theorem dX2_parentOf_0 : decode cX2_parentOf 0 = .ok (.aload_n 0, 1) := by decide +kernel
theorem dX2_parentOf_1 : decode cX2_parentOf 1 = .ok (.getfield 11, 3) := by decide +kernel
theorem dX2_parentOf_4 : decode cX2_parentOf 4 = .ok (.iload_n 1, 1) := by decide +kernel
theorem dX2_parentOf_5 : decode cX2_parentOf 5 = .ok (.iaload, 1) := by decide +kernel
theorem dX2_parentOf_6 : decode cX2_parentOf 6 = .ok (.ireturn, 1) := by decide +kernel
theorem dX2_buddyOf_0 : decode cX2_buddyOf 0 = .ok (.iload_n 1, 1) := by decide +kernel
theorem dX2_buddyOf_1 : decode cX2_buddyOf 1 = .ok (.iconst 1, 1) := by decide +kernel
theorem dX2_buddyOf_2 : decode cX2_buddyOf 2 = .ok (.ixor, 1) := by decide +kernel
theorem dX2_buddyOf_3 : decode cX2_buddyOf 3 = .ok (.ireturn, 1) := by decide +kernel
theorem dX2_childOf_0 : decode cX2_childOf 0 = .ok (.aload_n 0, 1) := by decide +kernel
theorem dX2_childOf_1 : decode cX2_childOf 1 = .ok (.getfield 15, 3) := by decide +kernel
theorem dX2_childOf_4 : decode cX2_childOf 4 = .ok (.iload_n 1, 1) := by decide +kernel
theorem dX2_childOf_5 : decode cX2_childOf 5 = .ok (.iaload, 1) := by decide +kernel
theorem dX2_childOf_6 : decode cX2_childOf 6 = .ok (.ireturn, 1) := by decide +kernel
theorem dX2_unsplitNodes_0 : decode cX2_unsplitNodes 0 = .ok (.aload_n 0, 1) := by decide +kernel
theorem dX2_unsplitNodes_1 : decode cX2_unsplitNodes 1 = .ok (.getfield 30, 3) := by decide +kernel
theorem dX2_unsplitNodes_4 : decode cX2_unsplitNodes 4 = .ok (.iconst 1, 1) := by decide +kernel
theorem dX2_unsplitNodes_5 : decode cX2_unsplitNodes 5 = .ok (.iaload, 1) := by decide +kernel
theorem dX2_unsplitNodes_6 : decode cX2_unsplitNodes 6 = .ok (.ireturn, 1) := by decide +kernel
theorem dX2_isFree_0 : decode cX2_isFree 0 = .ok (.iload_n 1, 1) := by decide +kernel
theorem dX2_isFree_1 : decode cX2_isFree 1 = .ok (.ifCond .eq 25, 3) := by decide +kernel
theorem dX2_isFree_4 : decode cX2_isFree 4 = .ok (.aload_n 0, 1) := by decide +kernel
theorem dX2_isFree_5 : decode cX2_isFree 5 = .ok (.getfield 15, 3) := by decide +kernel
theorem dX2_isFree_8 : decode cX2_isFree 8 = .ok (.iload_n 1, 1) := by decide +kernel
theorem dX2_isFree_9 : decode cX2_isFree 9 = .ok (.iaload, 1) := by decide +kernel
theorem dX2_isFree_10 : decode cX2_isFree 10 = .ok (.ifCond .ne 16, 3) := by decide +kernel
theorem dX2_isFree_13 : decode cX2_isFree 13 = .ok (.aload_n 0, 1) := by decide +kernel
theorem dX2_isFree_14 : decode cX2_isFree 14 = .ok (.getfield 24, 3) := by decide +kernel
theorem dX2_isFree_17 : decode cX2_isFree 17 = .ok (.iload_n 1, 1) := by decide +kernel
theorem dX2_isFree_18 : decode cX2_isFree 18 = .ok (.iaload, 1) := by decide +kernel
theorem dX2_isFree_19 : decode cX2_isFree 19 = .ok (.ifCond .ne 7, 3) := by decide +kernel
theorem dX2_isFree_22 : decode cX2_isFree 22 = .ok (.iconst 1, 1) := by decide +kernel
theorem dX2_isFree_23 : decode cX2_isFree 23 = .ok (.goto 4, 3) := by decide +kernel
theorem dX2_isFree_26 : decode cX2_isFree 26 = .ok (.iconst 0, 1) := by decide +kernel
theorem dX2_isFree_27 : decode cX2_isFree 27 = .ok (.ireturn, 1) := by decide +kernel
theorem dX2_hasLive_0 : decode cX2_hasLive 0 = .ok (.aload_n 0, 1) := by decide +kernel
theorem dX2_hasLive_1 : decode cX2_hasLive 1 = .ok (.getfield 27, 3) := by decide +kernel
theorem dX2_hasLive_4 : decode cX2_hasLive 4 = .ok (.iload_n 1, 1) := by decide +kernel
theorem dX2_hasLive_5 : decode cX2_hasLive 5 = .ok (.iaload, 1) := by decide +kernel
theorem dX2_hasLive_6 : decode cX2_hasLive 6 = .ok (.ldc 44, 2) := by decide +kernel
theorem dX2_hasLive_8 : decode cX2_hasLive 8 = .ok (.iand, 1) := by decide +kernel
theorem dX2_hasLive_9 : decode cX2_hasLive 9 = .ok (.ifCond .eq 7, 3) := by decide +kernel
theorem dX2_hasLive_12 : decode cX2_hasLive 12 = .ok (.iconst 1, 1) := by decide +kernel
theorem dX2_hasLive_13 : decode cX2_hasLive 13 = .ok (.goto 4, 3) := by decide +kernel
theorem dX2_hasLive_16 : decode cX2_hasLive 16 = .ok (.iconst 0, 1) := by decide +kernel
theorem dX2_hasLive_17 : decode cX2_hasLive 17 = .ok (.ireturn, 1) := by decide +kernel
theorem dX2_hasFree_0 : decode cX2_hasFree 0 = .ok (.aload_n 0, 1) := by decide +kernel
theorem dX2_hasFree_1 : decode cX2_hasFree 1 = .ok (.getfield 27, 3) := by decide +kernel
theorem dX2_hasFree_4 : decode cX2_hasFree 4 = .ok (.iconst 1, 1) := by decide +kernel
theorem dX2_hasFree_5 : decode cX2_hasFree 5 = .ok (.iaload, 1) := by decide +kernel
theorem dX2_hasFree_6 : decode cX2_hasFree 6 = .ok (.iload_n 1, 1) := by decide +kernel
theorem dX2_hasFree_7 : decode cX2_hasFree 7 = .ok (.ishr, 1) := by decide +kernel
theorem dX2_hasFree_8 : decode cX2_hasFree 8 = .ok (.iconst 1, 1) := by decide +kernel
theorem dX2_hasFree_9 : decode cX2_hasFree 9 = .ok (.iand, 1) := by decide +kernel
theorem dX2_hasFree_10 : decode cX2_hasFree 10 = .ok (.iconst 1, 1) := by decide +kernel
theorem dX2_hasFree_11 : decode cX2_hasFree 11 = .ok (.if_icmp .ne 7, 3) := by decide +kernel
theorem dX2_hasFree_14 : decode cX2_hasFree 14 = .ok (.iconst 1, 1) := by decide +kernel
theorem dX2_hasFree_15 : decode cX2_hasFree 15 = .ok (.goto 4, 3) := by decide +kernel
theorem dX2_hasFree_18 : decode cX2_hasFree 18 = .ok (.iconst 0, 1) := by decide +kernel
theorem dX2_hasFree_19 : decode cX2_hasFree 19 = .ok (.ireturn, 1) := by decide +kernel
theorem dX2_depthOf_0 : decode cX2_depthOf 0 = .ok (.iconst 0, 1) := by decide +kernel
theorem dX2_depthOf_1 : decode cX2_depthOf 1 = .ok (.istore_n 2, 1) := by decide +kernel
theorem dX2_depthOf_2 : decode cX2_depthOf 2 = .ok (.iload_n 1, 1) := by decide +kernel
theorem dX2_depthOf_3 : decode cX2_depthOf 3 = .ok (.istore_n 3, 1) := by decide +kernel
theorem dX2_depthOf_4 : decode cX2_depthOf 4 = .ok (.iload_n 3, 1) := by decide +kernel
theorem dX2_depthOf_5 : decode cX2_depthOf 5 = .ok (.iconst 1, 1) := by decide +kernel
theorem dX2_depthOf_6 : decode cX2_depthOf 6 = .ok (.if_icmp .eq 22, 3) := by decide +kernel
theorem dX2_depthOf_9 : decode cX2_depthOf 9 = .ok (.iload_n 2, 1) := by decide +kernel
theorem dX2_depthOf_10 : decode cX2_depthOf 10 = .ok (.bipush 24, 2) := by decide +kernel
theorem dX2_depthOf_12 : decode cX2_depthOf 12 = .ok (.if_icmp .ge 16, 3) := by decide +kernel
theorem dX2_depthOf_15 : decode cX2_depthOf 15 = .ok (.iinc 2 1, 3) := by decide +kernel
theorem dX2_depthOf_18 : decode cX2_depthOf 18 = .ok (.aload_n 0, 1) := by decide +kernel
theorem dX2_depthOf_19 : decode cX2_depthOf 19 = .ok (.getfield 11, 3) := by decide +kernel
theorem dX2_depthOf_22 : decode cX2_depthOf 22 = .ok (.iload_n 3, 1) := by decide +kernel
theorem dX2_depthOf_23 : decode cX2_depthOf 23 = .ok (.iaload, 1) := by decide +kernel
theorem dX2_depthOf_24 : decode cX2_depthOf 24 = .ok (.istore_n 3, 1) := by decide +kernel
theorem dX2_depthOf_25 : decode cX2_depthOf 25 = .ok (.goto (-21), 3) := by decide +kernel
theorem dX2_depthOf_28 : decode cX2_depthOf 28 = .ok (.iload_n 2, 1) := by decide +kernel
theorem dX2_depthOf_29 : decode cX2_depthOf 29 = .ok (.ireturn, 1) := by decide +kernel
set_option maxRecDepth 20000 in
theorem ggX2_sideAt_X2_depthOf : GoodIn wsX2_sideAt wsX2_depthOf := goodIn_r _ [6, 1, 7, 8, 9, 10, 11, 12, 13, 14, 15] (by decide +kernel) (by decide +kernel)
set_option maxRecDepth 20000 in
theorem gX2_sideAt_X2_depthOf : GoodIn wsX2_sideAt (wsV RX2 45 RX2 yX2_depthOf wsX2_depthOf) := goodIn_app (goodIn_of _ (by decide +kernel)) ggX2_sideAt_X2_depthOf
theorem dX2_sideAt_0 : decode cX2_sideAt 0 = .ok (.aload_n 0, 1) := by decide +kernel
theorem dX2_sideAt_1 : decode cX2_sideAt 1 = .ok (.iload_n 1, 1) := by decide +kernel
theorem dX2_sideAt_2 : decode cX2_sideAt 2 = .ok (.invokevirtual 45, 3) := by decide +kernel
theorem dX2_sideAt_5 : decode cX2_sideAt 5 = .ok (.iconst 1, 1) := by decide +kernel
theorem dX2_sideAt_6 : decode cX2_sideAt 6 = .ok (.isub, 1) := by decide +kernel
theorem dX2_sideAt_7 : decode cX2_sideAt 7 = .ok (.iload_n 2, 1) := by decide +kernel
theorem dX2_sideAt_8 : decode cX2_sideAt 8 = .ok (.isub, 1) := by decide +kernel
theorem dX2_sideAt_9 : decode cX2_sideAt 9 = .ok (.istore_n 3, 1) := by decide +kernel
theorem dX2_sideAt_10 : decode cX2_sideAt 10 = .ok (.iload_n 3, 1) := by decide +kernel
theorem dX2_sideAt_11 : decode cX2_sideAt 11 = .ok (.ifCond .ge 5, 3) := by decide +kernel
theorem dX2_sideAt_14 : decode cX2_sideAt 14 = .ok (.iconst (-1), 1) := by decide +kernel
theorem dX2_sideAt_15 : decode cX2_sideAt 15 = .ok (.ireturn, 1) := by decide +kernel
theorem dX2_sideAt_16 : decode cX2_sideAt 16 = .ok (.iload_n 1, 1) := by decide +kernel
theorem dX2_sideAt_17 : decode cX2_sideAt 17 = .ok (.istore 4, 2) := by decide +kernel
theorem dX2_sideAt_19 : decode cX2_sideAt 19 = .ok (.iconst 0, 1) := by decide +kernel
theorem dX2_sideAt_20 : decode cX2_sideAt 20 = .ok (.istore 5, 2) := by decide +kernel
theorem dX2_sideAt_22 : decode cX2_sideAt 22 = .ok (.iload 5, 2) := by decide +kernel
theorem dX2_sideAt_24 : decode cX2_sideAt 24 = .ok (.iload_n 3, 1) := by decide +kernel
theorem dX2_sideAt_25 : decode cX2_sideAt 25 = .ok (.if_icmp .ge 18, 3) := by decide +kernel
theorem dX2_sideAt_28 : decode cX2_sideAt 28 = .ok (.aload_n 0, 1) := by decide +kernel
theorem dX2_sideAt_29 : decode cX2_sideAt 29 = .ok (.getfield 11, 3) := by decide +kernel
theorem dX2_sideAt_32 : decode cX2_sideAt 32 = .ok (.iload 4, 2) := by decide +kernel
theorem dX2_sideAt_34 : decode cX2_sideAt 34 = .ok (.iaload, 1) := by decide +kernel
theorem dX2_sideAt_35 : decode cX2_sideAt 35 = .ok (.istore 4, 2) := by decide +kernel
theorem dX2_sideAt_37 : decode cX2_sideAt 37 = .ok (.iinc 5 1, 3) := by decide +kernel
theorem dX2_sideAt_40 : decode cX2_sideAt 40 = .ok (.goto (-18), 3) := by decide +kernel
theorem dX2_sideAt_43 : decode cX2_sideAt 43 = .ok (.iload 4, 2) := by decide +kernel
theorem dX2_sideAt_45 : decode cX2_sideAt 45 = .ok (.iconst 1, 1) := by decide +kernel
theorem dX2_sideAt_46 : decode cX2_sideAt 46 = .ok (.iand, 1) := by decide +kernel
theorem dX2_sideAt_47 : decode cX2_sideAt 47 = .ok (.ireturn, 1) := by decide +kernel
theorem dX2_liveAt_0 : decode cX2_liveAt 0 = .ok (.iconst 1, 1) := by decide +kernel
theorem dX2_liveAt_1 : decode cX2_liveAt 1 = .ok (.istore_n 2, 1) := by decide +kernel
theorem dX2_liveAt_2 : decode cX2_liveAt 2 = .ok (.iconst 0, 1) := by decide +kernel
theorem dX2_liveAt_3 : decode cX2_liveAt 3 = .ok (.istore_n 3, 1) := by decide +kernel
theorem dX2_liveAt_4 : decode cX2_liveAt 4 = .ok (.iload_n 3, 1) := by decide +kernel
theorem dX2_liveAt_5 : decode cX2_liveAt 5 = .ok (.bipush 24, 2) := by decide +kernel
theorem dX2_liveAt_7 : decode cX2_liveAt 7 = .ok (.if_icmp .ge 49, 3) := by decide +kernel
theorem dX2_liveAt_10 : decode cX2_liveAt 10 = .ok (.aload_n 0, 1) := by decide +kernel
theorem dX2_liveAt_11 : decode cX2_liveAt 11 = .ok (.getfield 15, 3) := by decide +kernel
theorem dX2_liveAt_14 : decode cX2_liveAt 14 = .ok (.iload_n 2, 1) := by decide +kernel
theorem dX2_liveAt_15 : decode cX2_liveAt 15 = .ok (.iaload, 1) := by decide +kernel
theorem dX2_liveAt_16 : decode cX2_liveAt 16 = .ok (.ifCond .eq 40, 3) := by decide +kernel
theorem dX2_liveAt_19 : decode cX2_liveAt 19 = .ok (.aload_n 0, 1) := by decide +kernel
theorem dX2_liveAt_20 : decode cX2_liveAt 20 = .ok (.getfield 15, 3) := by decide +kernel
theorem dX2_liveAt_23 : decode cX2_liveAt 23 = .ok (.iload_n 2, 1) := by decide +kernel
theorem dX2_liveAt_24 : decode cX2_liveAt 24 = .ok (.iaload, 1) := by decide +kernel
theorem dX2_liveAt_25 : decode cX2_liveAt 25 = .ok (.iconst 1, 1) := by decide +kernel
theorem dX2_liveAt_26 : decode cX2_liveAt 26 = .ok (.iadd, 1) := by decide +kernel
theorem dX2_liveAt_27 : decode cX2_liveAt 27 = .ok (.istore 4, 2) := by decide +kernel
theorem dX2_liveAt_29 : decode cX2_liveAt 29 = .ok (.iload_n 1, 1) := by decide +kernel
theorem dX2_liveAt_30 : decode cX2_liveAt 30 = .ok (.aload_n 0, 1) := by decide +kernel
theorem dX2_liveAt_31 : decode cX2_liveAt 31 = .ok (.getfield 21, 3) := by decide +kernel
theorem dX2_liveAt_34 : decode cX2_liveAt 34 = .ok (.iload 4, 2) := by decide +kernel
theorem dX2_liveAt_36 : decode cX2_liveAt 36 = .ok (.iaload, 1) := by decide +kernel
theorem dX2_liveAt_37 : decode cX2_liveAt 37 = .ok (.if_icmp .ge 10, 3) := by decide +kernel
theorem dX2_liveAt_40 : decode cX2_liveAt 40 = .ok (.iload 4, 2) := by decide +kernel
theorem dX2_liveAt_42 : decode cX2_liveAt 42 = .ok (.iconst 1, 1) := by decide +kernel
theorem dX2_liveAt_43 : decode cX2_liveAt 43 = .ok (.isub, 1) := by decide +kernel
theorem dX2_liveAt_44 : decode cX2_liveAt 44 = .ok (.goto 5, 3) := by decide +kernel
theorem dX2_liveAt_47 : decode cX2_liveAt 47 = .ok (.iload 4, 2) := by decide +kernel
theorem dX2_liveAt_49 : decode cX2_liveAt 49 = .ok (.istore_n 2, 1) := by decide +kernel
theorem dX2_liveAt_50 : decode cX2_liveAt 50 = .ok (.iinc 3 1, 3) := by decide +kernel
theorem dX2_liveAt_53 : decode cX2_liveAt 53 = .ok (.goto (-49), 3) := by decide +kernel
theorem dX2_liveAt_56 : decode cX2_liveAt 56 = .ok (.aload_n 0, 1) := by decide +kernel
theorem dX2_liveAt_57 : decode cX2_liveAt 57 = .ok (.getfield 21, 3) := by decide +kernel
theorem dX2_liveAt_60 : decode cX2_liveAt 60 = .ok (.iload_n 2, 1) := by decide +kernel
theorem dX2_liveAt_61 : decode cX2_liveAt 61 = .ok (.iaload, 1) := by decide +kernel
theorem dX2_liveAt_62 : decode cX2_liveAt 62 = .ok (.iload_n 1, 1) := by decide +kernel
theorem dX2_liveAt_63 : decode cX2_liveAt 63 = .ok (.if_icmp .ne 16, 3) := by decide +kernel
theorem dX2_liveAt_66 : decode cX2_liveAt 66 = .ok (.aload_n 0, 1) := by decide +kernel
theorem dX2_liveAt_67 : decode cX2_liveAt 67 = .ok (.getfield 24, 3) := by decide +kernel
theorem dX2_liveAt_70 : decode cX2_liveAt 70 = .ok (.iload_n 2, 1) := by decide +kernel
theorem dX2_liveAt_71 : decode cX2_liveAt 71 = .ok (.iaload, 1) := by decide +kernel
theorem dX2_liveAt_72 : decode cX2_liveAt 72 = .ok (.ifCond .le 7, 3) := by decide +kernel
theorem dX2_liveAt_75 : decode cX2_liveAt 75 = .ok (.iload_n 2, 1) := by decide +kernel
theorem dX2_liveAt_76 : decode cX2_liveAt 76 = .ok (.goto 4, 3) := by decide +kernel
theorem dX2_liveAt_79 : decode cX2_liveAt 79 = .ok (.iconst 0, 1) := by decide +kernel
theorem dX2_liveAt_80 : decode cX2_liveAt 80 = .ok (.ireturn, 1) := by decide +kernel
theorem dX2_unsplitAt_0 : decode cX2_unsplitAt 0 = .ok (.iload_n 1, 1) := by decide +kernel
theorem dX2_unsplitAt_1 : decode cX2_unsplitAt 1 = .ok (.ifCond .lt 13, 3) := by decide +kernel
theorem dX2_unsplitAt_4 : decode cX2_unsplitAt 4 = .ok (.iload_n 1, 1) := by decide +kernel
theorem dX2_unsplitAt_5 : decode cX2_unsplitAt 5 = .ok (.aload_n 0, 1) := by decide +kernel
theorem dX2_unsplitAt_6 : decode cX2_unsplitAt 6 = .ok (.getfield 30, 3) := by decide +kernel
theorem dX2_unsplitAt_9 : decode cX2_unsplitAt 9 = .ok (.iconst 1, 1) := by decide +kernel
theorem dX2_unsplitAt_10 : decode cX2_unsplitAt 10 = .ok (.iaload, 1) := by decide +kernel
theorem dX2_unsplitAt_11 : decode cX2_unsplitAt 11 = .ok (.if_icmp .lt 5, 3) := by decide +kernel
theorem dX2_unsplitAt_14 : decode cX2_unsplitAt 14 = .ok (.iconst 0, 1) := by decide +kernel
theorem dX2_unsplitAt_15 : decode cX2_unsplitAt 15 = .ok (.ireturn, 1) := by decide +kernel
theorem dX2_unsplitAt_16 : decode cX2_unsplitAt 16 = .ok (.iconst 1, 1) := by decide +kernel
theorem dX2_unsplitAt_17 : decode cX2_unsplitAt 17 = .ok (.istore_n 2, 1) := by decide +kernel
theorem dX2_unsplitAt_18 : decode cX2_unsplitAt 18 = .ok (.iload_n 1, 1) := by decide +kernel
theorem dX2_unsplitAt_19 : decode cX2_unsplitAt 19 = .ok (.istore_n 3, 1) := by decide +kernel
theorem dX2_unsplitAt_20 : decode cX2_unsplitAt 20 = .ok (.iconst 0, 1) := by decide +kernel
theorem dX2_unsplitAt_21 : decode cX2_unsplitAt 21 = .ok (.istore 4, 2) := by decide +kernel
theorem dX2_unsplitAt_23 : decode cX2_unsplitAt 23 = .ok (.iload 4, 2) := by decide +kernel
theorem dX2_unsplitAt_25 : decode cX2_unsplitAt 25 = .ok (.bipush 24, 2) := by decide +kernel
theorem dX2_unsplitAt_27 : decode cX2_unsplitAt 27 = .ok (.if_icmp .ge 47, 3) := by decide +kernel
theorem dX2_unsplitAt_30 : decode cX2_unsplitAt 30 = .ok (.aload_n 0, 1) := by decide +kernel
theorem dX2_unsplitAt_31 : decode cX2_unsplitAt 31 = .ok (.getfield 15, 3) := by decide +kernel
theorem dX2_unsplitAt_34 : decode cX2_unsplitAt 34 = .ok (.iload_n 2, 1) := by decide +kernel
theorem dX2_unsplitAt_35 : decode cX2_unsplitAt 35 = .ok (.iaload, 1) := by decide +kernel
theorem dX2_unsplitAt_36 : decode cX2_unsplitAt 36 = .ok (.ifCond .eq 38, 3) := by decide +kernel
theorem dX2_unsplitAt_39 : decode cX2_unsplitAt 39 = .ok (.aload_n 0, 1) := by decide +kernel
theorem dX2_unsplitAt_40 : decode cX2_unsplitAt 40 = .ok (.getfield 15, 3) := by decide +kernel
theorem dX2_unsplitAt_43 : decode cX2_unsplitAt 43 = .ok (.iload_n 2, 1) := by decide +kernel
theorem dX2_unsplitAt_44 : decode cX2_unsplitAt 44 = .ok (.iaload, 1) := by decide +kernel
theorem dX2_unsplitAt_45 : decode cX2_unsplitAt 45 = .ok (.istore_n 2, 1) := by decide +kernel
theorem dX2_unsplitAt_46 : decode cX2_unsplitAt 46 = .ok (.iload_n 3, 1) := by decide +kernel
theorem dX2_unsplitAt_47 : decode cX2_unsplitAt 47 = .ok (.aload_n 0, 1) := by decide +kernel
theorem dX2_unsplitAt_48 : decode cX2_unsplitAt 48 = .ok (.getfield 30, 3) := by decide +kernel
theorem dX2_unsplitAt_51 : decode cX2_unsplitAt 51 = .ok (.iload_n 2, 1) := by decide +kernel
theorem dX2_unsplitAt_52 : decode cX2_unsplitAt 52 = .ok (.iaload, 1) := by decide +kernel
theorem dX2_unsplitAt_53 : decode cX2_unsplitAt 53 = .ok (.if_icmp .lt 15, 3) := by decide +kernel
theorem dX2_unsplitAt_56 : decode cX2_unsplitAt 56 = .ok (.iload_n 3, 1) := by decide +kernel
theorem dX2_unsplitAt_57 : decode cX2_unsplitAt 57 = .ok (.aload_n 0, 1) := by decide +kernel
theorem dX2_unsplitAt_58 : decode cX2_unsplitAt 58 = .ok (.getfield 30, 3) := by decide +kernel
theorem dX2_unsplitAt_61 : decode cX2_unsplitAt 61 = .ok (.iload_n 2, 1) := by decide +kernel
theorem dX2_unsplitAt_62 : decode cX2_unsplitAt 62 = .ok (.iaload, 1) := by decide +kernel
theorem dX2_unsplitAt_63 : decode cX2_unsplitAt 63 = .ok (.isub, 1) := by decide +kernel
theorem dX2_unsplitAt_64 : decode cX2_unsplitAt 64 = .ok (.istore_n 3, 1) := by decide +kernel
theorem dX2_unsplitAt_65 : decode cX2_unsplitAt 65 = .ok (.iinc 2 1, 3) := by decide +kernel
theorem dX2_unsplitAt_68 : decode cX2_unsplitAt 68 = .ok (.iinc 4 1, 3) := by decide +kernel
theorem dX2_unsplitAt_71 : decode cX2_unsplitAt 71 = .ok (.goto (-48), 3) := by decide +kernel
theorem dX2_unsplitAt_74 : decode cX2_unsplitAt 74 = .ok (.iload_n 2, 1) := by decide +kernel
theorem dX2_unsplitAt_75 : decode cX2_unsplitAt 75 = .ok (.ireturn, 1) := by decide +kernel
theorem dX2_outermost_0 : decode cX2_outermost 0 = .ok (.aload_n 0, 1) := by decide +kernel
theorem dX2_outermost_1 : decode cX2_outermost 1 = .ok (.getfield 27, 3) := by decide +kernel
theorem dX2_outermost_4 : decode cX2_outermost 4 = .ok (.iconst 1, 1) := by decide +kernel
theorem dX2_outermost_5 : decode cX2_outermost 5 = .ok (.iaload, 1) := by decide +kernel
theorem dX2_outermost_6 : decode cX2_outermost 6 = .ok (.iload_n 1, 1) := by decide +kernel
theorem dX2_outermost_7 : decode cX2_outermost 7 = .ok (.iand, 1) := by decide +kernel
theorem dX2_outermost_8 : decode cX2_outermost 8 = .ok (.ifCond .ne 5, 3) := by decide +kernel
theorem dX2_outermost_11 : decode cX2_outermost 11 = .ok (.iconst 0, 1) := by decide +kernel
theorem dX2_outermost_12 : decode cX2_outermost 12 = .ok (.ireturn, 1) := by decide +kernel
theorem dX2_outermost_13 : decode cX2_outermost 13 = .ok (.iconst 1, 1) := by decide +kernel
theorem dX2_outermost_14 : decode cX2_outermost 14 = .ok (.istore_n 3, 1) := by decide +kernel
theorem dX2_outermost_15 : decode cX2_outermost 15 = .ok (.iconst 0, 1) := by decide +kernel
theorem dX2_outermost_16 : decode cX2_outermost 16 = .ok (.istore 4, 2) := by decide +kernel
theorem dX2_outermost_18 : decode cX2_outermost 18 = .ok (.iload 4, 2) := by decide +kernel
theorem dX2_outermost_20 : decode cX2_outermost 20 = .ok (.bipush 24, 2) := by decide +kernel
theorem dX2_outermost_22 : decode cX2_outermost 22 = .ok (.if_icmp .ge 50, 3) := by decide +kernel
theorem dX2_outermost_25 : decode cX2_outermost 25 = .ok (.aload_n 0, 1) := by decide +kernel
theorem dX2_outermost_26 : decode cX2_outermost 26 = .ok (.getfield 15, 3) := by decide +kernel
theorem dX2_outermost_29 : decode cX2_outermost 29 = .ok (.iload_n 3, 1) := by decide +kernel
theorem dX2_outermost_30 : decode cX2_outermost 30 = .ok (.iaload, 1) := by decide +kernel
theorem dX2_outermost_31 : decode cX2_outermost 31 = .ok (.ifCond .eq 41, 3) := by decide +kernel
theorem dX2_outermost_34 : decode cX2_outermost 34 = .ok (.aload_n 0, 1) := by decide +kernel
theorem dX2_outermost_35 : decode cX2_outermost 35 = .ok (.getfield 15, 3) := by decide +kernel
theorem dX2_outermost_38 : decode cX2_outermost 38 = .ok (.iload_n 3, 1) := by decide +kernel
theorem dX2_outermost_39 : decode cX2_outermost 39 = .ok (.iaload, 1) := by decide +kernel
theorem dX2_outermost_40 : decode cX2_outermost 40 = .ok (.iload_n 2, 1) := by decide +kernel
theorem dX2_outermost_41 : decode cX2_outermost 41 = .ok (.iadd, 1) := by decide +kernel
theorem dX2_outermost_42 : decode cX2_outermost 42 = .ok (.istore 5, 2) := by decide +kernel
theorem dX2_outermost_44 : decode cX2_outermost 44 = .ok (.aload_n 0, 1) := by decide +kernel
theorem dX2_outermost_45 : decode cX2_outermost 45 = .ok (.getfield 27, 3) := by decide +kernel
theorem dX2_outermost_48 : decode cX2_outermost 48 = .ok (.iload 5, 2) := by decide +kernel
theorem dX2_outermost_50 : decode cX2_outermost 50 = .ok (.iaload, 1) := by decide +kernel
theorem dX2_outermost_51 : decode cX2_outermost 51 = .ok (.iload_n 1, 1) := by decide +kernel
theorem dX2_outermost_52 : decode cX2_outermost 52 = .ok (.iand, 1) := by decide +kernel
theorem dX2_outermost_53 : decode cX2_outermost 53 = .ok (.ifCond .eq 8, 3) := by decide +kernel
theorem dX2_outermost_56 : decode cX2_outermost 56 = .ok (.iload 5, 2) := by decide +kernel
theorem dX2_outermost_58 : decode cX2_outermost 58 = .ok (.goto 7, 3) := by decide +kernel
theorem dX2_outermost_61 : decode cX2_outermost 61 = .ok (.iload 5, 2) := by decide +kernel
theorem dX2_outermost_63 : decode cX2_outermost 63 = .ok (.iconst 1, 1) := by decide +kernel
theorem dX2_outermost_64 : decode cX2_outermost 64 = .ok (.ixor, 1) := by decide +kernel
theorem dX2_outermost_65 : decode cX2_outermost 65 = .ok (.istore_n 3, 1) := by decide +kernel
theorem dX2_outermost_66 : decode cX2_outermost 66 = .ok (.iinc 4 1, 3) := by decide +kernel
theorem dX2_outermost_69 : decode cX2_outermost 69 = .ok (.goto (-51), 3) := by decide +kernel
theorem dX2_outermost_72 : decode cX2_outermost 72 = .ok (.iload_n 3, 1) := by decide +kernel
theorem dX2_outermost_73 : decode cX2_outermost 73 = .ok (.ireturn, 1) := by decide +kernel
set_option maxRecDepth 20000 in
theorem ggX2_joinable_X2_hasFreePair : GoodIn wsX2_joinable wsX2_hasFreePair := goodIn_r _ [7, 2, 8, 9, 10, 6, 11, 12, 13, 14, 15, 16, 17, 18, 19, 20, 21] (by decide +kernel) (by decide +kernel)
set_option maxRecDepth 20000 in
theorem gX2_joinable_X2_hasFreePair : GoodIn wsX2_joinable (wsV RX2 49 RX2 yX2_hasFreePair wsX2_hasFreePair) := goodIn_app (goodIn_of _ (by decide +kernel)) ggX2_joinable_X2_hasFreePair
theorem dX2_joinable_0 : decode cX2_joinable 0 = .ok (.aload_n 0, 1) := by decide +kernel
theorem dX2_joinable_1 : decode cX2_joinable 1 = .ok (.getfield 27, 3) := by decide +kernel
theorem dX2_joinable_4 : decode cX2_joinable 4 = .ok (.iconst 1, 1) := by decide +kernel
theorem dX2_joinable_5 : decode cX2_joinable 5 = .ok (.iaload, 1) := by decide +kernel
theorem dX2_joinable_6 : decode cX2_joinable 6 = .ok (.iconst 1, 1) := by decide +kernel
theorem dX2_joinable_7 : decode cX2_joinable 7 = .ok (.iand, 1) := by decide +kernel
theorem dX2_joinable_8 : decode cX2_joinable 8 = .ok (.ifCond .ne 5, 3) := by decide +kernel
theorem dX2_joinable_11 : decode cX2_joinable 11 = .ok (.iconst 0, 1) := by decide +kernel
theorem dX2_joinable_12 : decode cX2_joinable 12 = .ok (.ireturn, 1) := by decide +kernel
theorem dX2_joinable_13 : decode cX2_joinable 13 = .ok (.iconst 1, 1) := by decide +kernel
theorem dX2_joinable_14 : decode cX2_joinable 14 = .ok (.istore_n 1, 1) := by decide +kernel
theorem dX2_joinable_15 : decode cX2_joinable 15 = .ok (.iconst 0, 1) := by decide +kernel
theorem dX2_joinable_16 : decode cX2_joinable 16 = .ok (.istore_n 2, 1) := by decide +kernel
theorem dX2_joinable_17 : decode cX2_joinable 17 = .ok (.iload_n 2, 1) := by decide +kernel
theorem dX2_joinable_18 : decode cX2_joinable 18 = .ok (.bipush 24, 2) := by decide +kernel
theorem dX2_joinable_20 : decode cX2_joinable 20 = .ok (.if_icmp .ge 43, 3) := by decide +kernel
theorem dX2_joinable_23 : decode cX2_joinable 23 = .ok (.aload_n 0, 1) := by decide +kernel
theorem dX2_joinable_24 : decode cX2_joinable 24 = .ok (.iload_n 1, 1) := by decide +kernel
theorem dX2_joinable_25 : decode cX2_joinable 25 = .ok (.invokevirtual 49, 3) := by decide +kernel
theorem dX2_joinable_28 : decode cX2_joinable 28 = .ok (.ifCond .ne 35, 3) := by decide +kernel
theorem dX2_joinable_31 : decode cX2_joinable 31 = .ok (.aload_n 0, 1) := by decide +kernel
theorem dX2_joinable_32 : decode cX2_joinable 32 = .ok (.getfield 15, 3) := by decide +kernel
theorem dX2_joinable_35 : decode cX2_joinable 35 = .ok (.iload_n 1, 1) := by decide +kernel
theorem dX2_joinable_36 : decode cX2_joinable 36 = .ok (.iaload, 1) := by decide +kernel
theorem dX2_joinable_37 : decode cX2_joinable 37 = .ok (.istore_n 3, 1) := by decide +kernel
theorem dX2_joinable_38 : decode cX2_joinable 38 = .ok (.aload_n 0, 1) := by decide +kernel
theorem dX2_joinable_39 : decode cX2_joinable 39 = .ok (.getfield 27, 3) := by decide +kernel
theorem dX2_joinable_42 : decode cX2_joinable 42 = .ok (.iload_n 3, 1) := by decide +kernel
theorem dX2_joinable_43 : decode cX2_joinable 43 = .ok (.iaload, 1) := by decide +kernel
theorem dX2_joinable_44 : decode cX2_joinable 44 = .ok (.iconst 1, 1) := by decide +kernel
theorem dX2_joinable_45 : decode cX2_joinable 45 = .ok (.iand, 1) := by decide +kernel
theorem dX2_joinable_46 : decode cX2_joinable 46 = .ok (.ifCond .eq 7, 3) := by decide +kernel
theorem dX2_joinable_49 : decode cX2_joinable 49 = .ok (.iload_n 3, 1) := by decide +kernel
theorem dX2_joinable_50 : decode cX2_joinable 50 = .ok (.goto 6, 3) := by decide +kernel
theorem dX2_joinable_53 : decode cX2_joinable 53 = .ok (.iload_n 3, 1) := by decide +kernel
theorem dX2_joinable_54 : decode cX2_joinable 54 = .ok (.iconst 1, 1) := by decide +kernel
theorem dX2_joinable_55 : decode cX2_joinable 55 = .ok (.iadd, 1) := by decide +kernel
theorem dX2_joinable_56 : decode cX2_joinable 56 = .ok (.istore_n 1, 1) := by decide +kernel
theorem dX2_joinable_57 : decode cX2_joinable 57 = .ok (.iinc 2 1, 3) := by decide +kernel
theorem dX2_joinable_60 : decode cX2_joinable 60 = .ok (.goto (-43), 3) := by decide +kernel
theorem dX2_joinable_63 : decode cX2_joinable 63 = .ok (.iload_n 1, 1) := by decide +kernel
theorem dX2_joinable_64 : decode cX2_joinable 64 = .ok (.ireturn, 1) := by decide +kernel
theorem dX2_behind_0 : decode cX2_behind 0 = .ok (.iload_n 1, 1) := by decide +kernel
theorem dX2_behind_1 : decode cX2_behind 1 = .ok (.istore_n 2, 1) := by decide +kernel
theorem dX2_behind_2 : decode cX2_behind 2 = .ok (.iconst 0, 1) := by decide +kernel
theorem dX2_behind_3 : decode cX2_behind 3 = .ok (.istore_n 3, 1) := by decide +kernel
theorem dX2_behind_4 : decode cX2_behind 4 = .ok (.iload_n 3, 1) := by decide +kernel
theorem dX2_behind_5 : decode cX2_behind 5 = .ok (.bipush 24, 2) := by decide +kernel
theorem dX2_behind_7 : decode cX2_behind 7 = .ok (.if_icmp .ge 28, 3) := by decide +kernel
theorem dX2_behind_10 : decode cX2_behind 10 = .ok (.iload_n 2, 1) := by decide +kernel
theorem dX2_behind_11 : decode cX2_behind 11 = .ok (.iconst 1, 1) := by decide +kernel
theorem dX2_behind_12 : decode cX2_behind 12 = .ok (.if_icmp .eq 23, 3) := by decide +kernel
theorem dX2_behind_15 : decode cX2_behind 15 = .ok (.iload_n 2, 1) := by decide +kernel
theorem dX2_behind_16 : decode cX2_behind 16 = .ok (.iconst 1, 1) := by decide +kernel
theorem dX2_behind_17 : decode cX2_behind 17 = .ok (.iand, 1) := by decide +kernel
theorem dX2_behind_18 : decode cX2_behind 18 = .ok (.iconst 1, 1) := by decide +kernel
theorem dX2_behind_19 : decode cX2_behind 19 = .ok (.if_icmp .ne 16, 3) := by decide +kernel
theorem dX2_behind_22 : decode cX2_behind 22 = .ok (.aload_n 0, 1) := by decide +kernel
theorem dX2_behind_23 : decode cX2_behind 23 = .ok (.getfield 11, 3) := by decide +kernel
theorem dX2_behind_26 : decode cX2_behind 26 = .ok (.iload_n 2, 1) := by decide +kernel
theorem dX2_behind_27 : decode cX2_behind 27 = .ok (.iaload, 1) := by decide +kernel
theorem dX2_behind_28 : decode cX2_behind 28 = .ok (.istore_n 2, 1) := by decide +kernel
theorem dX2_behind_29 : decode cX2_behind 29 = .ok (.iinc 3 1, 3) := by decide +kernel
theorem dX2_behind_32 : decode cX2_behind 32 = .ok (.goto (-28), 3) := by decide +kernel
theorem dX2_behind_35 : decode cX2_behind 35 = .ok (.iload_n 2, 1) := by decide +kernel
theorem dX2_behind_36 : decode cX2_behind 36 = .ok (.iconst 1, 1) := by decide +kernel
theorem dX2_behind_37 : decode cX2_behind 37 = .ok (.if_icmp .ne 7, 3) := by decide +kernel
theorem dX2_behind_40 : decode cX2_behind 40 = .ok (.iconst 0, 1) := by decide +kernel
theorem dX2_behind_41 : decode cX2_behind 41 = .ok (.goto 6, 3) := by decide +kernel
theorem dX2_behind_44 : decode cX2_behind 44 = .ok (.iload_n 2, 1) := by decide +kernel
theorem dX2_behind_45 : decode cX2_behind 45 = .ok (.iconst 1, 1) := by decide +kernel
theorem dX2_behind_46 : decode cX2_behind 46 = .ok (.iadd, 1) := by decide +kernel
theorem dX2_behind_47 : decode cX2_behind 47 = .ok (.ireturn, 1) := by decide +kernel
set_option maxRecDepth 20000 in
theorem ggX2_wholeFrom_X2_hasLive : GoodIn wsX2_wholeFrom wsX2_hasLive := goodIn_r _ [7, 8, 9, 15, 16, 17, 18, 19, 20, 21, 22, 23] (by decide +kernel) (by decide +kernel)
set_option maxRecDepth 20000 in
theorem gX2_wholeFrom_X2_hasLive : GoodIn wsX2_wholeFrom (wsV RX2 53 RX2 yX2_hasLive wsX2_hasLive) := goodIn_app (goodIn_of _ (by decide +kernel)) ggX2_wholeFrom_X2_hasLive
set_option maxRecDepth 20000 in
theorem ggX2_wholeFrom_X2_behind : GoodIn wsX2_wholeFrom wsX2_behind := goodIn_r _ [13, 14, 15, 16, 17, 18, 19, 20, 21, 22, 23] (by decide +kernel) (by decide +kernel)
set_option maxRecDepth 20000 in
theorem gX2_wholeFrom_X2_behind : GoodIn wsX2_wholeFrom (wsV RX2 56 RX2 yX2_behind wsX2_behind) := goodIn_app (goodIn_of _ (by decide +kernel)) ggX2_wholeFrom_X2_behind
theorem dX2_wholeFrom_0 : decode cX2_wholeFrom 0 = .ok (.iload_n 1, 1) := by decide +kernel
theorem dX2_wholeFrom_1 : decode cX2_wholeFrom 1 = .ok (.istore_n 2, 1) := by decide +kernel
theorem dX2_wholeFrom_2 : decode cX2_wholeFrom 2 = .ok (.iconst 0, 1) := by decide +kernel
theorem dX2_wholeFrom_3 : decode cX2_wholeFrom 3 = .ok (.istore_n 3, 1) := by decide +kernel
theorem dX2_wholeFrom_4 : decode cX2_wholeFrom 4 = .ok (.iload_n 3, 1) := by decide +kernel
theorem dX2_wholeFrom_5 : decode cX2_wholeFrom 5 = .ok (.aload_n 0, 1) := by decide +kernel
theorem dX2_wholeFrom_6 : decode cX2_wholeFrom 6 = .ok (.getfield 33, 3) := by decide +kernel
theorem dX2_wholeFrom_9 : decode cX2_wholeFrom 9 = .ok (.if_icmp .ge 45, 3) := by decide +kernel
theorem dX2_wholeFrom_12 : decode cX2_wholeFrom 12 = .ok (.iload_n 2, 1) := by decide +kernel
theorem dX2_wholeFrom_13 : decode cX2_wholeFrom 13 = .ok (.ifCond .eq 41, 3) := by decide +kernel
theorem dX2_wholeFrom_16 : decode cX2_wholeFrom 16 = .ok (.aload_n 0, 1) := by decide +kernel
theorem dX2_wholeFrom_17 : decode cX2_wholeFrom 17 = .ok (.iload_n 2, 1) := by decide +kernel
theorem dX2_wholeFrom_18 : decode cX2_wholeFrom 18 = .ok (.invokevirtual 53, 3) := by decide +kernel
theorem dX2_wholeFrom_21 : decode cX2_wholeFrom 21 = .ok (.ifCond .eq 33, 3) := by decide +kernel
theorem dX2_wholeFrom_24 : decode cX2_wholeFrom 24 = .ok (.aload_n 0, 1) := by decide +kernel
theorem dX2_wholeFrom_25 : decode cX2_wholeFrom 25 = .ok (.getfield 15, 3) := by decide +kernel
theorem dX2_wholeFrom_28 : decode cX2_wholeFrom 28 = .ok (.iload_n 2, 1) := by decide +kernel
theorem dX2_wholeFrom_29 : decode cX2_wholeFrom 29 = .ok (.iaload, 1) := by decide +kernel
theorem dX2_wholeFrom_30 : decode cX2_wholeFrom 30 = .ok (.ifCond .eq 12, 3) := by decide +kernel
theorem dX2_wholeFrom_33 : decode cX2_wholeFrom 33 = .ok (.aload_n 0, 1) := by decide +kernel
theorem dX2_wholeFrom_34 : decode cX2_wholeFrom 34 = .ok (.getfield 15, 3) := by decide +kernel
theorem dX2_wholeFrom_37 : decode cX2_wholeFrom 37 = .ok (.iload_n 2, 1) := by decide +kernel
theorem dX2_wholeFrom_38 : decode cX2_wholeFrom 38 = .ok (.iaload, 1) := by decide +kernel
theorem dX2_wholeFrom_39 : decode cX2_wholeFrom 39 = .ok (.goto 8, 3) := by decide +kernel
theorem dX2_wholeFrom_42 : decode cX2_wholeFrom 42 = .ok (.aload_n 0, 1) := by decide +kernel
theorem dX2_wholeFrom_43 : decode cX2_wholeFrom 43 = .ok (.iload_n 2, 1) := by decide +kernel
theorem dX2_wholeFrom_44 : decode cX2_wholeFrom 44 = .ok (.invokevirtual 56, 3) := by decide +kernel
theorem dX2_wholeFrom_47 : decode cX2_wholeFrom 47 = .ok (.istore_n 2, 1) := by decide +kernel
theorem dX2_wholeFrom_48 : decode cX2_wholeFrom 48 = .ok (.iinc 3 1, 3) := by decide +kernel
theorem dX2_wholeFrom_51 : decode cX2_wholeFrom 51 = .ok (.goto (-47), 3) := by decide +kernel
theorem dX2_wholeFrom_54 : decode cX2_wholeFrom 54 = .ok (.iload_n 2, 1) := by decide +kernel
theorem dX2_wholeFrom_55 : decode cX2_wholeFrom 55 = .ok (.ireturn, 1) := by decide +kernel
set_option maxRecDepth 20000 in
theorem ggX2_split_X2_takePair : GoodIn wsX2_split wsX2_takePair := goodIn_r _ [7, 8, 9, 10, 11, 12, 13, 6, 14, 2, 15, 1, 16, 17, 18, 19, 20, 21, 22, 23, 24, 25, 26, 27, 28, 29, 30, 31, 32, 33, 34, 35, 36, 37, 47, 48, 49, 50, 51, 52, 53, 54, 55] (by decide +kernel) (by decide +kernel)
set_option maxRecDepth 20000 in
theorem gX2_split_X2_takePair : GoodIn wsX2_split (wsV RX2 59 RX2 yX2_takePair wsX2_takePair) := goodIn_app (goodIn_of _ (by decide +kernel)) ggX2_split_X2_takePair
set_option maxRecDepth 20000 in
theorem ggX2_split_X2_put : GoodIn wsX2_split wsX2_put := goodIn_r _ [41, 9, 2, 15, 1, 18, 42, 43, 44, 6, 45, 16, 17, 46, 47, 48, 49, 50, 51, 52, 53, 54, 55] (by decide +kernel) (by decide +kernel)
set_option maxRecDepth 20000 in
theorem gX2_split_X2_put : GoodIn wsX2_split (wsV RX2 40 RX2 yX2_put wsX2_put) := goodIn_app (goodIn_of _ (by decide +kernel)) ggX2_split_X2_put
theorem dX2_split_0 : decode cX2_split 0 = .ok (.aload_n 0, 1) := by decide +kernel
theorem dX2_split_1 : decode cX2_split 1 = .ok (.invokevirtual 59, 3) := by decide +kernel
theorem dX2_split_4 : decode cX2_split 4 = .ok (.istore 5, 2) := by decide +kernel
theorem dX2_split_6 : decode cX2_split 6 = .ok (.aload_n 0, 1) := by decide +kernel
theorem dX2_split_7 : decode cX2_split 7 = .ok (.iload 5, 2) := by decide +kernel
theorem dX2_split_9 : decode cX2_split 9 = .ok (.iload_n 1, 1) := by decide +kernel
theorem dX2_split_10 : decode cX2_split 10 = .ok (.iload_n 2, 1) := by decide +kernel
theorem dX2_split_11 : decode cX2_split 11 = .ok (.aload_n 0, 1) := by decide +kernel
theorem dX2_split_12 : decode cX2_split 12 = .ok (.getfield 21, 3) := by decide +kernel
theorem dX2_split_15 : decode cX2_split 15 = .ok (.iload_n 1, 1) := by decide +kernel
theorem dX2_split_16 : decode cX2_split 16 = .ok (.iaload, 1) := by decide +kernel
theorem dX2_split_17 : decode cX2_split 17 = .ok (.invokevirtual 40, 3) := by decide +kernel
theorem dX2_split_20 : decode cX2_split 20 = .ok (.aload_n 0, 1) := by decide +kernel
theorem dX2_split_21 : decode cX2_split 21 = .ok (.iload 5, 2) := by decide +kernel
theorem dX2_split_23 : decode cX2_split 23 = .ok (.iconst 1, 1) := by decide +kernel
theorem dX2_split_24 : decode cX2_split 24 = .ok (.iadd, 1) := by decide +kernel
theorem dX2_split_25 : decode cX2_split 25 = .ok (.iload_n 1, 1) := by decide +kernel
theorem dX2_split_26 : decode cX2_split 26 = .ok (.iload_n 3, 1) := by decide +kernel
theorem dX2_split_27 : decode cX2_split 27 = .ok (.aload_n 0, 1) := by decide +kernel
theorem dX2_split_28 : decode cX2_split 28 = .ok (.getfield 21, 3) := by decide +kernel
theorem dX2_split_31 : decode cX2_split 31 = .ok (.iload_n 1, 1) := by decide +kernel
theorem dX2_split_32 : decode cX2_split 32 = .ok (.iaload, 1) := by decide +kernel
theorem dX2_split_33 : decode cX2_split 33 = .ok (.iload 4, 2) := by decide +kernel
theorem dX2_split_35 : decode cX2_split 35 = .ok (.iadd, 1) := by decide +kernel
theorem dX2_split_36 : decode cX2_split 36 = .ok (.invokevirtual 40, 3) := by decide +kernel
theorem dX2_split_39 : decode cX2_split 39 = .ok (.aload_n 0, 1) := by decide +kernel
theorem dX2_split_40 : decode cX2_split 40 = .ok (.getfield 15, 3) := by decide +kernel
theorem dX2_split_43 : decode cX2_split 43 = .ok (.iload_n 1, 1) := by decide +kernel
theorem dX2_split_44 : decode cX2_split 44 = .ok (.iload 5, 2) := by decide +kernel
theorem dX2_split_46 : decode cX2_split 46 = .ok (.iastore, 1) := by decide +kernel
theorem dX2_split_47 : decode cX2_split 47 = .ok (.return_, 1) := by decide +kernel
set_option maxRecDepth 20000 in
theorem ggX2_unite_X2_put : GoodIn wsX2_unite wsX2_put := goodIn_r _ [10, 2, 1, 4, 5, 11, 12, 13, 14, 9, 15, 16, 17, 18, 19, 20, 21, 22, 23, 24, 25, 26, 27] (by decide +kernel) (by decide +kernel)
set_option maxRecDepth 20000 in
theorem gX2_unite_X2_put : GoodIn wsX2_unite (wsV RX2 40 RX2 yX2_put wsX2_put) := goodIn_app (goodIn_of _ (by decide +kernel)) ggX2_unite_X2_put
theorem dX2_unite_0 : decode cX2_unite 0 = .ok (.aload_n 0, 1) := by decide +kernel
theorem dX2_unite_1 : decode cX2_unite 1 = .ok (.getfield 15, 3) := by decide +kernel
theorem dX2_unite_4 : decode cX2_unite 4 = .ok (.iload_n 1, 1) := by decide +kernel
theorem dX2_unite_5 : decode cX2_unite 5 = .ok (.iaload, 1) := by decide +kernel
theorem dX2_unite_6 : decode cX2_unite 6 = .ok (.istore_n 2, 1) := by decide +kernel
theorem dX2_unite_7 : decode cX2_unite 7 = .ok (.aload_n 0, 1) := by decide +kernel
theorem dX2_unite_8 : decode cX2_unite 8 = .ok (.getfield 11, 3) := by decide +kernel
theorem dX2_unite_11 : decode cX2_unite 11 = .ok (.iload_n 2, 1) := by decide +kernel
theorem dX2_unite_12 : decode cX2_unite 12 = .ok (.aload_n 0, 1) := by decide +kernel
theorem dX2_unite_13 : decode cX2_unite 13 = .ok (.getfield 37, 3) := by decide +kernel
theorem dX2_unite_16 : decode cX2_unite 16 = .ok (.iastore, 1) := by decide +kernel
theorem dX2_unite_17 : decode cX2_unite 17 = .ok (.aload_n 0, 1) := by decide +kernel
theorem dX2_unite_18 : decode cX2_unite 18 = .ok (.iload_n 2, 1) := by decide +kernel
theorem dX2_unite_19 : decode cX2_unite 19 = .ok (.putfield 37, 3) := by decide +kernel
theorem dX2_unite_22 : decode cX2_unite 22 = .ok (.aload_n 0, 1) := by decide +kernel
theorem dX2_unite_23 : decode cX2_unite 23 = .ok (.iload_n 1, 1) := by decide +kernel
theorem dX2_unite_24 : decode cX2_unite 24 = .ok (.aload_n 0, 1) := by decide +kernel
theorem dX2_unite_25 : decode cX2_unite 25 = .ok (.getfield 11, 3) := by decide +kernel
theorem dX2_unite_28 : decode cX2_unite 28 = .ok (.iload_n 1, 1) := by decide +kernel
theorem dX2_unite_29 : decode cX2_unite 29 = .ok (.iaload, 1) := by decide +kernel
theorem dX2_unite_30 : decode cX2_unite 30 = .ok (.aload_n 0, 1) := by decide +kernel
theorem dX2_unite_31 : decode cX2_unite 31 = .ok (.getfield 18, 3) := by decide +kernel
theorem dX2_unite_34 : decode cX2_unite 34 = .ok (.iload_n 1, 1) := by decide +kernel
theorem dX2_unite_35 : decode cX2_unite 35 = .ok (.iaload, 1) := by decide +kernel
theorem dX2_unite_36 : decode cX2_unite 36 = .ok (.aload_n 0, 1) := by decide +kernel
theorem dX2_unite_37 : decode cX2_unite 37 = .ok (.getfield 21, 3) := by decide +kernel
theorem dX2_unite_40 : decode cX2_unite 40 = .ok (.iload_n 1, 1) := by decide +kernel
theorem dX2_unite_41 : decode cX2_unite 41 = .ok (.iaload, 1) := by decide +kernel
theorem dX2_unite_42 : decode cX2_unite 42 = .ok (.invokevirtual 40, 3) := by decide +kernel
theorem dX2_unite_45 : decode cX2_unite 45 = .ok (.return_, 1) := by decide +kernel
theorem dX2_setRequest_0 : decode cX2_setRequest 0 = .ok (.aload_n 0, 1) := by decide +kernel
theorem dX2_setRequest_1 : decode cX2_setRequest 1 = .ok (.getfield 24, 3) := by decide +kernel
theorem dX2_setRequest_4 : decode cX2_setRequest 4 = .ok (.iload_n 1, 1) := by decide +kernel
theorem dX2_setRequest_5 : decode cX2_setRequest 5 = .ok (.iload_n 2, 1) := by decide +kernel
theorem dX2_setRequest_6 : decode cX2_setRequest 6 = .ok (.iastore, 1) := by decide +kernel
theorem dX2_setRequest_7 : decode cX2_setRequest 7 = .ok (.aload_n 0, 1) := by decide +kernel
theorem dX2_setRequest_8 : decode cX2_setRequest 8 = .ok (.getfield 27, 3) := by decide +kernel
theorem dX2_setRequest_11 : decode cX2_setRequest 11 = .ok (.iload_n 1, 1) := by decide +kernel
theorem dX2_setRequest_12 : decode cX2_setRequest 12 = .ok (.iload_n 2, 1) := by decide +kernel
theorem dX2_setRequest_13 : decode cX2_setRequest 13 = .ok (.ifCond .ne 14, 3) := by decide +kernel
theorem dX2_setRequest_16 : decode cX2_setRequest 16 = .ok (.iconst 1, 1) := by decide +kernel
theorem dX2_setRequest_17 : decode cX2_setRequest 17 = .ok (.aload_n 0, 1) := by decide +kernel
theorem dX2_setRequest_18 : decode cX2_setRequest 18 = .ok (.getfield 18, 3) := by decide +kernel
theorem dX2_setRequest_21 : decode cX2_setRequest 21 = .ok (.iload_n 1, 1) := by decide +kernel
theorem dX2_setRequest_22 : decode cX2_setRequest 22 = .ok (.iaload, 1) := by decide +kernel
theorem dX2_setRequest_23 : decode cX2_setRequest 23 = .ok (.ishl, 1) := by decide +kernel
theorem dX2_setRequest_24 : decode cX2_setRequest 24 = .ok (.goto 5, 3) := by decide +kernel
theorem dX2_setRequest_27 : decode cX2_setRequest 27 = .ok (.ldc 44, 2) := by decide +kernel
theorem dX2_setRequest_29 : decode cX2_setRequest 29 = .ok (.iastore, 1) := by decide +kernel
theorem dX2_setRequest_30 : decode cX2_setRequest 30 = .ok (.return_, 1) := by decide +kernel
set_option maxRecDepth 20000 in
theorem ggX2_refreshAbove_X2_hasFreePair : GoodIn wsX2_refreshAbove wsX2_hasFreePair := goodIn_r _ [9, 2, 10, 11, 12, 8, 13, 14, 15, 16, 17, 18, 19, 20, 21, 22, 23] (by decide +kernel) (by decide +kernel)
set_option maxRecDepth 20000 in
theorem gX2_refreshAbove_X2_hasFreePair : GoodIn wsX2_refreshAbove (wsV RX2 49 RX2 yX2_hasFreePair wsX2_hasFreePair) := goodIn_app (goodIn_of _ (by decide +kernel)) ggX2_refreshAbove_X2_hasFreePair
theorem dX2_refreshAbove_0 : decode cX2_refreshAbove 0 = .ok (.aload_n 0, 1) := by decide +kernel
theorem dX2_refreshAbove_1 : decode cX2_refreshAbove 1 = .ok (.getfield 11, 3) := by decide +kernel
theorem dX2_refreshAbove_4 : decode cX2_refreshAbove 4 = .ok (.iload_n 1, 1) := by decide +kernel
theorem dX2_refreshAbove_5 : decode cX2_refreshAbove 5 = .ok (.iaload, 1) := by decide +kernel
theorem dX2_refreshAbove_6 : decode cX2_refreshAbove 6 = .ok (.istore_n 2, 1) := by decide +kernel
theorem dX2_refreshAbove_7 : decode cX2_refreshAbove 7 = .ok (.iconst 0, 1) := by decide +kernel
theorem dX2_refreshAbove_8 : decode cX2_refreshAbove 8 = .ok (.istore_n 3, 1) := by decide +kernel
theorem dX2_refreshAbove_9 : decode cX2_refreshAbove 9 = .ok (.iload_n 3, 1) := by decide +kernel
theorem dX2_refreshAbove_10 : decode cX2_refreshAbove 10 = .ok (.bipush 24, 2) := by decide +kernel
theorem dX2_refreshAbove_12 : decode cX2_refreshAbove 12 = .ok (.if_icmp .ge 93, 3) := by decide +kernel
theorem dX2_refreshAbove_15 : decode cX2_refreshAbove 15 = .ok (.iload_n 2, 1) := by decide +kernel
theorem dX2_refreshAbove_16 : decode cX2_refreshAbove 16 = .ok (.ifCond .eq 89, 3) := by decide +kernel
theorem dX2_refreshAbove_19 : decode cX2_refreshAbove 19 = .ok (.aload_n 0, 1) := by decide +kernel
theorem dX2_refreshAbove_20 : decode cX2_refreshAbove 20 = .ok (.getfield 15, 3) := by decide +kernel
theorem dX2_refreshAbove_23 : decode cX2_refreshAbove 23 = .ok (.iload_n 2, 1) := by decide +kernel
theorem dX2_refreshAbove_24 : decode cX2_refreshAbove 24 = .ok (.iaload, 1) := by decide +kernel
theorem dX2_refreshAbove_25 : decode cX2_refreshAbove 25 = .ok (.istore 4, 2) := by decide +kernel
theorem dX2_refreshAbove_27 : decode cX2_refreshAbove 27 = .ok (.aload_n 0, 1) := by decide +kernel
theorem dX2_refreshAbove_28 : decode cX2_refreshAbove 28 = .ok (.getfield 27, 3) := by decide +kernel
theorem dX2_refreshAbove_31 : decode cX2_refreshAbove 31 = .ok (.iload 4, 2) := by decide +kernel
theorem dX2_refreshAbove_33 : decode cX2_refreshAbove 33 = .ok (.iaload, 1) := by decide +kernel
theorem dX2_refreshAbove_34 : decode cX2_refreshAbove 34 = .ok (.aload_n 0, 1) := by decide +kernel
theorem dX2_refreshAbove_35 : decode cX2_refreshAbove 35 = .ok (.getfield 27, 3) := by decide +kernel
theorem dX2_refreshAbove_38 : decode cX2_refreshAbove 38 = .ok (.iload 4, 2) := by decide +kernel
theorem dX2_refreshAbove_40 : decode cX2_refreshAbove 40 = .ok (.iconst 1, 1) := by decide +kernel
theorem dX2_refreshAbove_41 : decode cX2_refreshAbove 41 = .ok (.iadd, 1) := by decide +kernel
theorem dX2_refreshAbove_42 : decode cX2_refreshAbove 42 = .ok (.iaload, 1) := by decide +kernel
theorem dX2_refreshAbove_43 : decode cX2_refreshAbove 43 = .ok (.ior, 1) := by decide +kernel
theorem dX2_refreshAbove_44 : decode cX2_refreshAbove 44 = .ok (.istore 5, 2) := by decide +kernel
theorem dX2_refreshAbove_46 : decode cX2_refreshAbove 46 = .ok (.aload_n 0, 1) := by decide +kernel
theorem dX2_refreshAbove_47 : decode cX2_refreshAbove 47 = .ok (.getfield 27, 3) := by decide +kernel
theorem dX2_refreshAbove_50 : decode cX2_refreshAbove 50 = .ok (.iload_n 2, 1) := by decide +kernel
theorem dX2_refreshAbove_51 : decode cX2_refreshAbove 51 = .ok (.aload_n 0, 1) := by decide +kernel
theorem dX2_refreshAbove_52 : decode cX2_refreshAbove 52 = .ok (.iload_n 2, 1) := by decide +kernel
theorem dX2_refreshAbove_53 : decode cX2_refreshAbove 53 = .ok (.invokevirtual 49, 3) := by decide +kernel
theorem dX2_refreshAbove_56 : decode cX2_refreshAbove 56 = .ok (.ifCond .eq 10, 3) := by decide +kernel
theorem dX2_refreshAbove_59 : decode cX2_refreshAbove 59 = .ok (.iload 5, 2) := by decide +kernel
theorem dX2_refreshAbove_61 : decode cX2_refreshAbove 61 = .ok (.iconst 1, 1) := by decide +kernel
theorem dX2_refreshAbove_62 : decode cX2_refreshAbove 62 = .ok (.ior, 1) := by decide +kernel
theorem dX2_refreshAbove_63 : decode cX2_refreshAbove 63 = .ok (.goto 5, 3) := by decide +kernel
theorem dX2_refreshAbove_66 : decode cX2_refreshAbove 66 = .ok (.iload 5, 2) := by decide +kernel
theorem dX2_refreshAbove_68 : decode cX2_refreshAbove 68 = .ok (.iastore, 1) := by decide +kernel
theorem dX2_refreshAbove_69 : decode cX2_refreshAbove 69 = .ok (.aload_n 0, 1) := by decide +kernel
theorem dX2_refreshAbove_70 : decode cX2_refreshAbove 70 = .ok (.getfield 30, 3) := by decide +kernel
theorem dX2_refreshAbove_73 : decode cX2_refreshAbove 73 = .ok (.iload_n 2, 1) := by decide +kernel
theorem dX2_refreshAbove_74 : decode cX2_refreshAbove 74 = .ok (.aload_n 0, 1) := by decide +kernel
theorem dX2_refreshAbove_75 : decode cX2_refreshAbove 75 = .ok (.getfield 30, 3) := by decide +kernel
theorem dX2_refreshAbove_78 : decode cX2_refreshAbove 78 = .ok (.iload 4, 2) := by decide +kernel
theorem dX2_refreshAbove_80 : decode cX2_refreshAbove 80 = .ok (.iaload, 1) := by decide +kernel
theorem dX2_refreshAbove_81 : decode cX2_refreshAbove 81 = .ok (.aload_n 0, 1) := by decide +kernel
theorem dX2_refreshAbove_82 : decode cX2_refreshAbove 82 = .ok (.getfield 30, 3) := by decide +kernel
theorem dX2_refreshAbove_85 : decode cX2_refreshAbove 85 = .ok (.iload 4, 2) := by decide +kernel
theorem dX2_refreshAbove_87 : decode cX2_refreshAbove 87 = .ok (.iconst 1, 1) := by decide +kernel
theorem dX2_refreshAbove_88 : decode cX2_refreshAbove 88 = .ok (.iadd, 1) := by decide +kernel
theorem dX2_refreshAbove_89 : decode cX2_refreshAbove 89 = .ok (.iaload, 1) := by decide +kernel
theorem dX2_refreshAbove_90 : decode cX2_refreshAbove 90 = .ok (.iadd, 1) := by decide +kernel
theorem dX2_refreshAbove_91 : decode cX2_refreshAbove 91 = .ok (.iastore, 1) := by decide +kernel
theorem dX2_refreshAbove_92 : decode cX2_refreshAbove 92 = .ok (.aload_n 0, 1) := by decide +kernel
theorem dX2_refreshAbove_93 : decode cX2_refreshAbove 93 = .ok (.getfield 11, 3) := by decide +kernel
theorem dX2_refreshAbove_96 : decode cX2_refreshAbove 96 = .ok (.iload_n 2, 1) := by decide +kernel
theorem dX2_refreshAbove_97 : decode cX2_refreshAbove 97 = .ok (.iaload, 1) := by decide +kernel
theorem dX2_refreshAbove_98 : decode cX2_refreshAbove 98 = .ok (.istore_n 2, 1) := by decide +kernel
theorem dX2_refreshAbove_99 : decode cX2_refreshAbove 99 = .ok (.iinc 3 1, 3) := by decide +kernel
theorem dX2_refreshAbove_102 : decode cX2_refreshAbove 102 = .ok (.goto (-93), 3) := by decide +kernel
theorem dX2_refreshAbove_105 : decode cX2_refreshAbove 105 = .ok (.return_, 1) := by decide +kernel
set_option maxRecDepth 20000 in
theorem ggX2_hasFreePair_X2_isFree : GoodIn wsX2_hasFreePair wsX2_isFree := goodIn_r _ [6, 1, 7, 8, 9, 10, 11, 12, 13, 14, 15, 16] (by decide +kernel) (by decide +kernel)
set_option maxRecDepth 20000 in
theorem gX2_hasFreePair_X2_isFree : GoodIn wsX2_hasFreePair (wsV RX2 63 RX2 yX2_isFree wsX2_isFree) := goodIn_app (goodIn_of _ (by decide +kernel)) ggX2_hasFreePair_X2_isFree
theorem dX2_hasFreePair_0 : decode cX2_hasFreePair 0 = .ok (.aload_n 0, 1) := by decide +kernel
theorem dX2_hasFreePair_1 : decode cX2_hasFreePair 1 = .ok (.aload_n 0, 1) := by decide +kernel
theorem dX2_hasFreePair_2 : decode cX2_hasFreePair 2 = .ok (.getfield 15, 3) := by decide +kernel
theorem dX2_hasFreePair_5 : decode cX2_hasFreePair 5 = .ok (.iload_n 1, 1) := by decide +kernel
theorem dX2_hasFreePair_6 : decode cX2_hasFreePair 6 = .ok (.iaload, 1) := by decide +kernel
theorem dX2_hasFreePair_7 : decode cX2_hasFreePair 7 = .ok (.invokevirtual 63, 3) := by decide +kernel
theorem dX2_hasFreePair_10 : decode cX2_hasFreePair 10 = .ok (.ifCond .eq 22, 3) := by decide +kernel
theorem dX2_hasFreePair_13 : decode cX2_hasFreePair 13 = .ok (.aload_n 0, 1) := by decide +kernel
theorem dX2_hasFreePair_14 : decode cX2_hasFreePair 14 = .ok (.aload_n 0, 1) := by decide +kernel
theorem dX2_hasFreePair_15 : decode cX2_hasFreePair 15 = .ok (.getfield 15, 3) := by decide +kernel
theorem dX2_hasFreePair_18 : decode cX2_hasFreePair 18 = .ok (.iload_n 1, 1) := by decide +kernel
theorem dX2_hasFreePair_19 : decode cX2_hasFreePair 19 = .ok (.iaload, 1) := by decide +kernel
theorem dX2_hasFreePair_20 : decode cX2_hasFreePair 20 = .ok (.iconst 1, 1) := by decide +kernel
theorem dX2_hasFreePair_21 : decode cX2_hasFreePair 21 = .ok (.iadd, 1) := by decide +kernel
theorem dX2_hasFreePair_22 : decode cX2_hasFreePair 22 = .ok (.invokevirtual 63, 3) := by decide +kernel
theorem dX2_hasFreePair_25 : decode cX2_hasFreePair 25 = .ok (.ifCond .eq 7, 3) := by decide +kernel
theorem dX2_hasFreePair_28 : decode cX2_hasFreePair 28 = .ok (.iconst 1, 1) := by decide +kernel
theorem dX2_hasFreePair_29 : decode cX2_hasFreePair 29 = .ok (.goto 4, 3) := by decide +kernel
theorem dX2_hasFreePair_32 : decode cX2_hasFreePair 32 = .ok (.iconst 0, 1) := by decide +kernel
theorem dX2_hasFreePair_33 : decode cX2_hasFreePair 33 = .ok (.ireturn, 1) := by decide +kernel
set_option maxRecDepth 20000 in
theorem ggX2_put_X2_setRequest : GoodIn wsX2_put wsX2_setRequest := goodIn_r _ [10, 11, 12, 3, 13, 14, 15, 16, 17, 18, 19, 20, 21, 22] (by decide +kernel) (by decide +kernel)
set_option maxRecDepth 20000 in
theorem gX2_put_X2_setRequest : GoodIn wsX2_put (wsV RX2 66 RX2 yX2_setRequest wsX2_setRequest) := goodIn_app (goodIn_of _ (by decide +kernel)) ggX2_put_X2_setRequest
theorem dX2_put_0 : decode cX2_put 0 = .ok (.aload_n 0, 1) := by decide +kernel
theorem dX2_put_1 : decode cX2_put 1 = .ok (.getfield 11, 3) := by decide +kernel
theorem dX2_put_4 : decode cX2_put 4 = .ok (.iload_n 1, 1) := by decide +kernel
theorem dX2_put_5 : decode cX2_put 5 = .ok (.iload_n 2, 1) := by decide +kernel
theorem dX2_put_6 : decode cX2_put 6 = .ok (.iastore, 1) := by decide +kernel
theorem dX2_put_7 : decode cX2_put 7 = .ok (.aload_n 0, 1) := by decide +kernel
theorem dX2_put_8 : decode cX2_put 8 = .ok (.getfield 15, 3) := by decide +kernel
theorem dX2_put_11 : decode cX2_put 11 = .ok (.iload_n 1, 1) := by decide +kernel
theorem dX2_put_12 : decode cX2_put 12 = .ok (.iconst 0, 1) := by decide +kernel
theorem dX2_put_13 : decode cX2_put 13 = .ok (.iastore, 1) := by decide +kernel
theorem dX2_put_14 : decode cX2_put 14 = .ok (.aload_n 0, 1) := by decide +kernel
theorem dX2_put_15 : decode cX2_put 15 = .ok (.getfield 18, 3) := by decide +kernel
theorem dX2_put_18 : decode cX2_put 18 = .ok (.iload_n 1, 1) := by decide +kernel
theorem dX2_put_19 : decode cX2_put 19 = .ok (.iload_n 3, 1) := by decide +kernel
theorem dX2_put_20 : decode cX2_put 20 = .ok (.iastore, 1) := by decide +kernel
theorem dX2_put_21 : decode cX2_put 21 = .ok (.aload_n 0, 1) := by decide +kernel
theorem dX2_put_22 : decode cX2_put 22 = .ok (.getfield 21, 3) := by decide +kernel
theorem dX2_put_25 : decode cX2_put 25 = .ok (.iload_n 1, 1) := by decide +kernel
theorem dX2_put_26 : decode cX2_put 26 = .ok (.iload 4, 2) := by decide +kernel
theorem dX2_put_28 : decode cX2_put 28 = .ok (.iastore, 1) := by decide +kernel
theorem dX2_put_29 : decode cX2_put 29 = .ok (.aload_n 0, 1) := by decide +kernel
theorem dX2_put_30 : decode cX2_put 30 = .ok (.getfield 30, 3) := by decide +kernel
theorem dX2_put_33 : decode cX2_put 33 = .ok (.iload_n 1, 1) := by decide +kernel
theorem dX2_put_34 : decode cX2_put 34 = .ok (.iconst 1, 1) := by decide +kernel
theorem dX2_put_35 : decode cX2_put 35 = .ok (.iastore, 1) := by decide +kernel
theorem dX2_put_36 : decode cX2_put 36 = .ok (.aload_n 0, 1) := by decide +kernel
theorem dX2_put_37 : decode cX2_put 37 = .ok (.iload_n 1, 1) := by decide +kernel
theorem dX2_put_38 : decode cX2_put 38 = .ok (.iconst 0, 1) := by decide +kernel
theorem dX2_put_39 : decode cX2_put 39 = .ok (.invokevirtual 66, 3) := by decide +kernel
theorem dX2_put_42 : decode cX2_put 42 = .ok (.return_, 1) := by decide +kernel
set_option maxRecDepth 20000 in
theorem ggX2_takePair_X2_grow : GoodIn wsX2_takePair wsX2_grow := goodIn_r _ [8, 2, 9, 10, 11, 12, 13, 14, 15, 16, 17, 18, 19, 20, 21, 22, 23, 24, 25, 26, 27, 28, 29, 30, 31, 32, 33, 34, 35, 36, 37, 38, 39, 40, 41, 42] (by decide +kernel) (by decide +kernel)
set_option maxRecDepth 20000 in
theorem gX2_takePair_X2_grow : GoodIn wsX2_takePair (wsV RX2 70 RX2 yX2_grow wsX2_grow) := goodIn_app (goodIn_of _ (by decide +kernel)) ggX2_takePair_X2_grow
theorem dX2_takePair_0 : decode cX2_takePair 0 = .ok (.aload_n 0, 1) := by decide +kernel
theorem dX2_takePair_1 : decode cX2_takePair 1 = .ok (.getfield 37, 3) := by decide +kernel
theorem dX2_takePair_4 : decode cX2_takePair 4 = .ok (.istore_n 1, 1) := by decide +kernel
theorem dX2_takePair_5 : decode cX2_takePair 5 = .ok (.iload_n 1, 1) := by decide +kernel
theorem dX2_takePair_6 : decode cX2_takePair 6 = .ok (.ifCond .eq 15, 3) := by decide +kernel
theorem dX2_takePair_9 : decode cX2_takePair 9 = .ok (.aload_n 0, 1) := by decide +kernel
theorem dX2_takePair_10 : decode cX2_takePair 10 = .ok (.aload_n 0, 1) := by decide +kernel
theorem dX2_takePair_11 : decode cX2_takePair 11 = .ok (.getfield 11, 3) := by decide +kernel
theorem dX2_takePair_14 : decode cX2_takePair 14 = .ok (.iload_n 1, 1) := by decide +kernel
theorem dX2_takePair_15 : decode cX2_takePair 15 = .ok (.iaload, 1) := by decide +kernel
theorem dX2_takePair_16 : decode cX2_takePair 16 = .ok (.putfield 37, 3) := by decide +kernel
theorem dX2_takePair_19 : decode cX2_takePair 19 = .ok (.iload_n 1, 1) := by decide +kernel
theorem dX2_takePair_20 : decode cX2_takePair 20 = .ok (.ireturn, 1) := by decide +kernel
theorem dX2_takePair_21 : decode cX2_takePair 21 = .ok (.aload_n 0, 1) := by decide +kernel
theorem dX2_takePair_22 : decode cX2_takePair 22 = .ok (.getfield 33, 3) := by decide +kernel
theorem dX2_takePair_25 : decode cX2_takePair 25 = .ok (.istore_n 1, 1) := by decide +kernel
theorem dX2_takePair_26 : decode cX2_takePair 26 = .ok (.aload_n 0, 1) := by decide +kernel
theorem dX2_takePair_27 : decode cX2_takePair 27 = .ok (.dup, 1) := by decide +kernel
theorem dX2_takePair_28 : decode cX2_takePair 28 = .ok (.getfield 33, 3) := by decide +kernel
theorem dX2_takePair_31 : decode cX2_takePair 31 = .ok (.iconst 2, 1) := by decide +kernel
theorem dX2_takePair_32 : decode cX2_takePair 32 = .ok (.iadd, 1) := by decide +kernel
theorem dX2_takePair_33 : decode cX2_takePair 33 = .ok (.putfield 33, 3) := by decide +kernel
theorem dX2_takePair_36 : decode cX2_takePair 36 = .ok (.aload_n 0, 1) := by decide +kernel
theorem dX2_takePair_37 : decode cX2_takePair 37 = .ok (.getfield 33, 3) := by decide +kernel
theorem dX2_takePair_40 : decode cX2_takePair 40 = .ok (.aload_n 0, 1) := by decide +kernel
theorem dX2_takePair_41 : decode cX2_takePair 41 = .ok (.getfield 11, 3) := by decide +kernel
theorem dX2_takePair_44 : decode cX2_takePair 44 = .ok (.arraylength, 1) := by decide +kernel
theorem dX2_takePair_45 : decode cX2_takePair 45 = .ok (.if_icmp .le 14, 3) := by decide +kernel
theorem dX2_takePair_48 : decode cX2_takePair 48 = .ok (.aload_n 0, 1) := by decide +kernel
theorem dX2_takePair_49 : decode cX2_takePair 49 = .ok (.aload_n 0, 1) := by decide +kernel
theorem dX2_takePair_50 : decode cX2_takePair 50 = .ok (.getfield 11, 3) := by decide +kernel
theorem dX2_takePair_53 : decode cX2_takePair 53 = .ok (.arraylength, 1) := by decide +kernel
theorem dX2_takePair_54 : decode cX2_takePair 54 = .ok (.iconst 2, 1) := by decide +kernel
theorem dX2_takePair_55 : decode cX2_takePair 55 = .ok (.imul, 1) := by decide +kernel
theorem dX2_takePair_56 : decode cX2_takePair 56 = .ok (.invokevirtual 70, 3) := by decide +kernel
theorem dX2_takePair_59 : decode cX2_takePair 59 = .ok (.iload_n 1, 1) := by decide +kernel
theorem dX2_takePair_60 : decode cX2_takePair 60 = .ok (.ireturn, 1) := by decide +kernel
set_option maxRecDepth 20000 in
theorem ggX2_grow_J7_copyOf_59c91 : GoodIn wsX2_grow wsJ7_copyOf_59c91 := goodIn_r _ [11, 12, 13, 14, 15, 16, 17, 18, 19, 20, 21, 22, 23, 24, 25, 26] (by decide +kernel) (by decide +kernel)
set_option maxRecDepth 20000 in
theorem gX2_grow_J7_copyOf_59c91 : GoodIn wsX2_grow (va_wsS RX2 74 yJ7_copyOf_59c91 wsJ7_copyOf_59c91) := goodIn_app (goodIn_of _ (by decide +kernel)) ggX2_grow_J7_copyOf_59c91
theorem dX2_grow_0 : decode cX2_grow 0 = .ok (.aload_n 0, 1) := by decide +kernel
theorem dX2_grow_1 : decode cX2_grow 1 = .ok (.aload_n 0, 1) := by decide +kernel
theorem dX2_grow_2 : decode cX2_grow 2 = .ok (.getfield 11, 3) := by decide +kernel
theorem dX2_grow_5 : decode cX2_grow 5 = .ok (.iload_n 1, 1) := by decide +kernel
theorem dX2_grow_6 : decode cX2_grow 6 = .ok (.invokestatic 74, 3) := by decide +kernel
theorem dX2_grow_9 : decode cX2_grow 9 = .ok (.putfield 11, 3) := by decide +kernel
theorem dX2_grow_12 : decode cX2_grow 12 = .ok (.aload_n 0, 1) := by decide +kernel
theorem dX2_grow_13 : decode cX2_grow 13 = .ok (.aload_n 0, 1) := by decide +kernel
theorem dX2_grow_14 : decode cX2_grow 14 = .ok (.getfield 15, 3) := by decide +kernel
theorem dX2_grow_17 : decode cX2_grow 17 = .ok (.iload_n 1, 1) := by decide +kernel
theorem dX2_grow_18 : decode cX2_grow 18 = .ok (.invokestatic 74, 3) := by decide +kernel
theorem dX2_grow_21 : decode cX2_grow 21 = .ok (.putfield 15, 3) := by decide +kernel
theorem dX2_grow_24 : decode cX2_grow 24 = .ok (.aload_n 0, 1) := by decide +kernel
theorem dX2_grow_25 : decode cX2_grow 25 = .ok (.aload_n 0, 1) := by decide +kernel
theorem dX2_grow_26 : decode cX2_grow 26 = .ok (.getfield 18, 3) := by decide +kernel
theorem dX2_grow_29 : decode cX2_grow 29 = .ok (.iload_n 1, 1) := by decide +kernel
theorem dX2_grow_30 : decode cX2_grow 30 = .ok (.invokestatic 74, 3) := by decide +kernel
theorem dX2_grow_33 : decode cX2_grow 33 = .ok (.putfield 18, 3) := by decide +kernel
theorem dX2_grow_36 : decode cX2_grow 36 = .ok (.aload_n 0, 1) := by decide +kernel
theorem dX2_grow_37 : decode cX2_grow 37 = .ok (.aload_n 0, 1) := by decide +kernel
theorem dX2_grow_38 : decode cX2_grow 38 = .ok (.getfield 21, 3) := by decide +kernel
theorem dX2_grow_41 : decode cX2_grow 41 = .ok (.iload_n 1, 1) := by decide +kernel
theorem dX2_grow_42 : decode cX2_grow 42 = .ok (.invokestatic 74, 3) := by decide +kernel
theorem dX2_grow_45 : decode cX2_grow 45 = .ok (.putfield 21, 3) := by decide +kernel
theorem dX2_grow_48 : decode cX2_grow 48 = .ok (.aload_n 0, 1) := by decide +kernel
theorem dX2_grow_49 : decode cX2_grow 49 = .ok (.aload_n 0, 1) := by decide +kernel
theorem dX2_grow_50 : decode cX2_grow 50 = .ok (.getfield 24, 3) := by decide +kernel
theorem dX2_grow_53 : decode cX2_grow 53 = .ok (.iload_n 1, 1) := by decide +kernel
theorem dX2_grow_54 : decode cX2_grow 54 = .ok (.invokestatic 74, 3) := by decide +kernel
theorem dX2_grow_57 : decode cX2_grow 57 = .ok (.putfield 24, 3) := by decide +kernel
theorem dX2_grow_60 : decode cX2_grow 60 = .ok (.aload_n 0, 1) := by decide +kernel
theorem dX2_grow_61 : decode cX2_grow 61 = .ok (.aload_n 0, 1) := by decide +kernel
theorem dX2_grow_62 : decode cX2_grow 62 = .ok (.getfield 27, 3) := by decide +kernel
theorem dX2_grow_65 : decode cX2_grow 65 = .ok (.iload_n 1, 1) := by decide +kernel
theorem dX2_grow_66 : decode cX2_grow 66 = .ok (.invokestatic 74, 3) := by decide +kernel
theorem dX2_grow_69 : decode cX2_grow 69 = .ok (.putfield 27, 3) := by decide +kernel
theorem dX2_grow_72 : decode cX2_grow 72 = .ok (.aload_n 0, 1) := by decide +kernel
theorem dX2_grow_73 : decode cX2_grow 73 = .ok (.aload_n 0, 1) := by decide +kernel
theorem dX2_grow_74 : decode cX2_grow 74 = .ok (.getfield 30, 3) := by decide +kernel
theorem dX2_grow_77 : decode cX2_grow 77 = .ok (.iload_n 1, 1) := by decide +kernel
theorem dX2_grow_78 : decode cX2_grow 78 = .ok (.invokestatic 74, 3) := by decide +kernel
theorem dX2_grow_81 : decode cX2_grow 81 = .ok (.putfield 30, 3) := by decide +kernel
theorem dX2_grow_84 : decode cX2_grow 84 = .ok (.return_, 1) := by decide +kernel
set_option maxRecDepth 20000 in
theorem ggX3_init_X1_init : GoodIn wsX3_init wsX1_init := goodIn_r _ [17, 18, 2, 3, 12, 19, 20, 21, 22, 55, 56, 57, 58] (by decide +kernel) (by decide +kernel)
set_option maxRecDepth 20000 in
theorem gX3_init_X1_init_n11 : GoodIn wsX3_init (wsX1_init) := ggX3_init_X1_init
set_option maxRecDepth 20000 in
theorem ggX3_init_X0_init : GoodIn wsX3_init wsX0_init := goodIn_r _ [24, 25, 2, 3, 26, 5, 6, 27, 28, 29, 30, 31, 12, 32, 33, 34, 35, 36, 37, 38, 39, 40, 41, 42, 16, 17, 18, 19, 20, 21, 22, 43, 44, 45, 46, 47, 48, 49, 50, 51, 52, 53, 54, 55, 56, 57, 58, 64, 65, 66, 67, 68, 69, 70, 71, 72, 73, 74, 75, 76, 77, 78, 79, 80, 81, 82, 83, 84, 85] (by decide +kernel) (by decide +kernel)
set_option maxRecDepth 20000 in
theorem gX3_init_X0_init_n18 : GoodIn wsX3_init (wsX0_init) := ggX3_init_X0_init
theorem dX3_init_0 : decode cX3_init 0 = .ok (.aload_n 0, 1) := by decide +kernel
theorem dX3_init_1 : decode cX3_init 1 = .ok (.invokespecial 3, 3) := by decide +kernel
theorem dX3_init_4 : decode cX3_init 4 = .ok (.aload_n 0, 1) := by decide +kernel
theorem dX3_init_5 : decode cX3_init 5 = .ok (.new 9, 3) := by decide +kernel
theorem dX3_init_8 : decode cX3_init 8 = .ok (.dup, 1) := by decide +kernel
theorem dX3_init_9 : decode cX3_init 9 = .ok (.invokespecial 11, 3) := by decide +kernel
theorem dX3_init_12 : decode cX3_init 12 = .ok (.putfield 12, 3) := by decide +kernel
theorem dX3_init_15 : decode cX3_init 15 = .ok (.aload_n 0, 1) := by decide +kernel
theorem dX3_init_16 : decode cX3_init 16 = .ok (.new 16, 3) := by decide +kernel
theorem dX3_init_19 : decode cX3_init 19 = .ok (.dup, 1) := by decide +kernel
theorem dX3_init_20 : decode cX3_init 20 = .ok (.invokespecial 18, 3) := by decide +kernel
theorem dX3_init_23 : decode cX3_init 23 = .ok (.putfield 19, 3) := by decide +kernel
theorem dX3_init_26 : decode cX3_init 26 = .ok (.aload_n 0, 1) := by decide +kernel
theorem dX3_init_27 : decode cX3_init 27 = .ok (.sipush 256, 3) := by decide +kernel
theorem dX3_init_30 : decode cX3_init 30 = .ok (.newarray .int, 2) := by decide +kernel
theorem dX3_init_32 : decode cX3_init 32 = .ok (.putfield 23, 3) := by decide +kernel
theorem dX3_init_35 : decode cX3_init 35 = .ok (.aload_n 0, 1) := by decide +kernel
theorem dX3_init_36 : decode cX3_init 36 = .ok (.sipush 256, 3) := by decide +kernel
theorem dX3_init_39 : decode cX3_init 39 = .ok (.newarray .int, 2) := by decide +kernel
theorem dX3_init_41 : decode cX3_init 41 = .ok (.putfield 27, 3) := by decide +kernel
theorem dX3_init_44 : decode cX3_init 44 = .ok (.aload_n 0, 1) := by decide +kernel
theorem dX3_init_45 : decode cX3_init 45 = .ok (.iconst 0, 1) := by decide +kernel
theorem dX3_init_46 : decode cX3_init 46 = .ok (.putfield 30, 3) := by decide +kernel
theorem dX3_init_49 : decode cX3_init 49 = .ok (.return_, 1) := by decide +kernel
set_option maxRecDepth 20000 in
theorem ggX3_row_X3_requireClass : GoodIn wsX3_row wsX3_requireClass := goodIn_ca (goodIn_r _ [5, 6, 7, 8, 9, 4, 10] (by decide +kernel) (by decide +kernel)) (goodIn_sub (fun _ h => List.mem_cons_of_mem _ (List.mem_append_right _ h)) (by decide +kernel))
set_option maxRecDepth 20000 in
theorem gX3_row_X3_requireClass : GoodIn wsX3_row (va_wsS RX3 34 yX3_requireClass wsX3_requireClass) := goodIn_app (goodIn_of _ (by decide +kernel)) ggX3_row_X3_requireClass
set_option maxRecDepth 20000 in
theorem ggX3_row_X1_tell : GoodIn wsX3_row wsX1_tell := goodIn_r _ [15, 16, 17, 18, 24, 25, 26, 27] (by decide +kernel) (by decide +kernel)
set_option maxRecDepth 20000 in
theorem gX3_row_X1_tell : GoodIn wsX3_row (wsV RX3 38 RX1 yX1_tell wsX1_tell) := goodIn_app (goodIn_of _ (by decide +kernel)) ggX3_row_X1_tell
theorem dX3_row_0 : decode cX3_row 0 = .ok (.iload_n 1, 1) := by decide +kernel
theorem dX3_row_1 : decode cX3_row 1 = .ok (.invokestatic 34, 3) := by decide +kernel
theorem dX3_row_4 : decode cX3_row 4 = .ok (.aload_n 0, 1) := by decide +kernel
theorem dX3_row_5 : decode cX3_row 5 = .ok (.getfield 12, 3) := by decide +kernel
theorem dX3_row_8 : decode cX3_row 8 = .ok (.iload_n 1, 1) := by decide +kernel
theorem dX3_row_9 : decode cX3_row 9 = .ok (.iload_n 2, 1) := by decide +kernel
theorem dX3_row_10 : decode cX3_row 10 = .ok (.iload_n 3, 1) := by decide +kernel
theorem dX3_row_11 : decode cX3_row 11 = .ok (.iload 4, 2) := by decide +kernel
theorem dX3_row_13 : decode cX3_row 13 = .ok (.invokevirtual 38, 3) := by decide +kernel
theorem dX3_row_16 : decode cX3_row 16 = .ok (.return_, 1) := by decide +kernel
set_option maxRecDepth 20000 in
theorem ggX3_family_X3_requireClass : GoodIn wsX3_family wsX3_requireClass := goodIn_ca (goodIn_r _ [7, 1, 2, 8, 9, 6, 10] (by decide +kernel) (by decide +kernel)) (goodIn_sub (fun _ h => List.mem_cons_of_mem _ (List.mem_append_right _ h)) (by decide +kernel))
set_option maxRecDepth 20000 in
theorem gX3_family_X3_requireClass : GoodIn wsX3_family (va_wsS RX3 34 yX3_requireClass wsX3_requireClass) := goodIn_app (goodIn_of _ (by decide +kernel)) ggX3_family_X3_requireClass
set_option maxRecDepth 20000 in
theorem ggX3_family_X3_isSize : GoodIn wsX3_family wsX3_isSize := goodIn_r _ [13, 14] (by decide +kernel) (by decide +kernel)
set_option maxRecDepth 20000 in
theorem gX3_family_X3_isSize : GoodIn wsX3_family (va_wsS RX3 49 yX3_isSize wsX3_isSize) := goodIn_app (goodIn_of _ (by decide +kernel)) ggX3_family_X3_isSize
set_option maxRecDepth 20000 in
theorem ggX3_family_X1_tellFamily : GoodIn wsX3_family wsX1_tellFamily := goodIn_r _ [19, 20, 21, 22, 23, 18, 24, 25, 26, 27, 28, 29, 30, 31, 32, 33, 34, 40, 41, 42, 43] (by decide +kernel) (by decide +kernel)
set_option maxRecDepth 20000 in
theorem gX3_family_X1_tellFamily : GoodIn wsX3_family (wsV RX3 55 RX1 yX1_tellFamily wsX1_tellFamily) := goodIn_app (goodIn_of _ (by decide +kernel)) ggX3_family_X1_tellFamily
theorem dX3_family_0 : decode cX3_family 0 = .ok (.iload_n 1, 1) := by decide +kernel
theorem dX3_family_1 : decode cX3_family 1 = .ok (.ifCond .lt 8, 3) := by decide +kernel
theorem dX3_family_4 : decode cX3_family 4 = .ok (.iload_n 1, 1) := by decide +kernel
theorem dX3_family_5 : decode cX3_family 5 = .ok (.iconst 2, 1) := by decide +kernel
theorem dX3_family_6 : decode cX3_family 6 = .ok (.if_icmp .le 13, 3) := by decide +kernel
theorem dX3_family_9 : decode cX3_family 9 = .ok (.new 42, 3) := by decide +kernel
theorem dX3_family_12 : decode cX3_family 12 = .ok (.dup, 1) := by decide +kernel
theorem dX3_family_13 : decode cX3_family 13 = .ok (.ldc 44, 2) := by decide +kernel
theorem dX3_family_15 : decode cX3_family 15 = .ok (.invokespecial 46, 3) := by decide +kernel
theorem dX3_family_18 : decode cX3_family 18 = .ok (.athrow, 1) := by decide +kernel
theorem dX3_family_19 : decode cX3_family 19 = .ok (.iload_n 2, 1) := by decide +kernel
theorem dX3_family_20 : decode cX3_family 20 = .ok (.invokestatic 34, 3) := by decide +kernel
theorem dX3_family_23 : decode cX3_family 23 = .ok (.iload_n 3, 1) := by decide +kernel
theorem dX3_family_24 : decode cX3_family 24 = .ok (.invokestatic 49, 3) := by decide +kernel
theorem dX3_family_27 : decode cX3_family 27 = .ok (.ifCond .eq 16, 3) := by decide +kernel
theorem dX3_family_30 : decode cX3_family 30 = .ok (.iload_n 1, 1) := by decide +kernel
theorem dX3_family_31 : decode cX3_family 31 = .ok (.iconst 1, 1) := by decide +kernel
theorem dX3_family_32 : decode cX3_family 32 = .ok (.if_icmp .ne 21, 3) := by decide +kernel
theorem dX3_family_35 : decode cX3_family 35 = .ok (.iload 4, 2) := by decide +kernel
theorem dX3_family_37 : decode cX3_family 37 = .ok (.invokestatic 49, 3) := by decide +kernel
theorem dX3_family_40 : decode cX3_family 40 = .ok (.ifCond .ne 13, 3) := by decide +kernel
theorem dX3_family_43 : decode cX3_family 43 = .ok (.new 42, 3) := by decide +kernel
theorem dX3_family_46 : decode cX3_family 46 = .ok (.dup, 1) := by decide +kernel
theorem dX3_family_47 : decode cX3_family 47 = .ok (.ldc 53, 2) := by decide +kernel
theorem dX3_family_49 : decode cX3_family 49 = .ok (.invokespecial 46, 3) := by decide +kernel
theorem dX3_family_52 : decode cX3_family 52 = .ok (.athrow, 1) := by decide +kernel
theorem dX3_family_53 : decode cX3_family 53 = .ok (.aload_n 0, 1) := by decide +kernel
theorem dX3_family_54 : decode cX3_family 54 = .ok (.getfield 12, 3) := by decide +kernel
theorem dX3_family_57 : decode cX3_family 57 = .ok (.iload_n 1, 1) := by decide +kernel
theorem dX3_family_58 : decode cX3_family 58 = .ok (.iload_n 2, 1) := by decide +kernel
theorem dX3_family_59 : decode cX3_family 59 = .ok (.iload_n 3, 1) := by decide +kernel
theorem dX3_family_60 : decode cX3_family 60 = .ok (.iload 4, 2) := by decide +kernel
theorem dX3_family_62 : decode cX3_family 62 = .ok (.invokevirtual 55, 3) := by decide +kernel
theorem dX3_family_65 : decode cX3_family 65 = .ok (.ifCond .ne 13, 3) := by decide +kernel
theorem dX3_family_68 : decode cX3_family 68 = .ok (.new 42, 3) := by decide +kernel
theorem dX3_family_71 : decode cX3_family 71 = .ok (.dup, 1) := by decide +kernel
theorem dX3_family_72 : decode cX3_family 72 = .ok (.ldc 59, 2) := by decide +kernel
theorem dX3_family_74 : decode cX3_family 74 = .ok (.invokespecial 46, 3) := by decide +kernel
theorem dX3_family_77 : decode cX3_family 77 = .ok (.athrow, 1) := by decide +kernel
theorem dX3_family_78 : decode cX3_family 78 = .ok (.return_, 1) := by decide +kernel
set_option maxRecDepth 20000 in
theorem ggX3_build_X3_requireClass : GoodIn wsX3_build wsX3_requireClass := goodIn_ca (goodIn_r _ [7, 8, 9, 10, 11, 6, 12] (by decide +kernel) (by decide +kernel)) (goodIn_sub (fun _ h => List.mem_cons_of_mem _ (List.mem_append_right _ h)) (by decide +kernel))
set_option maxRecDepth 20000 in
theorem gX3_build_X3_requireClass : GoodIn wsX3_build (va_wsS RX3 34 yX3_requireClass wsX3_requireClass) := goodIn_app (goodIn_of _ (by decide +kernel)) ggX3_build_X3_requireClass
set_option maxRecDepth 20000 in
theorem ggX3_build_X1_reachedFrom : GoodIn wsX3_build wsX1_reachedFrom := goodIn_r _ [17, 18, 19, 20, 21, 22, 23, 24, 25, 26, 27, 16, 28, 29, 30, 6, 31, 32, 11, 12, 108, 109, 110, 111] (by decide +kernel) (by decide +kernel)
set_option maxRecDepth 20000 in
theorem gX3_build_X1_reachedFrom : GoodIn wsX3_build (wsV RX3 61 RX1 yX1_reachedFrom wsX1_reachedFrom) := goodIn_app (goodIn_of _ (by decide +kernel)) ggX3_build_X1_reachedFrom
set_option maxRecDepth 20000 in
theorem ggX3_build_X1_lowestBad : GoodIn wsX3_build wsX1_lowestBad := goodIn_r _ [36, 25, 26, 27, 16, 28, 29, 18, 19, 30, 6, 31, 32, 11, 12, 108, 109, 110, 111] (by decide +kernel) (by decide +kernel)
set_option maxRecDepth 20000 in
theorem gX3_build_X1_lowestBad : GoodIn wsX3_build (wsV RX3 65 RX1 yX1_lowestBad wsX1_lowestBad) := goodIn_app (goodIn_of _ (by decide +kernel)) ggX3_build_X1_lowestBad
set_option maxRecDepth 20000 in
theorem ggX3_build_X0_begin : GoodIn wsX3_build wsX0_begin := goodIn_r _ [41, 42, 43, 44, 45, 46, 47, 48, 49, 50, 51, 52, 53, 54, 16, 55, 29, 56, 57, 58, 59, 18, 19, 60, 61, 62, 63, 64, 65, 66, 67, 68, 69, 70, 71, 72, 73, 74, 75, 76, 77, 78, 79, 80, 81, 82, 83, 84, 85, 86, 87, 88, 89, 40, 90, 91, 92, 93, 94, 95, 96, 112, 113, 114, 115, 116, 117, 118, 119, 120, 121, 122, 123, 124, 108, 109, 110, 111, 125, 126, 127, 128, 129, 130, 131, 132, 133] (by decide +kernel) (by decide +kernel)
set_option maxRecDepth 20000 in
theorem gX3_build_X0_begin : GoodIn wsX3_build (wsV RX3 68 RX0 yX0_begin wsX0_begin) := goodIn_app (goodIn_of _ (by decide +kernel)) ggX3_build_X0_begin
set_option maxRecDepth 20000 in
theorem ggX3_build_J6_bitCount_0f7a4 : GoodIn wsX3_build wsJ6_bitCount_0f7a4 := goodIn_r _ [99, 100, 101, 102] (by decide +kernel) (by decide +kernel)
set_option maxRecDepth 20000 in
theorem gX3_build_J6_bitCount_0f7a4 : GoodIn wsX3_build (va_wsS RX3 72 yJ6_bitCount_0f7a4 wsJ6_bitCount_0f7a4) := goodIn_app (goodIn_of _ (by decide +kernel)) ggX3_build_J6_bitCount_0f7a4
theorem dX3_build_0 : decode cX3_build 0 = .ok (.iload_n 1, 1) := by decide +kernel
theorem dX3_build_1 : decode cX3_build 1 = .ok (.invokestatic 34, 3) := by decide +kernel
theorem dX3_build_4 : decode cX3_build 4 = .ok (.aload_n 0, 1) := by decide +kernel
theorem dX3_build_5 : decode cX3_build 5 = .ok (.getfield 12, 3) := by decide +kernel
theorem dX3_build_8 : decode cX3_build 8 = .ok (.iload_n 1, 1) := by decide +kernel
theorem dX3_build_9 : decode cX3_build 9 = .ok (.invokevirtual 61, 3) := by decide +kernel
theorem dX3_build_12 : decode cX3_build 12 = .ok (.istore_n 2, 1) := by decide +kernel
theorem dX3_build_13 : decode cX3_build 13 = .ok (.aload_n 0, 1) := by decide +kernel
theorem dX3_build_14 : decode cX3_build 14 = .ok (.getfield 12, 3) := by decide +kernel
theorem dX3_build_17 : decode cX3_build 17 = .ok (.iload_n 2, 1) := by decide +kernel
theorem dX3_build_18 : decode cX3_build 18 = .ok (.invokevirtual 65, 3) := by decide +kernel
theorem dX3_build_21 : decode cX3_build 21 = .ok (.istore_n 3, 1) := by decide +kernel
theorem dX3_build_22 : decode cX3_build 22 = .ok (.iload_n 3, 1) := by decide +kernel
theorem dX3_build_23 : decode cX3_build 23 = .ok (.ifCond .eq 6, 3) := by decide +kernel
theorem dX3_build_26 : decode cX3_build 26 = .ok (.iload_n 3, 1) := by decide +kernel
theorem dX3_build_27 : decode cX3_build 27 = .ok (.ineg, 1) := by decide +kernel
theorem dX3_build_28 : decode cX3_build 28 = .ok (.ireturn, 1) := by decide +kernel
theorem dX3_build_29 : decode cX3_build 29 = .ok (.aload_n 0, 1) := by decide +kernel
theorem dX3_build_30 : decode cX3_build 30 = .ok (.getfield 19, 3) := by decide +kernel
theorem dX3_build_33 : decode cX3_build 33 = .ok (.aload_n 0, 1) := by decide +kernel
theorem dX3_build_34 : decode cX3_build 34 = .ok (.getfield 12, 3) := by decide +kernel
theorem dX3_build_37 : decode cX3_build 37 = .ok (.iload_n 1, 1) := by decide +kernel
theorem dX3_build_38 : decode cX3_build 38 = .ok (.iload_n 2, 1) := by decide +kernel
theorem dX3_build_39 : decode cX3_build 39 = .ok (.invokevirtual 68, 3) := by decide +kernel
theorem dX3_build_42 : decode cX3_build 42 = .ok (.aload_n 0, 1) := by decide +kernel
theorem dX3_build_43 : decode cX3_build 43 = .ok (.iconst 1, 1) := by decide +kernel
theorem dX3_build_44 : decode cX3_build 44 = .ok (.putfield 30, 3) := by decide +kernel
theorem dX3_build_47 : decode cX3_build 47 = .ok (.iload_n 2, 1) := by decide +kernel
theorem dX3_build_48 : decode cX3_build 48 = .ok (.invokestatic 72, 3) := by decide +kernel
theorem dX3_build_51 : decode cX3_build 51 = .ok (.ireturn, 1) := by decide +kernel
set_option maxRecDepth 20000 in
theorem ggX3_give_X3_requireMemory : GoodIn wsX3_give wsX3_requireMemory := goodIn_ca (goodIn_r _ [8, 1, 2, 9, 157, 158, 159, 160, 161] (by decide +kernel) (by decide +kernel)) (goodIn_sub (fun _ h => List.mem_cons_of_mem _ (List.mem_append_left _ (List.mem_append_right _ h))) (by decide +kernel))
set_option maxRecDepth 20000 in
theorem gX3_give_X3_requireMemory : GoodIn wsX3_give (wsV RX3 77 RX3 yX3_requireMemory wsX3_requireMemory) := goodIn_app (goodIn_of _ (by decide +kernel)) ggX3_give_X3_requireMemory
set_option maxRecDepth 20000 in
theorem ggX3_give_X0_isFull : GoodIn wsX3_give wsX0_isFull := goodIn_r _ [14, 15, 162, 163, 164, 165, 166, 167, 168, 169, 170, 171, 172, 173, 174] (by decide +kernel) (by decide +kernel)
set_option maxRecDepth 20000 in
theorem gX3_give_X0_isFull : GoodIn wsX3_give (wsV RX3 80 RX0 yX0_isFull wsX0_isFull) := goodIn_app (goodIn_of _ (by decide +kernel)) ggX3_give_X0_isFull
set_option maxRecDepth 20000 in
theorem ggX3_give_X3_requireWords : GoodIn wsX3_give wsX3_requireWords := goodIn_ca (goodIn_r _ [18, 19, 20] (by decide +kernel) (by decide +kernel)) (goodIn_sub (fun _ h => List.mem_cons_of_mem _ (List.mem_append_right _ h)) (by decide +kernel))
set_option maxRecDepth 20000 in
theorem gX3_give_X3_requireWords : GoodIn wsX3_give (va_wsS RX3 89 yX3_requireWords wsX3_requireWords) := goodIn_app (goodIn_of _ (by decide +kernel)) ggX3_give_X3_requireWords
set_option maxRecDepth 20000 in
theorem ggX3_give_X0_grant : GoodIn wsX3_give wsX0_grant := goodIn_r _ [24, 25, 26, 15, 27, 28, 29, 30, 31, 13, 32, 33, 34, 35, 36, 37, 38, 39, 40, 41, 42, 43, 44, 45, 46, 47, 48, 49, 50, 51, 52, 53, 54, 55, 56, 57, 58, 59, 60, 61, 62, 63, 64, 65, 66, 67, 68, 69, 70, 71, 72, 73, 74, 75, 76, 77, 78, 79, 80, 81, 82, 83, 84, 85, 86, 87, 88, 89, 90, 91, 92, 93, 94, 95, 96, 97, 98, 99, 100, 101, 102, 103, 104, 105, 106, 107, 108, 109, 110, 111, 112, 113, 114, 115, 116, 117, 118, 119, 120, 121, 122, 123, 124, 125, 126, 127, 128, 129, 130, 131, 132, 133, 134, 135, 136, 137, 138, 139, 140, 141, 142, 143, 144, 145, 146, 147, 148, 162, 163, 164, 165, 166, 167, 168, 169, 170, 171, 172, 173, 174, 175, 176, 177, 178, 179, 180, 181, 182, 183, 184, 185, 186, 187] (by decide +kernel) (by decide +kernel)
set_option maxRecDepth 20000 in
theorem gX3_give_X0_grant : GoodIn wsX3_give (wsV RX3 92 RX0 yX0_grant wsX0_grant) := goodIn_app (goodIn_of _ (by decide +kernel)) ggX3_give_X0_grant
set_option maxRecDepth 20000 in
theorem ggX3_give_X3_addressOrNone : GoodIn wsX3_give wsX3_addressOrNone := goodIn_r _ [152, 3, 153, 154, 155, 39, 156, 89, 157, 158, 159, 160, 161, 162, 163, 164, 165, 166, 167, 168, 169, 170, 171, 172, 173, 174, 179, 180, 181, 182, 183, 184, 185, 186, 187] (by decide +kernel) (by decide +kernel)
set_option maxRecDepth 20000 in
theorem gX3_give_X3_addressOrNone : GoodIn wsX3_give (wsV RX3 95 RX3 yX3_addressOrNone wsX3_addressOrNone) := goodIn_app (goodIn_of _ (by decide +kernel)) ggX3_give_X3_addressOrNone
theorem dX3_give_0 : decode cX3_give 0 = .ok (.aload_n 0, 1) := by decide +kernel
theorem dX3_give_1 : decode cX3_give 1 = .ok (.invokevirtual 77, 3) := by decide +kernel
theorem dX3_give_4 : decode cX3_give 4 = .ok (.aload_n 0, 1) := by decide +kernel
theorem dX3_give_5 : decode cX3_give 5 = .ok (.getfield 19, 3) := by decide +kernel
theorem dX3_give_8 : decode cX3_give 8 = .ok (.invokevirtual 80, 3) := by decide +kernel
theorem dX3_give_11 : decode cX3_give 11 = .ok (.ifCond .eq 13, 3) := by decide +kernel
theorem dX3_give_14 : decode cX3_give 14 = .ok (.new 84, 3) := by decide +kernel
theorem dX3_give_17 : decode cX3_give 17 = .ok (.dup, 1) := by decide +kernel
theorem dX3_give_18 : decode cX3_give 18 = .ok (.ldc 86, 2) := by decide +kernel
theorem dX3_give_20 : decode cX3_give 20 = .ok (.invokespecial 88, 3) := by decide +kernel
theorem dX3_give_23 : decode cX3_give 23 = .ok (.athrow, 1) := by decide +kernel
theorem dX3_give_24 : decode cX3_give 24 = .ok (.iload_n 1, 1) := by decide +kernel
theorem dX3_give_25 : decode cX3_give 25 = .ok (.invokestatic 89, 3) := by decide +kernel
theorem dX3_give_28 : decode cX3_give 28 = .ok (.aload_n 0, 1) := by decide +kernel
theorem dX3_give_29 : decode cX3_give 29 = .ok (.aload_n 0, 1) := by decide +kernel
theorem dX3_give_30 : decode cX3_give 30 = .ok (.getfield 19, 3) := by decide +kernel
theorem dX3_give_33 : decode cX3_give 33 = .ok (.iload_n 1, 1) := by decide +kernel
theorem dX3_give_34 : decode cX3_give 34 = .ok (.invokevirtual 92, 3) := by decide +kernel
theorem dX3_give_37 : decode cX3_give 37 = .ok (.invokevirtual 95, 3) := by decide +kernel
theorem dX3_give_40 : decode cX3_give 40 = .ok (.ireturn, 1) := by decide +kernel
set_option maxRecDepth 20000 in
theorem ggX3_free_X3_requireBlock : GoodIn wsX3_free wsX3_requireBlock := goodIn_ca (goodIn_ca (goodIn_r _ [6, 7, 8, 1, 9, 10, 11, 5, 12, 13, 14, 15, 16, 17, 18, 19, 20, 21, 22, 23, 105, 106, 107, 108, 109, 110, 111, 112, 113, 114, 115, 116, 117, 118, 119, 120, 121, 122, 123, 124, 125, 126, 127, 128, 129, 130, 131] (by decide +kernel) (by decide +kernel)) (goodIn_sub (fun _ h => List.mem_cons_of_mem _ (List.mem_append_left _ (List.mem_append_right _ h))) (by decide +kernel))) (goodIn_sub (fun _ h => List.mem_cons_of_mem _ (List.mem_append_right _ h)) (by decide +kernel))
set_option maxRecDepth 20000 in
theorem gX3_free_X3_requireBlock : GoodIn wsX3_free (wsV RX3 98 RX3 yX3_requireBlock wsX3_requireBlock) := goodIn_app (goodIn_of _ (by decide +kernel)) ggX3_free_X3_requireBlock
set_option maxRecDepth 20000 in
theorem ggX3_free_X0_release : GoodIn wsX3_free wsX0_release := goodIn_r _ [28, 29, 30, 31, 32, 33, 34, 35, 36, 19, 37, 23, 38, 39, 40, 27, 41, 42, 43, 44, 45, 46, 47, 48, 49, 50, 51, 52, 53, 54, 55, 56, 57, 58, 59, 60, 61, 62, 63, 64, 65, 66, 67, 68, 69, 70, 21, 71, 72, 73, 74, 75, 76, 77, 78, 79, 80, 81, 82, 83, 84, 85, 86, 87, 88, 89, 22, 90, 91, 92, 93, 94, 95, 96, 97, 98, 99, 100, 101, 102, 103, 104, 110, 111, 112, 113, 114, 115, 116, 117, 118, 119, 120, 121, 122, 123, 124, 125, 126, 127, 128, 129, 130, 131, 132, 133, 134, 135] (by decide +kernel) (by decide +kernel)
set_option maxRecDepth 20000 in
theorem gX3_free_X0_release : GoodIn wsX3_free (wsV RX3 101 RX0 yX0_release wsX0_release) := goodIn_app (goodIn_of _ (by decide +kernel)) ggX3_free_X0_release
theorem dX3_free_0 : decode cX3_free 0 = .ok (.aload_n 0, 1) := by decide +kernel
theorem dX3_free_1 : decode cX3_free 1 = .ok (.getfield 19, 3) := by decide +kernel
theorem dX3_free_4 : decode cX3_free 4 = .ok (.aload_n 0, 1) := by decide +kernel
theorem dX3_free_5 : decode cX3_free 5 = .ok (.iload_n 1, 1) := by decide +kernel
theorem dX3_free_6 : decode cX3_free 6 = .ok (.invokevirtual 98, 3) := by decide +kernel
theorem dX3_free_9 : decode cX3_free 9 = .ok (.invokevirtual 101, 3) := by decide +kernel
theorem dX3_free_12 : decode cX3_free 12 = .ok (.return_, 1) := by decide +kernel
set_option maxRecDepth 20000 in
theorem ggX3_change_X3_requireBlock : GoodIn wsX3_change wsX3_requireBlock := goodIn_ca (goodIn_ca (goodIn_r _ [8, 9, 10, 3, 11, 12, 13, 7, 14, 1, 2, 15, 16, 17, 18, 19, 20, 21, 22, 23, 196, 197, 198, 199, 200, 201, 202, 203, 204, 205, 206, 207, 208, 209, 210, 211, 212, 213, 214, 215, 216, 217, 218, 219, 220, 221, 222] (by decide +kernel) (by decide +kernel)) (goodIn_sub (fun _ h => List.mem_cons_of_mem _ (List.mem_append_right _ h)) (by decide +kernel))) (goodIn_sub (fun _ h => List.mem_cons_of_mem _ (List.mem_append_left _ (List.mem_append_right _ h))) (by decide +kernel))
set_option maxRecDepth 20000 in
theorem gX3_change_X3_requireBlock : GoodIn wsX3_change (wsV RX3 98 RX3 yX3_requireBlock wsX3_requireBlock) := goodIn_app (goodIn_of _ (by decide +kernel)) ggX3_change_X3_requireBlock
set_option maxRecDepth 20000 in
theorem ggX3_change_X3_requireWords : GoodIn wsX3_change wsX3_requireWords := goodIn_ca (goodIn_r _ [26, 9, 10] (by decide +kernel) (by decide +kernel)) (goodIn_sub (fun _ h => List.mem_cons_of_mem _ (List.mem_append_right _ h)) (by decide +kernel))
set_option maxRecDepth 20000 in
theorem gX3_change_X3_requireWords : GoodIn wsX3_change (va_wsS RX3 89 yX3_requireWords wsX3_requireWords) := goodIn_app (goodIn_of _ (by decide +kernel)) ggX3_change_X3_requireWords
set_option maxRecDepth 20000 in
theorem ggX3_change_X0_sizeOf : GoodIn wsX3_change wsX0_sizeOf := goodIn_r _ [31, 32, 33, 34, 35, 36, 19, 37, 38, 201, 202, 203, 204, 205, 206, 207, 208, 209, 210, 211, 212, 213, 223, 224, 225, 226, 214, 215, 216, 217, 218, 219, 220, 221, 222] (by decide +kernel) (by decide +kernel)
set_option maxRecDepth 20000 in
theorem gX3_change_X0_sizeOf : GoodIn wsX3_change (wsV RX3 104 RX0 yX0_sizeOf wsX0_sizeOf) := goodIn_app (goodIn_of _ (by decide +kernel)) ggX3_change_X0_sizeOf
set_option maxRecDepth 20000 in
theorem ggX3_change_X0_renew : GoodIn wsX3_change wsX0_renew := goodIn_r _ [42, 43, 33, 44, 45, 46, 19, 47, 23, 48, 49, 50, 51, 52, 38, 53, 201, 202, 203, 204, 205, 206, 207, 208, 209, 210, 211, 212, 213, 214, 215, 216, 217, 218, 219, 220, 221, 222] (by decide +kernel) (by decide +kernel)
set_option maxRecDepth 20000 in
theorem gX3_change_X0_renew : GoodIn wsX3_change (wsV RX3 107 RX0 yX0_renew wsX0_renew) := goodIn_app (goodIn_of _ (by decide +kernel)) ggX3_change_X0_renew
set_option maxRecDepth 20000 in
theorem ggX3_change_X0_isFull : GoodIn wsX3_change wsX0_isFull := goodIn_r _ [57, 58, 201, 202, 203, 204, 205, 206, 207, 208, 209, 210, 211, 212, 213] (by decide +kernel) (by decide +kernel)
set_option maxRecDepth 20000 in
theorem gX3_change_X0_isFull : GoodIn wsX3_change (wsV RX3 80 RX0 yX0_isFull wsX0_isFull) := goodIn_app (goodIn_of _ (by decide +kernel)) ggX3_change_X0_isFull
set_option maxRecDepth 20000 in
theorem ggX3_change_X0_grant : GoodIn wsX3_change wsX0_grant := goodIn_r _ [62, 63, 33, 58, 43, 64, 65, 66, 67, 30, 68, 69, 70, 32, 71, 72, 73, 19, 74, 52, 75, 76, 77, 78, 21, 79, 80, 81, 82, 83, 84, 85, 86, 87, 88, 89, 90, 91, 92, 93, 94, 95, 23, 96, 97, 98, 99, 100, 101, 102, 103, 104, 105, 106, 107, 108, 34, 35, 36, 37, 38, 109, 110, 111, 112, 113, 114, 22, 115, 116, 117, 118, 119, 120, 49, 50, 51, 53, 121, 122, 123, 124, 125, 126, 127, 128, 129, 130, 131, 132, 133, 134, 135, 136, 137, 138, 139, 140, 141, 142, 143, 144, 145, 146, 147, 148, 149, 150, 151, 152, 153, 154, 155, 156, 157, 158, 159, 160, 161, 162, 163, 164, 48, 165, 28, 29, 31, 201, 202, 203, 204, 205, 206, 207, 208, 209, 210, 211, 212, 213, 223, 224, 225, 226, 214, 215, 216, 217, 218, 219, 220, 221, 222] (by decide +kernel) (by decide +kernel)
set_option maxRecDepth 20000 in
theorem gX3_change_X0_grant : GoodIn wsX3_change (wsV RX3 92 RX0 yX0_grant wsX0_grant) := goodIn_app (goodIn_of _ (by decide +kernel)) ggX3_change_X0_grant
set_option maxRecDepth 20000 in
theorem ggX3_change_X0_release : GoodIn wsX3_change wsX0_release := goodIn_r _ [169, 58, 43, 33, 64, 63, 44, 45, 46, 19, 47, 23, 165, 28, 29, 30, 31, 32, 34, 35, 36, 37, 38, 48, 49, 50, 51, 52, 53, 170, 171, 172, 173, 174, 175, 176, 177, 178, 179, 180, 181, 182, 183, 93, 94, 95, 21, 184, 185, 186, 187, 113, 101, 102, 103, 104, 83, 105, 106, 107, 108, 109, 110, 111, 112, 114, 22, 115, 116, 117, 118, 119, 120, 121, 122, 123, 124, 88, 89, 90, 91, 92, 201, 202, 203, 204, 205, 206, 207, 208, 209, 210, 211, 212, 213, 214, 215, 216, 217, 218, 219, 220, 221, 222, 223, 224, 225, 226] (by decide +kernel) (by decide +kernel)
set_option maxRecDepth 20000 in
theorem gX3_change_X0_release : GoodIn wsX3_change (wsV RX3 101 RX0 yX0_release wsX0_release) := goodIn_app (goodIn_of _ (by decide +kernel)) ggX3_change_X0_release
set_option maxRecDepth 20000 in
theorem ggX3_change_X3_addressOrNone : GoodIn wsX3_change wsX3_addressOrNone := goodIn_r _ [191, 3, 192, 193, 194, 19, 195, 22, 196, 197, 198, 199, 200, 201, 202, 203, 204, 205, 206, 207, 208, 209, 210, 211, 212, 213, 214, 215, 216, 217, 218, 219, 220, 221, 222] (by decide +kernel) (by decide +kernel)
set_option maxRecDepth 20000 in
theorem gX3_change_X3_addressOrNone : GoodIn wsX3_change (wsV RX3 95 RX3 yX3_addressOrNone wsX3_addressOrNone) := goodIn_app (goodIn_of _ (by decide +kernel)) ggX3_change_X3_addressOrNone
theorem dX3_change_0 : decode cX3_change 0 = .ok (.aload_n 0, 1) := by decide +kernel
theorem dX3_change_1 : decode cX3_change 1 = .ok (.iload_n 1, 1) := by decide +kernel
theorem dX3_change_2 : decode cX3_change 2 = .ok (.invokevirtual 98, 3) := by decide +kernel
theorem dX3_change_5 : decode cX3_change 5 = .ok (.istore_n 3, 1) := by decide +kernel
theorem dX3_change_6 : decode cX3_change 6 = .ok (.iload_n 2, 1) := by decide +kernel
theorem dX3_change_7 : decode cX3_change 7 = .ok (.invokestatic 89, 3) := by decide +kernel
theorem dX3_change_10 : decode cX3_change 10 = .ok (.aload_n 0, 1) := by decide +kernel
theorem dX3_change_11 : decode cX3_change 11 = .ok (.getfield 19, 3) := by decide +kernel
theorem dX3_change_14 : decode cX3_change 14 = .ok (.iload_n 3, 1) := by decide +kernel
theorem dX3_change_15 : decode cX3_change 15 = .ok (.invokevirtual 104, 3) := by decide +kernel
theorem dX3_change_18 : decode cX3_change 18 = .ok (.iload_n 2, 1) := by decide +kernel
theorem dX3_change_19 : decode cX3_change 19 = .ok (.if_icmp .lt 14, 3) := by decide +kernel
theorem dX3_change_22 : decode cX3_change 22 = .ok (.aload_n 0, 1) := by decide +kernel
theorem dX3_change_23 : decode cX3_change 23 = .ok (.getfield 19, 3) := by decide +kernel
theorem dX3_change_26 : decode cX3_change 26 = .ok (.iload_n 3, 1) := by decide +kernel
theorem dX3_change_27 : decode cX3_change 27 = .ok (.iload_n 2, 1) := by decide +kernel
theorem dX3_change_28 : decode cX3_change 28 = .ok (.invokevirtual 107, 3) := by decide +kernel
theorem dX3_change_31 : decode cX3_change 31 = .ok (.iload_n 1, 1) := by decide +kernel
theorem dX3_change_32 : decode cX3_change 32 = .ok (.ireturn, 1) := by decide +kernel
theorem dX3_change_33 : decode cX3_change 33 = .ok (.aload_n 0, 1) := by decide +kernel
theorem dX3_change_34 : decode cX3_change 34 = .ok (.getfield 19, 3) := by decide +kernel
theorem dX3_change_37 : decode cX3_change 37 = .ok (.invokevirtual 80, 3) := by decide +kernel
