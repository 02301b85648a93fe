theorem dX2_setRequest_4 : decode cX2_setRequest 4 = .ok (.iload_n 1, 1) := by decide +kernel
theorem dX2_setRequest_5 : decode cX2_setRequest 5 = .ok (.iload_n 2, 1) := by decide +kernel
theorem dX2_setRequest_6 : decode cX2_setRequest 6 = .ok (.iastore, 1) := by decide +kernel
theorem dX2_setRequest_7 : decode cX2_setRequest 7 = .ok (.aload_n 0, 1) := by decide +kernel
theorem dX2_setRequest_8 : decode cX2_setRequest 8 = .ok (.getfield 27, 3) := by decide +kernel
theorem dX2_setRequest_11 : decode cX2_setRequest 11 = .ok (.iload_n 1, 1) := by decide +kernel
theorem dX2_setRequest_12 : decode cX2_setRequest 12 = .ok (.iload_n 2, 1) := by decide +kernel
theorem dX2_setRequest_13 : decode cX2_setRequest 13 = .ok (.ifCond .ne 14, 3) := by decide +kernel
theorem dX2_setRequest_16 : decode cX2_setRequest 16 = .ok (.iconst 1, 1) := by decide +kernel
theorem dX2_setRequest_17 : decode cX2_setRequest 17 = .ok (.aload_n 0, 1) := by decide +kernel
theorem dX2_setRequest_18 : decode cX2_setRequest 18 = .ok (.getfield 18, 3) := by decide +kernel
theorem dX2_setRequest_21 : decode cX2_setRequest 21 = .ok (.iload_n 1, 1) := by decide +kernel
theorem dX2_setRequest_22 : decode cX2_setRequest 22 = .ok (.iaload, 1) := by decide +kernel
theorem dX2_setRequest_23 : decode cX2_setRequest 23 = .ok (.ishl, 1) := by decide +kernel
theorem dX2_setRequest_24 : decode cX2_setRequest 24 = .ok (.goto 5, 3) := by decide +kernel
theorem dX2_setRequest_27 : decode cX2_setRequest 27 = .ok (.ldc 44, 2) := by decide +kernel
theorem dX2_setRequest_29 : decode cX2_setRequest 29 = .ok (.iastore, 1) := by decide +kernel
theorem dX2_setRequest_30 : decode cX2_setRequest 30 = .ok (.return_, 1) := by decide +kernel
theorem dX2_refreshAbove_0 : decode cX2_refreshAbove 0 = .ok (.aload_n 0, 1) := by decide +kernel
theorem dX2_refreshAbove_1 : decode cX2_refreshAbove 1 = .ok (.getfield 11, 3) := by decide +kernel
theorem dX2_refreshAbove_4 : decode cX2_refreshAbove 4 = .ok (.iload_n 1, 1) := by decide +kernel
theorem dX2_refreshAbove_5 : decode cX2_refreshAbove 5 = .ok (.iaload, 1) := by decide +kernel
theorem dX2_refreshAbove_6 : decode cX2_refreshAbove 6 = .ok (.istore_n 2, 1) := by decide +kernel
theorem dX2_refreshAbove_7 : decode cX2_refreshAbove 7 = .ok (.iconst 0, 1) := by decide +kernel
theorem dX2_refreshAbove_8 : decode cX2_refreshAbove 8 = .ok (.istore_n 3, 1) := by decide +kernel
theorem dX2_refreshAbove_9 : decode cX2_refreshAbove 9 = .ok (.iload_n 3, 1) := by decide +kernel
theorem dX2_refreshAbove_10 : decode cX2_refreshAbove 10 = .ok (.bipush 24, 2) := by decide +kernel
theorem dX2_refreshAbove_12 : decode cX2_refreshAbove 12 = .ok (.if_icmp .ge 93, 3) := by decide +kernel
theorem dX2_refreshAbove_15 : decode cX2_refreshAbove 15 = .ok (.iload_n 2, 1) := by decide +kernel
theorem dX2_refreshAbove_16 : decode cX2_refreshAbove 16 = .ok (.ifCond .eq 89, 3) := by decide +kernel
theorem dX2_refreshAbove_19 : decode cX2_refreshAbove 19 = .ok (.aload_n 0, 1) := by decide +kernel
theorem dX2_refreshAbove_20 : decode cX2_refreshAbove 20 = .ok (.getfield 15, 3) := by decide +kernel
theorem dX2_refreshAbove_23 : decode cX2_refreshAbove 23 = .ok (.iload_n 2, 1) := by decide +kernel
theorem dX2_refreshAbove_24 : decode cX2_refreshAbove 24 = .ok (.iaload, 1) := by decide +kernel
theorem dX2_refreshAbove_25 : decode cX2_refreshAbove 25 = .ok (.istore 4, 2) := by decide +kernel
theorem dX2_refreshAbove_27 : decode cX2_refreshAbove 27 = .ok (.aload_n 0, 1) := by decide +kernel
theorem dX2_refreshAbove_28 : decode cX2_refreshAbove 28 = .ok (.getfield 27, 3) := by decide +kernel
theorem dX2_refreshAbove_31 : decode cX2_refreshAbove 31 = .ok (.iload 4, 2) := by decide +kernel
theorem dX2_refreshAbove_33 : decode cX2_refreshAbove 33 = .ok (.iaload, 1) := by decide +kernel
theorem dX2_refreshAbove_34 : decode cX2_refreshAbove 34 = .ok (.aload_n 0, 1) := by decide +kernel
theorem dX2_refreshAbove_35 : decode cX2_refreshAbove 35 = .ok (.getfield 27, 3) := by decide +kernel
theorem dX2_refreshAbove_38 : decode cX2_refreshAbove 38 = .ok (.iload 4, 2) := by decide +kernel
theorem dX2_refreshAbove_40 : decode cX2_refreshAbove 40 = .ok (.iconst 1, 1) := by decide +kernel
theorem dX2_refreshAbove_41 : decode cX2_refreshAbove 41 = .ok (.iadd, 1) := by decide +kernel
theorem dX2_refreshAbove_42 : decode cX2_refreshAbove 42 = .ok (.iaload, 1) := by decide +kernel
theorem dX2_refreshAbove_43 : decode cX2_refreshAbove 43 = .ok (.ior, 1) := by decide +kernel
theorem dX2_refreshAbove_44 : decode cX2_refreshAbove 44 = .ok (.istore 5, 2) := by decide +kernel
theorem dX2_refreshAbove_46 : decode cX2_refreshAbove 46 = .ok (.aload_n 0, 1) := by decide +kernel
theorem dX2_refreshAbove_47 : decode cX2_refreshAbove 47 = .ok (.getfield 27, 3) := by decide +kernel
theorem dX2_refreshAbove_50 : decode cX2_refreshAbove 50 = .ok (.iload_n 2, 1) := by decide +kernel
theorem dX2_refreshAbove_51 : decode cX2_refreshAbove 51 = .ok (.aload_n 0, 1) := by decide +kernel
theorem dX2_refreshAbove_52 : decode cX2_refreshAbove 52 = .ok (.iload_n 2, 1) := by decide +kernel
theorem dX2_refreshAbove_53 : decode cX2_refreshAbove 53 = .ok (.invokevirtual 49, 3) := by decide +kernel
theorem dX2_refreshAbove_56 : decode cX2_refreshAbove 56 = .ok (.ifCond .eq 10, 3) := by decide +kernel
theorem dX2_refreshAbove_59 : decode cX2_refreshAbove 59 = .ok (.iload 5, 2) := by decide +kernel
theorem dX2_refreshAbove_61 : decode cX2_refreshAbove 61 = .ok (.iconst 1, 1) := by decide +kernel
theorem dX2_refreshAbove_62 : decode cX2_refreshAbove 62 = .ok (.ior, 1) := by decide +kernel
theorem dX2_refreshAbove_63 : decode cX2_refreshAbove 63 = .ok (.goto 5, 3) := by decide +kernel
theorem dX2_refreshAbove_66 : decode cX2_refreshAbove 66 = .ok (.iload 5, 2) := by decide +kernel
theorem dX2_refreshAbove_68 : decode cX2_refreshAbove 68 = .ok (.iastore, 1) := by decide +kernel
theorem dX2_refreshAbove_69 : decode cX2_refreshAbove 69 = .ok (.aload_n 0, 1) := by decide +kernel
theorem dX2_refreshAbove_70 : decode cX2_refreshAbove 70 = .ok (.getfield 30, 3) := by decide +kernel
theorem dX2_refreshAbove_73 : decode cX2_refreshAbove 73 = .ok (.iload_n 2, 1) := by decide +kernel
theorem dX2_refreshAbove_74 : decode cX2_refreshAbove 74 = .ok (.aload_n 0, 1) := by decide +kernel
theorem dX2_refreshAbove_75 : decode cX2_refreshAbove 75 = .ok (.getfield 30, 3) := by decide +kernel
theorem dX2_refreshAbove_78 : decode cX2_refreshAbove 78 = .ok (.iload 4, 2) := by decide +kernel
theorem dX2_refreshAbove_80 : decode cX2_refreshAbove 80 = .ok (.iaload, 1) := by decide +kernel
theorem dX2_refreshAbove_81 : decode cX2_refreshAbove 81 = .ok (.aload_n 0, 1) := by decide +kernel
theorem dX2_refreshAbove_82 : decode cX2_refreshAbove 82 = .ok (.getfield 30, 3) := by decide +kernel
theorem dX2_refreshAbove_85 : decode cX2_refreshAbove 85 = .ok (.iload 4, 2) := by decide +kernel
theorem dX2_refreshAbove_87 : decode cX2_refreshAbove 87 = .ok (.iconst 1, 1) := by decide +kernel
theorem dX2_refreshAbove_88 : decode cX2_refreshAbove 88 = .ok (.iadd, 1) := by decide +kernel
theorem dX2_refreshAbove_89 : decode cX2_refreshAbove 89 = .ok (.iaload, 1) := by decide +kernel
theorem dX2_refreshAbove_90 : decode cX2_refreshAbove 90 = .ok (.iadd, 1) := by decide +kernel
theorem dX2_refreshAbove_91 : decode cX2_refreshAbove 91 = .ok (.iastore, 1) := by decide +kernel
theorem dX2_refreshAbove_92 : decode cX2_refreshAbove 92 = .ok (.aload_n 0, 1) := by decide +kernel
theorem dX2_refreshAbove_93 : decode cX2_refreshAbove 93 = .ok (.getfield 11, 3) := by decide +kernel
theorem dX2_refreshAbove_96 : decode cX2_refreshAbove 96 = .ok (.iload_n 2, 1) := by decide +kernel
theorem dX2_refreshAbove_97 : decode cX2_refreshAbove 97 = .ok (.iaload, 1) := by decide +kernel
theorem dX2_refreshAbove_98 : decode cX2_refreshAbove 98 = .ok (.istore_n 2, 1) := by decide +kernel
theorem dX2_refreshAbove_99 : decode cX2_refreshAbove 99 = .ok (.iinc 3 1, 3) := by decide +kernel
theorem dX2_refreshAbove_102 : decode cX2_refreshAbove 102 = .ok (.goto (-93), 3) := by decide +kernel
theorem dX2_refreshAbove_105 : decode cX2_refreshAbove 105 = .ok (.return_, 1) := by decide +kernel
theorem dX2_hasFreePair_0 : decode cX2_hasFreePair 0 = .ok (.aload_n 0, 1) := by decide +kernel
theorem dX2_hasFreePair_1 : decode cX2_hasFreePair 1 = .ok (.aload_n 0, 1) := by decide +kernel
theorem dX2_hasFreePair_2 : decode cX2_hasFreePair 2 = .ok (.getfield 15, 3) := by decide +kernel
theorem dX2_hasFreePair_5 : decode cX2_hasFreePair 5 = .ok (.iload_n 1, 1) := by decide +kernel
theorem dX2_hasFreePair_6 : decode cX2_hasFreePair 6 = .ok (.iaload, 1) := by decide +kernel
theorem dX2_hasFreePair_7 : decode cX2_hasFreePair 7 = .ok (.invokevirtual 67, 3) := by decide +kernel
theorem dX2_hasFreePair_10 : decode cX2_hasFreePair 10 = .ok (.ifCond .eq 22, 3) := by decide +kernel
theorem dX2_hasFreePair_13 : decode cX2_hasFreePair 13 = .ok (.aload_n 0, 1) := by decide +kernel
theorem dX2_hasFreePair_14 : decode cX2_hasFreePair 14 = .ok (.aload_n 0, 1) := by decide +kernel
theorem dX2_hasFreePair_15 : decode cX2_hasFreePair 15 = .ok (.getfield 15, 3) := by decide +kernel
theorem dX2_hasFreePair_18 : decode cX2_hasFreePair 18 = .ok (.iload_n 1, 1) := by decide +kernel
theorem dX2_hasFreePair_19 : decode cX2_hasFreePair 19 = .ok (.iaload, 1) := by decide +kernel
theorem dX2_hasFreePair_20 : decode cX2_hasFreePair 20 = .ok (.iconst 1, 1) := by decide +kernel
theorem dX2_hasFreePair_21 : decode cX2_hasFreePair 21 = .ok (.iadd, 1) := by decide +kernel
theorem dX2_hasFreePair_22 : decode cX2_hasFreePair 22 = .ok (.invokevirtual 67, 3) := by decide +kernel
theorem dX2_hasFreePair_25 : decode cX2_hasFreePair 25 = .ok (.ifCond .eq 7, 3) := by decide +kernel
theorem dX2_hasFreePair_28 : decode cX2_hasFreePair 28 = .ok (.iconst 1, 1) := by decide +kernel
theorem dX2_hasFreePair_29 : decode cX2_hasFreePair 29 = .ok (.goto 4, 3) := by decide +kernel
theorem dX2_hasFreePair_32 : decode cX2_hasFreePair 32 = .ok (.iconst 0, 1) := by decide +kernel
theorem dX2_hasFreePair_33 : decode cX2_hasFreePair 33 = .ok (.ireturn, 1) := by decide +kernel
theorem dX2_put_0 : decode cX2_put 0 = .ok (.aload_n 0, 1) := by decide +kernel
theorem dX2_put_1 : decode cX2_put 1 = .ok (.getfield 11, 3) := by decide +kernel
theorem dX2_put_4 : decode cX2_put 4 = .ok (.iload_n 1, 1) := by decide +kernel
theorem dX2_put_5 : decode cX2_put 5 = .ok (.iload_n 2, 1) := by decide +kernel
theorem dX2_put_6 : decode cX2_put 6 = .ok (.iastore, 1) := by decide +kernel
theorem dX2_put_7 : decode cX2_put 7 = .ok (.aload_n 0, 1) := by decide +kernel
theorem dX2_put_8 : decode cX2_put 8 = .ok (.getfield 15, 3) := by decide +kernel
theorem dX2_put_11 : decode cX2_put 11 = .ok (.iload_n 1, 1) := by decide +kernel
theorem dX2_put_12 : decode cX2_put 12 = .ok (.iconst 0, 1) := by decide +kernel
theorem dX2_put_13 : decode cX2_put 13 = .ok (.iastore, 1) := by decide +kernel
theorem dX2_put_14 : decode cX2_put 14 = .ok (.aload_n 0, 1) := by decide +kernel
theorem dX2_put_15 : decode cX2_put 15 = .ok (.getfield 18, 3) := by decide +kernel
theorem dX2_put_18 : decode cX2_put 18 = .ok (.iload_n 1, 1) := by decide +kernel
theorem dX2_put_19 : decode cX2_put 19 = .ok (.iload_n 3, 1) := by decide +kernel
theorem dX2_put_20 : decode cX2_put 20 = .ok (.iastore, 1) := by decide +kernel
theorem dX2_put_21 : decode cX2_put 21 = .ok (.aload_n 0, 1) := by decide +kernel
theorem dX2_put_22 : decode cX2_put 22 = .ok (.getfield 21, 3) := by decide +kernel
theorem dX2_put_25 : decode cX2_put 25 = .ok (.iload_n 1, 1) := by decide +kernel
theorem dX2_put_26 : decode cX2_put 26 = .ok (.iload 4, 2) := by decide +kernel
theorem dX2_put_28 : decode cX2_put 28 = .ok (.iastore, 1) := by decide +kernel
theorem dX2_put_29 : decode cX2_put 29 = .ok (.aload_n 0, 1) := by decide +kernel
theorem dX2_put_30 : decode cX2_put 30 = .ok (.getfield 30, 3) := by decide +kernel
theorem dX2_put_33 : decode cX2_put 33 = .ok (.iload_n 1, 1) := by decide +kernel
theorem dX2_put_34 : decode cX2_put 34 = .ok (.iconst 1, 1) := by decide +kernel
theorem dX2_put_35 : decode cX2_put 35 = .ok (.iastore, 1) := by decide +kernel
theorem dX2_put_36 : decode cX2_put 36 = .ok (.aload_n 0, 1) := by decide +kernel
theorem dX2_put_37 : decode cX2_put 37 = .ok (.iload_n 1, 1) := by decide +kernel
theorem dX2_put_38 : decode cX2_put 38 = .ok (.iconst 0, 1) := by decide +kernel
theorem dX2_put_39 : decode cX2_put 39 = .ok (.invokevirtual 70, 3) := by decide +kernel
theorem dX2_put_42 : decode cX2_put 42 = .ok (.return_, 1) := by decide +kernel
theorem dX2_takePair_0 : decode cX2_takePair 0 = .ok (.aload_n 0, 1) := by decide +kernel
theorem dX2_takePair_1 : decode cX2_takePair 1 = .ok (.getfield 37, 3) := by decide +kernel
theorem dX2_takePair_4 : decode cX2_takePair 4 = .ok (.istore_n 1, 1) := by decide +kernel
theorem dX2_takePair_5 : decode cX2_takePair 5 = .ok (.iload_n 1, 1) := by decide +kernel
theorem dX2_takePair_6 : decode cX2_takePair 6 = .ok (.ifCond .eq 15, 3) := by decide +kernel
theorem dX2_takePair_9 : decode cX2_takePair 9 = .ok (.aload_n 0, 1) := by decide +kernel
theorem dX2_takePair_10 : decode cX2_takePair 10 = .ok (.aload_n 0, 1) := by decide +kernel
theorem dX2_takePair_11 : decode cX2_takePair 11 = .ok (.getfield 11, 3) := by decide +kernel
theorem dX2_takePair_14 : decode cX2_takePair 14 = .ok (.iload_n 1, 1) := by decide +kernel
theorem dX2_takePair_15 : decode cX2_takePair 15 = .ok (.iaload, 1) := by decide +kernel
theorem dX2_takePair_16 : decode cX2_takePair 16 = .ok (.putfield 37, 3) := by decide +kernel
theorem dX2_takePair_19 : decode cX2_takePair 19 = .ok (.iload_n 1, 1) := by decide +kernel
theorem dX2_takePair_20 : decode cX2_takePair 20 = .ok (.ireturn, 1) := by decide +kernel
theorem dX2_takePair_21 : decode cX2_takePair 21 = .ok (.aload_n 0, 1) := by decide +kernel
theorem dX2_takePair_22 : decode cX2_takePair 22 = .ok (.getfield 33, 3) := by decide +kernel
theorem dX2_takePair_25 : decode cX2_takePair 25 = .ok (.istore_n 1, 1) := by decide +kernel
theorem dX2_takePair_26 : decode cX2_takePair 26 = .ok (.aload_n 0, 1) := by decide +kernel
theorem dX2_takePair_27 : decode cX2_takePair 27 = .ok (.dup, 1) := by decide +kernel
theorem dX2_takePair_28 : decode cX2_takePair 28 = .ok (.getfield 33, 3) := by decide +kernel
theorem dX2_takePair_31 : decode cX2_takePair 31 = .ok (.iconst 2, 1) := by decide +kernel
theorem dX2_takePair_32 : decode cX2_takePair 32 = .ok (.iadd, 1) := by decide +kernel
theorem dX2_takePair_33 : decode cX2_takePair 33 = .ok (.putfield 33, 3) := by decide +kernel
theorem dX2_takePair_36 : decode cX2_takePair 36 = .ok (.iload_n 1, 1) := by decide +kernel
theorem dX2_takePair_37 : decode cX2_takePair 37 = .ok (.ireturn, 1) := by decide +kernel
theorem dX2_grow_0 : decode cX2_grow 0 = .ok (.aload_n 0, 1) := by decide +kernel
theorem dX2_grow_1 : decode cX2_grow 1 = .ok (.aload_n 0, 1) := by decide +kernel
theorem dX2_grow_2 : decode cX2_grow 2 = .ok (.getfield 11, 3) := by decide +kernel
theorem dX2_grow_5 : decode cX2_grow 5 = .ok (.iload_n 1, 1) := by decide +kernel
theorem dX2_grow_6 : decode cX2_grow 6 = .ok (.invokestatic 74, 3) := by decide +kernel
theorem dX2_grow_9 : decode cX2_grow 9 = .ok (.putfield 11, 3) := by decide +kernel
theorem dX2_grow_12 : decode cX2_grow 12 = .ok (.aload_n 0, 1) := by decide +kernel
theorem dX2_grow_13 : decode cX2_grow 13 = .ok (.aload_n 0, 1) := by decide +kernel
theorem dX2_grow_14 : decode cX2_grow 14 = .ok (.getfield 15, 3) := by decide +kernel
theorem dX2_grow_17 : decode cX2_grow 17 = .ok (.iload_n 1, 1) := by decide +kernel
theorem dX2_grow_18 : decode cX2_grow 18 = .ok (.invokestatic 74, 3) := by decide +kernel
theorem dX2_grow_21 : decode cX2_grow 21 = .ok (.putfield 15, 3) := by decide +kernel
theorem dX2_grow_24 : decode cX2_grow 24 = .ok (.aload_n 0, 1) := by decide +kernel
theorem dX2_grow_25 : decode cX2_grow 25 = .ok (.aload_n 0, 1) := by decide +kernel
theorem dX2_grow_26 : decode cX2_grow 26 = .ok (.getfield 18, 3) := by decide +kernel
theorem dX2_grow_29 : decode cX2_grow 29 = .ok (.iload_n 1, 1) := by decide +kernel
theorem dX2_grow_30 : decode cX2_grow 30 = .ok (.invokestatic 74, 3) := by decide +kernel
theorem dX2_grow_33 : decode cX2_grow 33 = .ok (.putfield 18, 3) := by decide +kernel
theorem dX2_grow_36 : decode cX2_grow 36 = .ok (.aload_n 0, 1) := by decide +kernel
theorem dX2_grow_37 : decode cX2_grow 37 = .ok (.aload_n 0, 1) := by decide +kernel
theorem dX2_grow_38 : decode cX2_grow 38 = .ok (.getfield 21, 3) := by decide +kernel
theorem dX2_grow_41 : decode cX2_grow 41 = .ok (.iload_n 1, 1) := by decide +kernel
theorem dX2_grow_42 : decode cX2_grow 42 = .ok (.invokestatic 74, 3) := by decide +kernel
theorem dX2_grow_45 : decode cX2_grow 45 = .ok (.putfield 21, 3) := by decide +kernel
theorem dX2_grow_48 : decode cX2_grow 48 = .ok (.aload_n 0, 1) := by decide +kernel
theorem dX2_grow_49 : decode cX2_grow 49 = .ok (.aload_n 0, 1) := by decide +kernel
theorem dX2_grow_50 : decode cX2_grow 50 = .ok (.getfield 24, 3) := by decide +kernel
theorem dX2_grow_53 : decode cX2_grow 53 = .ok (.iload_n 1, 1) := by decide +kernel
theorem dX2_grow_54 : decode cX2_grow 54 = .ok (.invokestatic 74, 3) := by decide +kernel
theorem dX2_grow_57 : decode cX2_grow 57 = .ok (.putfield 24, 3) := by decide +kernel
theorem dX2_grow_60 : decode cX2_grow 60 = .ok (.aload_n 0, 1) := by decide +kernel
theorem dX2_grow_61 : decode cX2_grow 61 = .ok (.aload_n 0, 1) := by decide +kernel
theorem dX2_grow_62 : decode cX2_grow 62 = .ok (.getfield 27, 3) := by decide +kernel
theorem dX2_grow_65 : decode cX2_grow 65 = .ok (.iload_n 1, 1) := by decide +kernel
theorem dX2_grow_66 : decode cX2_grow 66 = .ok (.invokestatic 74, 3) := by decide +kernel
theorem dX2_grow_69 : decode cX2_grow 69 = .ok (.putfield 27, 3) := by decide +kernel
theorem dX2_grow_72 : decode cX2_grow 72 = .ok (.aload_n 0, 1) := by decide +kernel
theorem dX2_grow_73 : decode cX2_grow 73 = .ok (.aload_n 0, 1) := by decide +kernel
theorem dX2_grow_74 : decode cX2_grow 74 = .ok (.getfield 30, 3) := by decide +kernel
theorem dX2_grow_77 : decode cX2_grow 77 = .ok (.iload_n 1, 1) := by decide +kernel
theorem dX2_grow_78 : decode cX2_grow 78 = .ok (.invokestatic 74, 3) := by decide +kernel
theorem dX2_grow_81 : decode cX2_grow 81 = .ok (.putfield 30, 3) := by decide +kernel
theorem dX2_grow_84 : decode cX2_grow 84 = .ok (.return_, 1) := by decide +kernel
theorem dX3_init_0 : decode cX3_init 0 = .ok (.aload_n 0, 1) := by decide +kernel
theorem dX3_init_1 : decode cX3_init 1 = .ok (.invokespecial 3, 3) := by decide +kernel
theorem dX3_init_4 : decode cX3_init 4 = .ok (.aload_n 0, 1) := by decide +kernel
theorem dX3_init_5 : decode cX3_init 5 = .ok (.new 9, 3) := by decide +kernel
theorem dX3_init_8 : decode cX3_init 8 = .ok (.dup, 1) := by decide +kernel
theorem dX3_init_9 : decode cX3_init 9 = .ok (.invokespecial 11, 3) := by decide +kernel
theorem dX3_init_12 : decode cX3_init 12 = .ok (.putfield 12, 3) := by decide +kernel
theorem dX3_init_15 : decode cX3_init 15 = .ok (.aload_n 0, 1) := by decide +kernel
theorem dX3_init_16 : decode cX3_init 16 = .ok (.new 16, 3) := by decide +kernel
theorem dX3_init_19 : decode cX3_init 19 = .ok (.dup, 1) := by decide +kernel
theorem dX3_init_20 : decode cX3_init 20 = .ok (.invokespecial 18, 3) := by decide +kernel
theorem dX3_init_23 : decode cX3_init 23 = .ok (.putfield 19, 3) := by decide +kernel
theorem dX3_init_26 : decode cX3_init 26 = .ok (.aload_n 0, 1) := by decide +kernel
theorem dX3_init_27 : decode cX3_init 27 = .ok (.sipush 256, 3) := by decide +kernel
theorem dX3_init_30 : decode cX3_init 30 = .ok (.newarray .int, 2) := by decide +kernel
theorem dX3_init_32 : decode cX3_init 32 = .ok (.putfield 23, 3) := by decide +kernel
theorem dX3_init_35 : decode cX3_init 35 = .ok (.aload_n 0, 1) := by decide +kernel
theorem dX3_init_36 : decode cX3_init 36 = .ok (.sipush 256, 3) := by decide +kernel
theorem dX3_init_39 : decode cX3_init 39 = .ok (.newarray .int, 2) := by decide +kernel
theorem dX3_init_41 : decode cX3_init 41 = .ok (.putfield 27, 3) := by decide +kernel
theorem dX3_init_44 : decode cX3_init 44 = .ok (.aload_n 0, 1) := by decide +kernel
theorem dX3_init_45 : decode cX3_init 45 = .ok (.iconst 0, 1) := by decide +kernel
theorem dX3_init_46 : decode cX3_init 46 = .ok (.putfield 30, 3) := by decide +kernel
theorem dX3_init_49 : decode cX3_init 49 = .ok (.return_, 1) := by decide +kernel
theorem dX3_row_0 : decode cX3_row 0 = .ok (.iload_n 1, 1) := by decide +kernel
theorem dX3_row_1 : decode cX3_row 1 = .ok (.invokestatic 34, 3) := by decide +kernel
theorem dX3_row_4 : decode cX3_row 4 = .ok (.aload_n 0, 1) := by decide +kernel
theorem dX3_row_5 : decode cX3_row 5 = .ok (.getfield 12, 3) := by decide +kernel
theorem dX3_row_8 : decode cX3_row 8 = .ok (.iload_n 1, 1) := by decide +kernel
theorem dX3_row_9 : decode cX3_row 9 = .ok (.iload_n 2, 1) := by decide +kernel
theorem dX3_row_10 : decode cX3_row 10 = .ok (.iload_n 3, 1) := by decide +kernel
theorem dX3_row_11 : decode cX3_row 11 = .ok (.iload 4, 2) := by decide +kernel
theorem dX3_row_13 : decode cX3_row 13 = .ok (.invokevirtual 38, 3) := by decide +kernel
theorem dX3_row_16 : decode cX3_row 16 = .ok (.return_, 1) := by decide +kernel
theorem dX3_family_0 : decode cX3_family 0 = .ok (.iload_n 1, 1) := by decide +kernel
theorem dX3_family_1 : decode cX3_family 1 = .ok (.ifCond .lt 8, 3) := by decide +kernel
theorem dX3_family_4 : decode cX3_family 4 = .ok (.iload_n 1, 1) := by decide +kernel
theorem dX3_family_5 : decode cX3_family 5 = .ok (.iconst 2, 1) := by decide +kernel
theorem dX3_family_6 : decode cX3_family 6 = .ok (.if_icmp .le 13, 3) := by decide +kernel
theorem dX3_family_9 : decode cX3_family 9 = .ok (.new 42, 3) := by decide +kernel
theorem dX3_family_12 : decode cX3_family 12 = .ok (.dup, 1) := by decide +kernel
theorem dX3_family_13 : decode cX3_family 13 = .ok (.ldc 44, 2) := by decide +kernel
theorem dX3_family_15 : decode cX3_family 15 = .ok (.invokespecial 46, 3) := by decide +kernel
theorem dX3_family_18 : decode cX3_family 18 = .ok (.athrow, 1) := by decide +kernel
theorem dX3_family_19 : decode cX3_family 19 = .ok (.iload_n 2, 1) := by decide +kernel
theorem dX3_family_20 : decode cX3_family 20 = .ok (.invokestatic 34, 3) := by decide +kernel
theorem dX3_family_23 : decode cX3_family 23 = .ok (.iload_n 3, 1) := by decide +kernel
theorem dX3_family_24 : decode cX3_family 24 = .ok (.invokestatic 49, 3) := by decide +kernel
theorem dX3_family_27 : decode cX3_family 27 = .ok (.ifCond .eq 16, 3) := by decide +kernel
theorem dX3_family_30 : decode cX3_family 30 = .ok (.iload_n 1, 1) := by decide +kernel
theorem dX3_family_31 : decode cX3_family 31 = .ok (.iconst 1, 1) := by decide +kernel
theorem dX3_family_32 : decode cX3_family 32 = .ok (.if_icmp .ne 21, 3) := by decide +kernel
theorem dX3_family_35 : decode cX3_family 35 = .ok (.iload 4, 2) := by decide +kernel
theorem dX3_family_37 : decode cX3_family 37 = .ok (.invokestatic 49, 3) := by decide +kernel
theorem dX3_family_40 : decode cX3_family 40 = .ok (.ifCond .ne 13, 3) := by decide +kernel
theorem dX3_family_43 : decode cX3_family 43 = .ok (.new 42, 3) := by decide +kernel
theorem dX3_family_46 : decode cX3_family 46 = .ok (.dup, 1) := by decide +kernel
theorem dX3_family_47 : decode cX3_family 47 = .ok (.ldc 53, 2) := by decide +kernel
theorem dX3_family_49 : decode cX3_family 49 = .ok (.invokespecial 46, 3) := by decide +kernel
theorem dX3_family_52 : decode cX3_family 52 = .ok (.athrow, 1) := by decide +kernel
theorem dX3_family_53 : decode cX3_family 53 = .ok (.aload_n 0, 1) := by decide +kernel
theorem dX3_family_54 : decode cX3_family 54 = .ok (.getfield 12, 3) := by decide +kernel
theorem dX3_family_57 : decode cX3_family 57 = .ok (.iload_n 1, 1) := by decide +kernel
theorem dX3_family_58 : decode cX3_family 58 = .ok (.iload_n 2, 1) := by decide +kernel
theorem dX3_family_59 : decode cX3_family 59 = .ok (.iload_n 3, 1) := by decide +kernel
theorem dX3_family_60 : decode cX3_family 60 = .ok (.iload 4, 2) := by decide +kernel
theorem dX3_family_62 : decode cX3_family 62 = .ok (.invokevirtual 55, 3) := by decide +kernel
theorem dX3_family_65 : decode cX3_family 65 = .ok (.ifCond .ne 13, 3) := by decide +kernel
theorem dX3_family_68 : decode cX3_family 68 = .ok (.new 42, 3) := by decide +kernel
theorem dX3_family_71 : decode cX3_family 71 = .ok (.dup, 1) := by decide +kernel
theorem dX3_family_72 : decode cX3_family 72 = .ok (.ldc 59, 2) := by decide +kernel
theorem dX3_family_74 : decode cX3_family 74 = .ok (.invokespecial 46, 3) := by decide +kernel
theorem dX3_family_77 : decode cX3_family 77 = .ok (.athrow, 1) := by decide +kernel
theorem dX3_family_78 : decode cX3_family 78 = .ok (.return_, 1) := by decide +kernel
theorem dX3_build_0 : decode cX3_build 0 = .ok (.iload_n 1, 1) := by decide +kernel
theorem dX3_build_1 : decode cX3_build 1 = .ok (.invokestatic 34, 3) := by decide +kernel
theorem dX3_build_4 : decode cX3_build 4 = .ok (.aload_n 0, 1) := by decide +kernel
theorem dX3_build_5 : decode cX3_build 5 = .ok (.getfield 12, 3) := by decide +kernel
theorem dX3_build_8 : decode cX3_build 8 = .ok (.iload_n 1, 1) := by decide +kernel
theorem dX3_build_9 : decode cX3_build 9 = .ok (.invokevirtual 61, 3) := by decide +kernel
theorem dX3_build_12 : decode cX3_build 12 = .ok (.istore_n 2, 1) := by decide +kernel
theorem dX3_build_13 : decode cX3_build 13 = .ok (.aload_n 0, 1) := by decide +kernel
theorem dX3_build_14 : decode cX3_build 14 = .ok (.getfield 12, 3) := by decide +kernel
theorem dX3_build_17 : decode cX3_build 17 = .ok (.iload_n 2, 1) := by decide +kernel
theorem dX3_build_18 : decode cX3_build 18 = .ok (.invokevirtual 65, 3) := by decide +kernel
theorem dX3_build_21 : decode cX3_build 21 = .ok (.istore_n 3, 1) := by decide +kernel
theorem dX3_build_22 : decode cX3_build 22 = .ok (.iload_n 3, 1) := by decide +kernel
theorem dX3_build_23 : decode cX3_build 23 = .ok (.ifCond .eq 6, 3) := by decide +kernel
theorem dX3_build_26 : decode cX3_build 26 = .ok (.iload_n 3, 1) := by decide +kernel
theorem dX3_build_27 : decode cX3_build 27 = .ok (.ineg, 1) := by decide +kernel
theorem dX3_build_28 : decode cX3_build 28 = .ok (.ireturn, 1) := by decide +kernel
theorem dX3_build_29 : decode cX3_build 29 = .ok (.aload_n 0, 1) := by decide +kernel
theorem dX3_build_30 : decode cX3_build 30 = .ok (.getfield 19, 3) := by decide +kernel
theorem dX3_build_33 : decode cX3_build 33 = .ok (.aload_n 0, 1) := by decide +kernel
theorem dX3_build_34 : decode cX3_build 34 = .ok (.getfield 12, 3) := by decide +kernel
theorem dX3_build_37 : decode cX3_build 37 = .ok (.iload_n 1, 1) := by decide +kernel
theorem dX3_build_38 : decode cX3_build 38 = .ok (.iload_n 2, 1) := by decide +kernel
theorem dX3_build_39 : decode cX3_build 39 = .ok (.invokevirtual 68, 3) := by decide +kernel
theorem dX3_build_42 : decode cX3_build 42 = .ok (.aload_n 0, 1) := by decide +kernel
theorem dX3_build_43 : decode cX3_build 43 = .ok (.iconst 1, 1) := by decide +kernel
theorem dX3_build_44 : decode cX3_build 44 = .ok (.putfield 30, 3) := by decide +kernel
theorem dX3_build_47 : decode cX3_build 47 = .ok (.iload_n 2, 1) := by decide +kernel
theorem dX3_build_48 : decode cX3_build 48 = .ok (.invokestatic 72, 3) := by decide +kernel
theorem dX3_build_51 : decode cX3_build 51 = .ok (.ireturn, 1) := by decide +kernel
theorem dX3_give_0 : decode cX3_give 0 = .ok (.aload_n 0, 1) := by decide +kernel
theorem dX3_give_1 : decode cX3_give 1 = .ok (.invokevirtual 77, 3) := by decide +kernel
theorem dX3_give_4 : decode cX3_give 4 = .ok (.aload_n 0, 1) := by decide +kernel
theorem dX3_give_5 : decode cX3_give 5 = .ok (.getfield 19, 3) := by decide +kernel
theorem dX3_give_8 : decode cX3_give 8 = .ok (.invokevirtual 80, 3) := by decide +kernel
theorem dX3_give_11 : decode cX3_give 11 = .ok (.ifCond .eq 13, 3) := by decide +kernel
theorem dX3_give_14 : decode cX3_give 14 = .ok (.new 84, 3) := by decide +kernel
theorem dX3_give_17 : decode cX3_give 17 = .ok (.dup, 1) := by decide +kernel
theorem dX3_give_18 : decode cX3_give 18 = .ok (.ldc 86, 2) := by decide +kernel
theorem dX3_give_20 : decode cX3_give 20 = .ok (.invokespecial 88, 3) := by decide +kernel
theorem dX3_give_23 : decode cX3_give 23 = .ok (.athrow, 1) := by decide +kernel
theorem dX3_give_24 : decode cX3_give 24 = .ok (.iload_n 1, 1) := by decide +kernel
theorem dX3_give_25 : decode cX3_give 25 = .ok (.invokestatic 89, 3) := by decide +kernel
theorem dX3_give_28 : decode cX3_give 28 = .ok (.aload_n 0, 1) := by decide +kernel
theorem dX3_give_29 : decode cX3_give 29 = .ok (.aload_n 0, 1) := by decide +kernel
theorem dX3_give_30 : decode cX3_give 30 = .ok (.getfield 19, 3) := by decide +kernel
theorem dX3_give_33 : decode cX3_give 33 = .ok (.iload_n 1, 1) := by decide +kernel
theorem dX3_give_34 : decode cX3_give 34 = .ok (.invokevirtual 92, 3) := by decide +kernel
theorem dX3_give_37 : decode cX3_give 37 = .ok (.invokevirtual 95, 3) := by decide +kernel
theorem dX3_give_40 : decode cX3_give 40 = .ok (.ireturn, 1) := by decide +kernel
theorem dX3_free_0 : decode cX3_free 0 = .ok (.aload_n 0, 1) := by decide +kernel
theorem dX3_free_1 : decode cX3_free 1 = .ok (.getfield 19, 3) := by decide +kernel
theorem dX3_free_4 : decode cX3_free 4 = .ok (.aload_n 0, 1) := by decide +kernel
theorem dX3_free_5 : decode cX3_free 5 = .ok (.iload_n 1, 1) := by decide +kernel
theorem dX3_free_6 : decode cX3_free 6 = .ok (.invokevirtual 98, 3) := by decide +kernel
theorem dX3_free_9 : decode cX3_free 9 = .ok (.invokevirtual 101, 3) := by decide +kernel
theorem dX3_free_12 : decode cX3_free 12 = .ok (.return_, 1) := by decide +kernel
theorem dX3_change_0 : decode cX3_change 0 = .ok (.aload_n 0, 1) := by decide +kernel
theorem dX3_change_1 : decode cX3_change 1 = .ok (.iload_n 1, 1) := by decide +kernel
theorem dX3_change_2 : decode cX3_change 2 = .ok (.invokevirtual 98, 3) := by decide +kernel
theorem dX3_change_5 : decode cX3_change 5 = .ok (.istore_n 3, 1) := by decide +kernel
theorem dX3_change_6 : decode cX3_change 6 = .ok (.iload_n 2, 1) := by decide +kernel
theorem dX3_change_7 : decode cX3_change 7 = .ok (.invokestatic 89, 3) := by decide +kernel
theorem dX3_change_10 : decode cX3_change 10 = .ok (.aload_n 0, 1) := by decide +kernel
theorem dX3_change_11 : decode cX3_change 11 = .ok (.getfield 19, 3) := by decide +kernel
theorem dX3_change_14 : decode cX3_change 14 = .ok (.iload_n 3, 1) := by decide +kernel
theorem dX3_change_15 : decode cX3_change 15 = .ok (.invokevirtual 104, 3) := by decide +kernel
theorem dX3_change_18 : decode cX3_change 18 = .ok (.iload_n 2, 1) := by decide +kernel
theorem dX3_change_19 : decode cX3_change 19 = .ok (.if_icmp .lt 14, 3) := by decide +kernel
theorem dX3_change_22 : decode cX3_change 22 = .ok (.aload_n 0, 1) := by decide +kernel
theorem dX3_change_23 : decode cX3_change 23 = .ok (.getfield 19, 3) := by decide +kernel
theorem dX3_change_26 : decode cX3_change 26 = .ok (.iload_n 3, 1) := by decide +kernel
theorem dX3_change_27 : decode cX3_change 27 = .ok (.iload_n 2, 1) := by decide +kernel
theorem dX3_change_28 : decode cX3_change 28 = .ok (.invokevirtual 107, 3) := by decide +kernel
theorem dX3_change_31 : decode cX3_change 31 = .ok (.iload_n 1, 1) := by decide +kernel
theorem dX3_change_32 : decode cX3_change 32 = .ok (.ireturn, 1) := by decide +kernel
theorem dX3_change_33 : decode cX3_change 33 = .ok (.aload_n 0, 1) := by decide +kernel
theorem dX3_change_34 : decode cX3_change 34 = .ok (.getfield 19, 3) := by decide +kernel
theorem dX3_change_37 : decode cX3_change 37 = .ok (.invokevirtual 80, 3) := by decide +kernel
theorem dX3_change_40 : decode cX3_change 40 = .ok (.ifCond .eq 13, 3) := by decide +kernel
theorem dX3_change_43 : decode cX3_change 43 = .ok (.new 84, 3) := by decide +kernel
theorem dX3_change_46 : decode cX3_change 46 = .ok (.dup, 1) := by decide +kernel
theorem dX3_change_47 : decode cX3_change 47 = .ok (.ldc 86, 2) := by decide +kernel
theorem dX3_change_49 : decode cX3_change 49 = .ok (.invokespecial 88, 3) := by decide +kernel
theorem dX3_change_52 : decode cX3_change 52 = .ok (.athrow, 1) := by decide +kernel
theorem dX3_change_53 : decode cX3_change 53 = .ok (.aload_n 0, 1) := by decide +kernel
theorem dX3_change_54 : decode cX3_change 54 = .ok (.getfield 19, 3) := by decide +kernel
theorem dX3_change_57 : decode cX3_change 57 = .ok (.iload_n 2, 1) := by decide +kernel
theorem dX3_change_58 : decode cX3_change 58 = .ok (.invokevirtual 92, 3) := by decide +kernel
theorem dX3_change_61 : decode cX3_change 61 = .ok (.istore 4, 2) := by decide +kernel
theorem dX3_change_63 : decode cX3_change 63 = .ok (.iload 4, 2) := by decide +kernel
theorem dX3_change_65 : decode cX3_change 65 = .ok (.ifCond .eq 11, 3) := by decide +kernel
theorem dX3_change_68 : decode cX3_change 68 = .ok (.aload_n 0, 1) := by decide +kernel
theorem dX3_change_69 : decode cX3_change 69 = .ok (.getfield 19, 3) := by decide +kernel
theorem dX3_change_72 : decode cX3_change 72 = .ok (.iload_n 3, 1) := by decide +kernel
theorem dX3_change_73 : decode cX3_change 73 = .ok (.invokevirtual 101, 3) := by decide +kernel
theorem dX3_change_76 : decode cX3_change 76 = .ok (.aload_n 0, 1) := by decide +kernel
theorem dX3_change_77 : decode cX3_change 77 = .ok (.iload 4, 2) := by decide +kernel
theorem dX3_change_79 : decode cX3_change 79 = .ok (.invokevirtual 95, 3) := by decide +kernel
theorem dX3_change_82 : decode cX3_change 82 = .ok (.ireturn, 1) := by decide +kernel
theorem dX3_block_0 : decode cX3_block 0 = .ok (.aload_n 0, 1) := by decide +kernel
theorem dX3_block_1 : decode cX3_block 1 = .ok (.iload_n 1, 1) := by decide +kernel
theorem dX3_block_2 : decode cX3_block 2 = .ok (.invokevirtual 98, 3) := by decide +kernel
theorem dX3_block_5 : decode cX3_block 5 = .ok (.istore_n 3, 1) := by decide +kernel
theorem dX3_block_6 : decode cX3_block 6 = .ok (.iload_n 2, 1) := by decide +kernel
theorem dX3_block_7 : decode cX3_block 7 = .ok (.tableswitch 61 0 2 #[25, 37, 49], 25) := by decide +kernel
theorem dX3_block_32 : decode cX3_block 32 = .ok (.aload_n 0, 1) := by decide +kernel
theorem dX3_block_33 : decode cX3_block 33 = .ok (.getfield 19, 3) := by decide +kernel
theorem dX3_block_36 : decode cX3_block 36 = .ok (.getfield 111, 3) := by decide +kernel
theorem dX3_block_39 : decode cX3_block 39 = .ok (.iload_n 3, 1) := by decide +kernel
theorem dX3_block_40 : decode cX3_block 40 = .ok (.invokevirtual 115, 3) := by decide +kernel
theorem dX3_block_43 : decode cX3_block 43 = .ok (.ireturn, 1) := by decide +kernel
theorem dX3_block_44 : decode cX3_block 44 = .ok (.aload_n 0, 1) := by decide +kernel
theorem dX3_block_45 : decode cX3_block 45 = .ok (.getfield 19, 3) := by decide +kernel
theorem dX3_block_48 : decode cX3_block 48 = .ok (.getfield 111, 3) := by decide +kernel
theorem dX3_block_51 : decode cX3_block 51 = .ok (.iload_n 3, 1) := by decide +kernel
theorem dX3_block_52 : decode cX3_block 52 = .ok (.invokevirtual 120, 3) := by decide +kernel
theorem dX3_block_55 : decode cX3_block 55 = .ok (.ireturn, 1) := by decide +kernel
theorem dX3_block_56 : decode cX3_block 56 = .ok (.aload_n 0, 1) := by decide +kernel
theorem dX3_block_57 : decode cX3_block 57 = .ok (.getfield 19, 3) := by decide +kernel
theorem dX3_block_60 : decode cX3_block 60 = .ok (.getfield 111, 3) := by decide +kernel
theorem dX3_block_63 : decode cX3_block 63 = .ok (.iload_n 3, 1) := by decide +kernel
theorem dX3_block_64 : decode cX3_block 64 = .ok (.invokevirtual 123, 3) := by decide +kernel
theorem dX3_block_67 : decode cX3_block 67 = .ok (.ireturn, 1) := by decide +kernel
theorem dX3_block_68 : decode cX3_block 68 = .ok (.new 42, 3) := by decide +kernel
theorem dX3_block_71 : decode cX3_block 71 = .ok (.dup, 1) := by decide +kernel
theorem dX3_block_72 : decode cX3_block 72 = .ok (.ldc 126, 2) := by decide +kernel
theorem dX3_block_74 : decode cX3_block 74 = .ok (.invokespecial 46, 3) := by decide +kernel
theorem dX3_block_77 : decode cX3_block 77 = .ok (.athrow, 1) := by decide +kernel
theorem dX3_path_0 : decode cX3_path 0 = .ok (.aload_n 0, 1) := by decide +kernel
theorem dX3_path_1 : decode cX3_path 1 = .ok (.iload_n 1, 1) := by decide +kernel
theorem dX3_path_2 : decode cX3_path 2 = .ok (.invokevirtual 98, 3) := by decide +kernel
theorem dX3_path_5 : decode cX3_path 5 = .ok (.istore_n 3, 1) := by decide +kernel
theorem dX3_path_6 : decode cX3_path 6 = .ok (.iload_n 2, 1) := by decide +kernel
theorem dX3_path_7 : decode cX3_path 7 = .ok (.ifCond .ge 13, 3) := by decide +kernel
theorem dX3_path_10 : decode cX3_path 10 = .ok (.new 42, 3) := by decide +kernel
theorem dX3_path_13 : decode cX3_path 13 = .ok (.dup, 1) := by decide +kernel
theorem dX3_path_14 : decode cX3_path 14 = .ok (.ldc 128, 2) := by decide +kernel
theorem dX3_path_16 : decode cX3_path 16 = .ok (.invokespecial 46, 3) := by decide +kernel
theorem dX3_path_19 : decode cX3_path 19 = .ok (.athrow, 1) := by decide +kernel
theorem dX3_path_20 : decode cX3_path 20 = .ok (.aload_n 0, 1) := by decide +kernel
theorem dX3_path_21 : decode cX3_path 21 = .ok (.getfield 19, 3) := by decide +kernel
theorem dX3_path_24 : decode cX3_path 24 = .ok (.getfield 111, 3) := by decide +kernel
theorem dX3_path_27 : decode cX3_path 27 = .ok (.iload_n 3, 1) := by decide +kernel
theorem dX3_path_28 : decode cX3_path 28 = .ok (.iload_n 2, 1) := by decide +kernel
theorem dX3_path_29 : decode cX3_path 29 = .ok (.invokevirtual 130, 3) := by decide +kernel
theorem dX3_path_32 : decode cX3_path 32 = .ok (.ireturn, 1) := by decide +kernel
theorem dX3_keep_0 : decode cX3_keep 0 = .ok (.aload_n 0, 1) := by decide +kernel
theorem dX3_keep_1 : decode cX3_keep 1 = .ok (.invokevirtual 77, 3) := by decide +kernel
theorem dX3_keep_4 : decode cX3_keep 4 = .ok (.aload_n 0, 1) := by decide +kernel
theorem dX3_keep_5 : decode cX3_keep 5 = .ok (.iload_n 1, 1) := by decide +kernel
theorem dX3_keep_6 : decode cX3_keep 6 = .ok (.invokevirtual 134, 3) := by decide +kernel
theorem dX3_keep_9 : decode cX3_keep 9 = .ok (.iload_n 2, 1) := by decide +kernel
theorem dX3_keep_10 : decode cX3_keep 10 = .ok (.ifCond .lt 10, 3) := by decide +kernel
theorem dX3_keep_13 : decode cX3_keep 13 = .ok (.iload_n 2, 1) := by decide +kernel
theorem dX3_keep_14 : decode cX3_keep 14 = .ok (.sipush 255, 3) := by decide +kernel
theorem dX3_keep_17 : decode cX3_keep 17 = .ok (.if_icmp .le 13, 3) := by decide +kernel
theorem dX3_keep_20 : decode cX3_keep 20 = .ok (.new 42, 3) := by decide +kernel
theorem dX3_keep_23 : decode cX3_keep 23 = .ok (.dup, 1) := by decide +kernel
theorem dX3_keep_24 : decode cX3_keep 24 = .ok (.ldc 137, 2) := by decide +kernel
theorem dX3_keep_26 : decode cX3_keep 26 = .ok (.invokespecial 46, 3) := by decide +kernel
theorem dX3_keep_29 : decode cX3_keep 29 = .ok (.athrow, 1) := by decide +kernel
theorem dX3_keep_30 : decode cX3_keep 30 = .ok (.aload_n 0, 1) := by decide +kernel
theorem dX3_keep_31 : decode cX3_keep 31 = .ok (.getfield 19, 3) := by decide +kernel
theorem dX3_keep_34 : decode cX3_keep 34 = .ok (.getfield 139, 3) := by decide +kernel
theorem dX3_keep_37 : decode cX3_keep 37 = .ok (.iload_n 1, 1) := by decide +kernel
theorem dX3_keep_38 : decode cX3_keep 38 = .ok (.iload_n 2, 1) := by decide +kernel
theorem dX3_keep_39 : decode cX3_keep 39 = .ok (.iastore, 1) := by decide +kernel
theorem dX3_keep_40 : decode cX3_keep 40 = .ok (.return_, 1) := by decide +kernel
theorem dX3_join_0 : decode cX3_join 0 = .ok (.aload_n 0, 1) := by decide +kernel
theorem dX3_join_1 : decode cX3_join 1 = .ok (.invokevirtual 77, 3) := by decide +kernel
theorem dX3_join_4 : decode cX3_join 4 = .ok (.aload_n 0, 1) := by decide +kernel
theorem dX3_join_5 : decode cX3_join 5 = .ok (.getfield 19, 3) := by decide +kernel
theorem dX3_join_8 : decode cX3_join 8 = .ok (.invokevirtual 142, 3) := by decide +kernel
theorem dX3_join_11 : decode cX3_join 11 = .ok (.ireturn, 1) := by decide +kernel
theorem dX3_nodes_0 : decode cX3_nodes 0 = .ok (.aload_n 0, 1) := by decide +kernel
theorem dX3_nodes_1 : decode cX3_nodes 1 = .ok (.invokevirtual 77, 3) := by decide +kernel
theorem dX3_nodes_4 : decode cX3_nodes 4 = .ok (.aload_n 0, 1) := by decide +kernel
theorem dX3_nodes_5 : decode cX3_nodes 5 = .ok (.iload_n 1, 1) := by decide +kernel
theorem dX3_nodes_6 : decode cX3_nodes 6 = .ok (.invokevirtual 134, 3) := by decide +kernel
theorem dX3_nodes_9 : decode cX3_nodes 9 = .ok (.iload_n 2, 1) := by decide +kernel
theorem dX3_nodes_10 : decode cX3_nodes 10 = .ok (.tableswitch 74 0 2 #[26, 36, 55], 26) := by decide +kernel
theorem dX3_nodes_36 : decode cX3_nodes 36 = .ok (.aload_n 0, 1) := by decide +kernel
theorem dX3_nodes_37 : decode cX3_nodes 37 = .ok (.getfield 19, 3) := by decide +kernel
theorem dX3_nodes_40 : decode cX3_nodes 40 = .ok (.getfield 146, 3) := by decide +kernel
theorem dX3_nodes_43 : decode cX3_nodes 43 = .ok (.iload_n 1, 1) := by decide +kernel
theorem dX3_nodes_44 : decode cX3_nodes 44 = .ok (.iaload, 1) := by decide +kernel
theorem dX3_nodes_45 : decode cX3_nodes 45 = .ok (.ireturn, 1) := by decide +kernel
theorem dX3_nodes_46 : decode cX3_nodes 46 = .ok (.aload_n 0, 1) := by decide +kernel
theorem dX3_nodes_47 : decode cX3_nodes 47 = .ok (.aload_n 0, 1) := by decide +kernel
theorem dX3_nodes_48 : decode cX3_nodes 48 = .ok (.getfield 19, 3) := by decide +kernel
theorem dX3_nodes_51 : decode cX3_nodes 51 = .ok (.getfield 111, 3) := by decide +kernel
theorem dX3_nodes_54 : decode cX3_nodes 54 = .ok (.iconst 1, 1) := by decide +kernel
theorem dX3_nodes_55 : decode cX3_nodes 55 = .ok (.iload_n 1, 1) := by decide +kernel
theorem dX3_nodes_56 : decode cX3_nodes 56 = .ok (.ishl, 1) := by decide +kernel
theorem dX3_nodes_57 : decode cX3_nodes 57 = .ok (.iconst 0, 1) := by decide +kernel
theorem dX3_nodes_58 : decode cX3_nodes 58 = .ok (.invokevirtual 149, 3) := by decide +kernel
theorem dX3_nodes_61 : decode cX3_nodes 61 = .ok (.invokevirtual 95, 3) := by decide +kernel
theorem dX3_nodes_64 : decode cX3_nodes 64 = .ok (.ireturn, 1) := by decide +kernel
theorem dX3_nodes_65 : decode cX3_nodes 65 = .ok (.aload_n 0, 1) := by decide +kernel
theorem dX3_nodes_66 : decode cX3_nodes 66 = .ok (.aload_n 0, 1) := by decide +kernel
theorem dX3_nodes_67 : decode cX3_nodes 67 = .ok (.getfield 19, 3) := by decide +kernel
theorem dX3_nodes_70 : decode cX3_nodes 70 = .ok (.getfield 111, 3) := by decide +kernel
theorem dX3_nodes_73 : decode cX3_nodes 73 = .ok (.iconst 1, 1) := by decide +kernel
theorem dX3_nodes_74 : decode cX3_nodes 74 = .ok (.iload_n 1, 1) := by decide +kernel
theorem dX3_nodes_75 : decode cX3_nodes 75 = .ok (.ishl, 1) := by decide +kernel
theorem dX3_nodes_76 : decode cX3_nodes 76 = .ok (.iconst 1, 1) := by decide +kernel
theorem dX3_nodes_77 : decode cX3_nodes 77 = .ok (.invokevirtual 149, 3) := by decide +kernel
theorem dX3_nodes_80 : decode cX3_nodes 80 = .ok (.invokevirtual 95, 3) := by decide +kernel
theorem dX3_nodes_83 : decode cX3_nodes 83 = .ok (.ireturn, 1) := by decide +kernel
theorem dX3_nodes_84 : decode cX3_nodes 84 = .ok (.new 42, 3) := by decide +kernel
theorem dX3_nodes_87 : decode cX3_nodes 87 = .ok (.dup, 1) := by decide +kernel
theorem dX3_nodes_88 : decode cX3_nodes 88 = .ok (.ldc 152, 2) := by decide +kernel
theorem dX3_nodes_90 : decode cX3_nodes 90 = .ok (.invokespecial 46, 3) := by decide +kernel
theorem dX3_nodes_93 : decode cX3_nodes 93 = .ok (.athrow, 1) := by decide +kernel
theorem dX3_leaf_0 : decode cX3_leaf 0 = .ok (.aload_n 0, 1) := by decide +kernel
theorem dX3_leaf_1 : decode cX3_leaf 1 = .ok (.invokevirtual 77, 3) := by decide +kernel
theorem dX3_leaf_4 : decode cX3_leaf 4 = .ok (.aload_n 0, 1) := by decide +kernel
theorem dX3_leaf_5 : decode cX3_leaf 5 = .ok (.getfield 19, 3) := by decide +kernel
theorem dX3_leaf_8 : decode cX3_leaf 8 = .ok (.getfield 111, 3) := by decide +kernel
theorem dX3_leaf_11 : decode cX3_leaf 11 = .ok (.iload_n 1, 1) := by decide +kernel
theorem dX3_leaf_12 : decode cX3_leaf 12 = .ok (.invokevirtual 154, 3) := by decide +kernel
theorem dX3_leaf_15 : decode cX3_leaf 15 = .ok (.istore_n 3, 1) := by decide +kernel
theorem dX3_leaf_16 : decode cX3_leaf 16 = .ok (.iload_n 3, 1) := by decide +kernel
theorem dX3_leaf_17 : decode cX3_leaf 17 = .ok (.ifCond .ne 5, 3) := by decide +kernel
theorem dX3_leaf_20 : decode cX3_leaf 20 = .ok (.iconst (-1), 1) := by decide +kernel
theorem dX3_leaf_21 : decode cX3_leaf 21 = .ok (.ireturn, 1) := by decide +kernel
theorem dX3_leaf_22 : decode cX3_leaf 22 = .ok (.iload_n 2, 1) := by decide +kernel
theorem dX3_leaf_23 : decode cX3_leaf 23 = .ok (.tableswitch 61 0 2 #[25, 37, 49], 25) := by decide +kernel
theorem dX3_leaf_48 : decode cX3_leaf 48 = .ok (.aload_n 0, 1) := by decide +kernel
theorem dX3_leaf_49 : decode cX3_leaf 49 = .ok (.getfield 19, 3) := by decide +kernel
theorem dX3_leaf_52 : decode cX3_leaf 52 = .ok (.getfield 111, 3) := by decide +kernel
theorem dX3_leaf_55 : decode cX3_leaf 55 = .ok (.iload_n 3, 1) := by decide +kernel
theorem dX3_leaf_56 : decode cX3_leaf 56 = .ok (.invokevirtual 157, 3) := by decide +kernel
theorem dX3_leaf_59 : decode cX3_leaf 59 = .ok (.ireturn, 1) := by decide +kernel
theorem dX3_leaf_60 : decode cX3_leaf 60 = .ok (.aload_n 0, 1) := by decide +kernel
theorem dX3_leaf_61 : decode cX3_leaf 61 = .ok (.getfield 19, 3) := by decide +kernel
theorem dX3_leaf_64 : decode cX3_leaf 64 = .ok (.getfield 111, 3) := by decide +kernel
theorem dX3_leaf_67 : decode cX3_leaf 67 = .ok (.iload_n 3, 1) := by decide +kernel
theorem dX3_leaf_68 : decode cX3_leaf 68 = .ok (.invokevirtual 115, 3) := by decide +kernel
theorem dX3_leaf_71 : decode cX3_leaf 71 = .ok (.ireturn, 1) := by decide +kernel
theorem dX3_leaf_72 : decode cX3_leaf 72 = .ok (.aload_n 0, 1) := by decide +kernel
theorem dX3_leaf_73 : decode cX3_leaf 73 = .ok (.getfield 19, 3) := by decide +kernel
theorem dX3_leaf_76 : decode cX3_leaf 76 = .ok (.getfield 111, 3) := by decide +kernel
theorem dX3_leaf_79 : decode cX3_leaf 79 = .ok (.iload_n 3, 1) := by decide +kernel
theorem dX3_leaf_80 : decode cX3_leaf 80 = .ok (.invokevirtual 120, 3) := by decide +kernel
theorem dX3_leaf_83 : decode cX3_leaf 83 = .ok (.ireturn, 1) := by decide +kernel
theorem dX3_leaf_84 : decode cX3_leaf 84 = .ok (.iconst (-1), 1) := by decide +kernel
theorem dX3_leaf_85 : decode cX3_leaf 85 = .ok (.ireturn, 1) := by decide +kernel
theorem dX3_count_0 : decode cX3_count 0 = .ok (.aload_n 0, 1) := by decide +kernel
theorem dX3_count_1 : decode cX3_count 1 = .ok (.invokevirtual 77, 3) := by decide +kernel
theorem dX3_count_4 : decode cX3_count 4 = .ok (.iload_n 1, 1) := by decide +kernel
theorem dX3_count_5 : decode cX3_count 5 = .ok (.tableswitch 164 0 9 #[55, 64, 72, 88, 105, 113, 132, 140, 148, 156], 55) := by decide +kernel
theorem dX3_count_60 : decode cX3_count 60 = .ok (.aload_n 0, 1) := by decide +kernel
theorem dX3_count_61 : decode cX3_count 61 = .ok (.getfield 19, 3) := by decide +kernel
theorem dX3_count_64 : decode cX3_count 64 = .ok (.iconst 1, 1) := by decide +kernel
theorem dX3_count_65 : decode cX3_count 65 = .ok (.invokevirtual 104, 3) := by decide +kernel
theorem dX3_count_68 : decode cX3_count 68 = .ok (.ireturn, 1) := by decide +kernel
theorem dX3_count_69 : decode cX3_count 69 = .ok (.aload_n 0, 1) := by decide +kernel
theorem dX3_count_70 : decode cX3_count 70 = .ok (.getfield 19, 3) := by decide +kernel
theorem dX3_count_73 : decode cX3_count 73 = .ok (.getfield 160, 3) := by decide +kernel
theorem dX3_count_76 : decode cX3_count 76 = .ok (.ireturn, 1) := by decide +kernel
theorem dX3_count_77 : decode cX3_count 77 = .ok (.aload_n 0, 1) := by decide +kernel
theorem dX3_count_78 : decode cX3_count 78 = .ok (.getfield 19, 3) := by decide +kernel
theorem dX3_count_81 : decode cX3_count 81 = .ok (.getfield 164, 3) := by decide +kernel
theorem dX3_count_84 : decode cX3_count 84 = .ok (.aload_n 0, 1) := by decide +kernel
theorem dX3_count_85 : decode cX3_count 85 = .ok (.getfield 19, 3) := by decide +kernel
theorem dX3_count_88 : decode cX3_count 88 = .ok (.getfield 160, 3) := by decide +kernel
theorem dX3_count_91 : decode cX3_count 91 = .ok (.isub, 1) := by decide +kernel
theorem dX3_count_92 : decode cX3_count 92 = .ok (.ireturn, 1) := by decide +kernel
theorem dX3_count_93 : decode cX3_count 93 = .ok (.aload_n 0, 1) := by decide +kernel
theorem dX3_count_94 : decode cX3_count 94 = .ok (.getfield 19, 3) := by decide +kernel
theorem dX3_count_97 : decode cX3_count 97 = .ok (.iconst 1, 1) := by decide +kernel
theorem dX3_count_98 : decode cX3_count 98 = .ok (.invokevirtual 104, 3) := by decide +kernel
theorem dX3_count_101 : decode cX3_count 101 = .ok (.aload_n 0, 1) := by decide +kernel
theorem dX3_count_102 : decode cX3_count 102 = .ok (.getfield 19, 3) := by decide +kernel
theorem dX3_count_105 : decode cX3_count 105 = .ok (.getfield 164, 3) := by decide +kernel
theorem dX3_count_108 : decode cX3_count 108 = .ok (.isub, 1) := by decide +kernel
theorem dX3_count_109 : decode cX3_count 109 = .ok (.ireturn, 1) := by decide +kernel
theorem dX3_count_110 : decode cX3_count 110 = .ok (.aload_n 0, 1) := by decide +kernel
theorem dX3_count_111 : decode cX3_count 111 = .ok (.getfield 19, 3) := by decide +kernel
theorem dX3_count_114 : decode cX3_count 114 = .ok (.getfield 167, 3) := by decide +kernel
theorem dX3_count_117 : decode cX3_count 117 = .ok (.ireturn, 1) := by decide +kernel
theorem dX3_count_118 : decode cX3_count 118 = .ok (.aload_n 0, 1) := by decide +kernel
theorem dX3_count_119 : decode cX3_count 119 = .ok (.getfield 19, 3) := by decide +kernel
theorem dX3_count_122 : decode cX3_count 122 = .ok (.getfield 111, 3) := by decide +kernel
theorem dX3_count_125 : decode cX3_count 125 = .ok (.invokevirtual 170, 3) := by decide +kernel
theorem dX3_count_128 : decode cX3_count 128 = .ok (.aload_n 0, 1) := by decide +kernel
theorem dX3_count_129 : decode cX3_count 129 = .ok (.getfield 19, 3) := by decide +kernel
theorem dX3_count_132 : decode cX3_count 132 = .ok (.getfield 167, 3) := by decide +kernel
theorem dX3_count_135 : decode cX3_count 135 = .ok (.isub, 1) := by decide +kernel
theorem dX3_count_136 : decode cX3_count 136 = .ok (.ireturn, 1) := by decide +kernel
theorem dX3_count_137 : decode cX3_count 137 = .ok (.aload_n 0, 1) := by decide +kernel
theorem dX3_count_138 : decode cX3_count 138 = .ok (.getfield 19, 3) := by decide +kernel
theorem dX3_count_141 : decode cX3_count 141 = .ok (.invokevirtual 173, 3) := by decide +kernel
theorem dX3_count_144 : decode cX3_count 144 = .ok (.ireturn, 1) := by decide +kernel
theorem dX3_count_145 : decode cX3_count 145 = .ok (.aload_n 0, 1) := by decide +kernel
theorem dX3_count_146 : decode cX3_count 146 = .ok (.getfield 19, 3) := by decide +kernel
theorem dX3_count_149 : decode cX3_count 149 = .ok (.getfield 176, 3) := by decide +kernel
theorem dX3_count_152 : decode cX3_count 152 = .ok (.ireturn, 1) := by decide +kernel
theorem dX3_count_153 : decode cX3_count 153 = .ok (.aload_n 0, 1) := by decide +kernel
theorem dX3_count_154 : decode cX3_count 154 = .ok (.getfield 19, 3) := by decide +kernel
theorem dX3_count_157 : decode cX3_count 157 = .ok (.getfield 179, 3) := by decide +kernel
theorem dX3_count_160 : decode cX3_count 160 = .ok (.ireturn, 1) := by decide +kernel
theorem dX3_count_161 : decode cX3_count 161 = .ok (.aload_n 0, 1) := by decide +kernel
theorem dX3_count_162 : decode cX3_count 162 = .ok (.getfield 19, 3) := by decide +kernel
theorem dX3_count_165 : decode cX3_count 165 = .ok (.invokevirtual 182, 3) := by decide +kernel
theorem dX3_count_168 : decode cX3_count 168 = .ok (.ireturn, 1) := by decide +kernel
theorem dX3_count_169 : decode cX3_count 169 = .ok (.iconst (-1), 1) := by decide +kernel
theorem dX3_count_170 : decode cX3_count 170 = .ok (.ireturn, 1) := by decide +kernel
theorem dX3_room_0 : decode cX3_room 0 = .ok (.aload_n 0, 1) := by decide +kernel
theorem dX3_room_1 : decode cX3_room 1 = .ok (.invokevirtual 77, 3) := by decide +kernel
theorem dX3_room_4 : decode cX3_room 4 = .ok (.iload_n 1, 1) := by decide +kernel
theorem dX3_room_5 : decode cX3_room 5 = .ok (.invokestatic 89, 3) := by decide +kernel
theorem dX3_room_8 : decode cX3_room 8 = .ok (.aload_n 0, 1) := by decide +kernel
theorem dX3_room_9 : decode cX3_room 9 = .ok (.getfield 19, 3) := by decide +kernel
theorem dX3_room_12 : decode cX3_room 12 = .ok (.iload_n 1, 1) := by decide +kernel
theorem dX3_room_13 : decode cX3_room 13 = .ok (.invokevirtual 185, 3) := by decide +kernel
theorem dX3_room_16 : decode cX3_room 16 = .ok (.ireturn, 1) := by decide +kernel
theorem dX3_load_0 : decode cX3_load 0 = .ok (.iload_n 1, 1) := by decide +kernel
theorem dX3_load_1 : decode cX3_load 1 = .ok (.ifCond .lt 10, 3) := by decide +kernel
theorem dX3_load_4 : decode cX3_load 4 = .ok (.iload_n 1, 1) := by decide +kernel
theorem dX3_load_5 : decode cX3_load 5 = .ok (.sipush 256, 3) := by decide +kernel
theorem dX3_load_8 : decode cX3_load 8 = .ok (.if_icmp .lt 13, 3) := by decide +kernel
theorem dX3_load_11 : decode cX3_load 11 = .ok (.new 42, 3) := by decide +kernel
theorem dX3_load_14 : decode cX3_load 14 = .ok (.dup, 1) := by decide +kernel
theorem dX3_load_15 : decode cX3_load 15 = .ok (.ldc 188, 2) := by decide +kernel
theorem dX3_load_17 : decode cX3_load 17 = .ok (.invokespecial 46, 3) := by decide +kernel
theorem dX3_load_20 : decode cX3_load 20 = .ok (.athrow, 1) := by decide +kernel
theorem dX3_load_21 : decode cX3_load 21 = .ok (.aload_n 0, 1) := by decide +kernel
theorem dX3_load_22 : decode cX3_load 22 = .ok (.getfield 23, 3) := by decide +kernel
theorem dX3_load_25 : decode cX3_load 25 = .ok (.iload_n 1, 1) := by decide +kernel
theorem dX3_load_26 : decode cX3_load 26 = .ok (.iload_n 2, 1) := by decide +kernel
theorem dX3_load_27 : decode cX3_load 27 = .ok (.iastore, 1) := by decide +kernel
theorem dX3_load_28 : decode cX3_load 28 = .ok (.return_, 1) := by decide +kernel
theorem dX3_replay_0 : decode cX3_replay 0 = .ok (.aload_n 0, 1) := by decide +kernel
theorem dX3_replay_1 : decode cX3_replay 1 = .ok (.invokevirtual 77, 3) := by decide +kernel
theorem dX3_replay_4 : decode cX3_replay 4 = .ok (.iload_n 1, 1) := by decide +kernel
theorem dX3_replay_5 : decode cX3_replay 5 = .ok (.ifCond .lt 10, 3) := by decide +kernel
theorem dX3_replay_8 : decode cX3_replay 8 = .ok (.iload_n 1, 1) := by decide +kernel
theorem dX3_replay_9 : decode cX3_replay 9 = .ok (.sipush 256, 3) := by decide +kernel
theorem dX3_replay_12 : decode cX3_replay 12 = .ok (.if_icmp .le 13, 3) := by decide +kernel
theorem dX3_replay_15 : decode cX3_replay 15 = .ok (.new 42, 3) := by decide +kernel
theorem dX3_replay_18 : decode cX3_replay 18 = .ok (.dup, 1) := by decide +kernel
theorem dX3_replay_19 : decode cX3_replay 19 = .ok (.ldc 190, 2) := by decide +kernel
theorem dX3_replay_21 : decode cX3_replay 21 = .ok (.invokespecial 46, 3) := by decide +kernel
theorem dX3_replay_24 : decode cX3_replay 24 = .ok (.athrow, 1) := by decide +kernel
theorem dX3_replay_25 : decode cX3_replay 25 = .ok (.aload_n 0, 1) := by decide +kernel
theorem dX3_replay_26 : decode cX3_replay 26 = .ok (.getfield 27, 3) := by decide +kernel
theorem dX3_replay_29 : decode cX3_replay 29 = .ok (.iconst 0, 1) := by decide +kernel
theorem dX3_replay_30 : decode cX3_replay 30 = .ok (.invokestatic 192, 3) := by decide +kernel
theorem dX3_replay_33 : decode cX3_replay 33 = .ok (.iconst 0, 1) := by decide +kernel
theorem dX3_replay_34 : decode cX3_replay 34 = .ok (.istore_n 2, 1) := by decide +kernel
theorem dX3_replay_35 : decode cX3_replay 35 = .ok (.iload_n 2, 1) := by decide +kernel
theorem dX3_replay_36 : decode cX3_replay 36 = .ok (.iload_n 1, 1) := by decide +kernel
theorem dX3_replay_37 : decode cX3_replay 37 = .ok (.if_icmp .ge 21, 3) := by decide +kernel
theorem dX3_replay_40 : decode cX3_replay 40 = .ok (.aload_n 0, 1) := by decide +kernel
theorem dX3_replay_41 : decode cX3_replay 41 = .ok (.iload_n 2, 1) := by decide +kernel
theorem dX3_replay_42 : decode cX3_replay 42 = .ok (.invokevirtual 198, 3) := by decide +kernel
theorem dX3_replay_45 : decode cX3_replay 45 = .ok (.ifCond .ne 7, 3) := by decide +kernel
theorem dX3_replay_48 : decode cX3_replay 48 = .ok (.iconst 1, 1) := by decide +kernel
theorem dX3_replay_49 : decode cX3_replay 49 = .ok (.iload_n 2, 1) := by decide +kernel
theorem dX3_replay_50 : decode cX3_replay 50 = .ok (.iadd, 1) := by decide +kernel
theorem dX3_replay_51 : decode cX3_replay 51 = .ok (.ireturn, 1) := by decide +kernel
theorem dX3_replay_52 : decode cX3_replay 52 = .ok (.iinc 2 1, 3) := by decide +kernel
theorem dX3_replay_55 : decode cX3_replay 55 = .ok (.goto (-20), 3) := by decide +kernel
theorem dX3_replay_58 : decode cX3_replay 58 = .ok (.iconst 0, 1) := by decide +kernel
theorem dX3_replay_59 : decode cX3_replay 59 = .ok (.ireturn, 1) := by decide +kernel
theorem dX3_perform_0 : decode cX3_perform 0 = .ok (.aload_n 0, 1) := by decide +kernel
theorem dX3_perform_1 : decode cX3_perform 1 = .ok (.getfield 23, 3) := by decide +kernel
theorem dX3_perform_4 : decode cX3_perform 4 = .ok (.iload_n 1, 1) := by decide +kernel
theorem dX3_perform_5 : decode cX3_perform 5 = .ok (.iaload, 1) := by decide +kernel
theorem dX3_perform_6 : decode cX3_perform 6 = .ok (.istore_n 2, 1) := by decide +kernel
theorem dX3_perform_7 : decode cX3_perform 7 = .ok (.iload_n 2, 1) := by decide +kernel
theorem dX3_perform_8 : decode cX3_perform 8 = .ok (.ifCond .le 46, 3) := by decide +kernel
theorem dX3_perform_11 : decode cX3_perform 11 = .ok (.aload_n 0, 1) := by decide +kernel
theorem dX3_perform_12 : decode cX3_perform 12 = .ok (.getfield 27, 3) := by decide +kernel
theorem dX3_perform_15 : decode cX3_perform 15 = .ok (.iload_n 1, 1) := by decide +kernel
theorem dX3_perform_16 : decode cX3_perform 16 = .ok (.aload_n 0, 1) := by decide +kernel
theorem dX3_perform_17 : decode cX3_perform 17 = .ok (.getfield 19, 3) := by decide +kernel
theorem dX3_perform_20 : decode cX3_perform 20 = .ok (.invokevirtual 80, 3) := by decide +kernel
theorem dX3_perform_23 : decode cX3_perform 23 = .ok (.ifCond .eq 7, 3) := by decide +kernel
theorem dX3_perform_26 : decode cX3_perform 26 = .ok (.iconst 0, 1) := by decide +kernel
theorem dX3_perform_27 : decode cX3_perform 27 = .ok (.goto 11, 3) := by decide +kernel
theorem dX3_perform_30 : decode cX3_perform 30 = .ok (.aload_n 0, 1) := by decide +kernel
theorem dX3_perform_31 : decode cX3_perform 31 = .ok (.getfield 19, 3) := by decide +kernel
theorem dX3_perform_34 : decode cX3_perform 34 = .ok (.iload_n 2, 1) := by decide +kernel
theorem dX3_perform_35 : decode cX3_perform 35 = .ok (.invokevirtual 92, 3) := by decide +kernel
theorem dX3_perform_38 : decode cX3_perform 38 = .ok (.iastore, 1) := by decide +kernel
theorem dX3_perform_39 : decode cX3_perform 39 = .ok (.aload_n 0, 1) := by decide +kernel
theorem dX3_perform_40 : decode cX3_perform 40 = .ok (.getfield 27, 3) := by decide +kernel
theorem dX3_perform_43 : decode cX3_perform 43 = .ok (.iload_n 1, 1) := by decide +kernel
theorem dX3_perform_44 : decode cX3_perform 44 = .ok (.iaload, 1) := by decide +kernel
theorem dX3_perform_45 : decode cX3_perform 45 = .ok (.ifCond .eq 7, 3) := by decide +kernel
theorem dX3_perform_48 : decode cX3_perform 48 = .ok (.iconst 1, 1) := by decide +kernel
theorem dX3_perform_49 : decode cX3_perform 49 = .ok (.goto 4, 3) := by decide +kernel
theorem dX3_perform_52 : decode cX3_perform 52 = .ok (.iconst 0, 1) := by decide +kernel
theorem dX3_perform_53 : decode cX3_perform 53 = .ok (.ireturn, 1) := by decide +kernel
theorem dX3_perform_54 : decode cX3_perform 54 = .ok (.iload_n 2, 1) := by decide +kernel
theorem dX3_perform_55 : decode cX3_perform 55 = .ok (.ifCond .ne 13, 3) := by decide +kernel
theorem dX3_perform_58 : decode cX3_perform 58 = .ok (.aload_n 0, 1) := by decide +kernel
theorem dX3_perform_59 : decode cX3_perform 59 = .ok (.getfield 19, 3) := by decide +kernel
theorem dX3_perform_62 : decode cX3_perform 62 = .ok (.invokevirtual 142, 3) := by decide +kernel
theorem dX3_perform_65 : decode cX3_perform 65 = .ok (.pop, 1) := by decide +kernel
theorem dX3_perform_66 : decode cX3_perform 66 = .ok (.iconst 1, 1) := by decide +kernel
theorem dX3_perform_67 : decode cX3_perform 67 = .ok (.ireturn, 1) := by decide +kernel
theorem dX3_perform_68 : decode cX3_perform 68 = .ok (.aload_n 0, 1) := by decide +kernel
theorem dX3_perform_69 : decode cX3_perform 69 = .ok (.iconst (-1), 1) := by decide +kernel
theorem dX3_perform_70 : decode cX3_perform 70 = .ok (.iload_n 2, 1) := by decide +kernel
theorem dX3_perform_71 : decode cX3_perform 71 = .ok (.isub, 1) := by decide +kernel
theorem dX3_perform_72 : decode cX3_perform 72 = .ok (.invokevirtual 201, 3) := by decide +kernel
theorem dX3_perform_75 : decode cX3_perform 75 = .ok (.ireturn, 1) := by decide +kernel
theorem dX3_takeBack_0 : decode cX3_takeBack 0 = .ok (.iload_n 1, 1) := by decide +kernel
theorem dX3_takeBack_1 : decode cX3_takeBack 1 = .ok (.sipush 256, 3) := by decide +kernel
theorem dX3_takeBack_4 : decode cX3_takeBack 4 = .ok (.if_icmp .ge 12, 3) := by decide +kernel
theorem dX3_takeBack_7 : decode cX3_takeBack 7 = .ok (.aload_n 0, 1) := by decide +kernel
theorem dX3_takeBack_8 : decode cX3_takeBack 8 = .ok (.getfield 27, 3) := by decide +kernel
theorem dX3_takeBack_11 : decode cX3_takeBack 11 = .ok (.iload_n 1, 1) := by decide +kernel
theorem dX3_takeBack_12 : decode cX3_takeBack 12 = .ok (.iaload, 1) := by decide +kernel
theorem dX3_takeBack_13 : decode cX3_takeBack 13 = .ok (.ifCond .ne 5, 3) := by decide +kernel
theorem dX3_takeBack_16 : decode cX3_takeBack 16 = .ok (.iconst 0, 1) := by decide +kernel
theorem dX3_takeBack_17 : decode cX3_takeBack 17 = .ok (.ireturn, 1) := by decide +kernel
theorem dX3_takeBack_18 : decode cX3_takeBack 18 = .ok (.aload_n 0, 1) := by decide +kernel
theorem dX3_takeBack_19 : decode cX3_takeBack 19 = .ok (.getfield 19, 3) := by decide +kernel
theorem dX3_takeBack_22 : decode cX3_takeBack 22 = .ok (.aload_n 0, 1) := by decide +kernel
theorem dX3_takeBack_23 : decode cX3_takeBack 23 = .ok (.getfield 27, 3) := by decide +kernel
theorem dX3_takeBack_26 : decode cX3_takeBack 26 = .ok (.iload_n 1, 1) := by decide +kernel
theorem dX3_takeBack_27 : decode cX3_takeBack 27 = .ok (.iaload, 1) := by decide +kernel
theorem dX3_takeBack_28 : decode cX3_takeBack 28 = .ok (.invokevirtual 101, 3) := by decide +kernel
theorem dX3_takeBack_31 : decode cX3_takeBack 31 = .ok (.aload_n 0, 1) := by decide +kernel
theorem dX3_takeBack_32 : decode cX3_takeBack 32 = .ok (.getfield 27, 3) := by decide +kernel
theorem dX3_takeBack_35 : decode cX3_takeBack 35 = .ok (.iload_n 1, 1) := by decide +kernel
theorem dX3_takeBack_36 : decode cX3_takeBack 36 = .ok (.iconst 0, 1) := by decide +kernel
theorem dX3_takeBack_37 : decode cX3_takeBack 37 = .ok (.iastore, 1) := by decide +kernel
theorem dX3_takeBack_38 : decode cX3_takeBack 38 = .ok (.iconst 1, 1) := by decide +kernel
theorem dX3_takeBack_39 : decode cX3_takeBack 39 = .ok (.ireturn, 1) := by decide +kernel
theorem dX3_addressOrNone_0 : decode cX3_addressOrNone 0 = .ok (.iload_n 1, 1) := by decide +kernel
theorem dX3_addressOrNone_1 : decode cX3_addressOrNone 1 = .ok (.ifCond .ne 7, 3) := by decide +kernel
theorem dX3_addressOrNone_4 : decode cX3_addressOrNone 4 = .ok (.iconst (-1), 1) := by decide +kernel
theorem dX3_addressOrNone_5 : decode cX3_addressOrNone 5 = .ok (.goto 14, 3) := by decide +kernel
theorem dX3_addressOrNone_8 : decode cX3_addressOrNone 8 = .ok (.aload_n 0, 1) := by decide +kernel
theorem dX3_addressOrNone_9 : decode cX3_addressOrNone 9 = .ok (.getfield 19, 3) := by decide +kernel
theorem dX3_addressOrNone_12 : decode cX3_addressOrNone 12 = .ok (.getfield 111, 3) := by decide +kernel
theorem dX3_addressOrNone_15 : decode cX3_addressOrNone 15 = .ok (.iload_n 1, 1) := by decide +kernel
theorem dX3_addressOrNone_16 : decode cX3_addressOrNone 16 = .ok (.invokevirtual 157, 3) := by decide +kernel
theorem dX3_addressOrNone_19 : decode cX3_addressOrNone 19 = .ok (.ireturn, 1) := by decide +kernel
theorem dX3_requireMemory_0 : decode cX3_requireMemory 0 = .ok (.aload_n 0, 1) := by decide +kernel
theorem dX3_requireMemory_1 : decode cX3_requireMemory 1 = .ok (.getfield 30, 3) := by decide +kernel
theorem dX3_requireMemory_4 : decode cX3_requireMemory 4 = .ok (.ifCond .ne 13, 3) := by decide +kernel
theorem dX3_requireMemory_7 : decode cX3_requireMemory 7 = .ok (.new 84, 3) := by decide +kernel
theorem dX3_requireMemory_10 : decode cX3_requireMemory 10 = .ok (.dup, 1) := by decide +kernel
theorem dX3_requireMemory_11 : decode cX3_requireMemory 11 = .ok (.ldc 204, 2) := by decide +kernel
theorem dX3_requireMemory_13 : decode cX3_requireMemory 13 = .ok (.invokespecial 88, 3) := by decide +kernel
theorem dX3_requireMemory_16 : decode cX3_requireMemory 16 = .ok (.athrow, 1) := by decide +kernel
theorem dX3_requireMemory_17 : decode cX3_requireMemory 17 = .ok (.return_, 1) := by decide +kernel
theorem dX3_requireBlock_0 : decode cX3_requireBlock 0 = .ok (.aload_n 0, 1) := by decide +kernel
theorem dX3_requireBlock_1 : decode cX3_requireBlock 1 = .ok (.invokevirtual 77, 3) := by decide +kernel
theorem dX3_requireBlock_4 : decode cX3_requireBlock 4 = .ok (.aload_n 0, 1) := by decide +kernel
theorem dX3_requireBlock_5 : decode cX3_requireBlock 5 = .ok (.getfield 19, 3) := by decide +kernel
theorem dX3_requireBlock_8 : decode cX3_requireBlock 8 = .ok (.getfield 111, 3) := by decide +kernel
theorem dX3_requireBlock_11 : decode cX3_requireBlock 11 = .ok (.iload_n 1, 1) := by decide +kernel
theorem dX3_requireBlock_12 : decode cX3_requireBlock 12 = .ok (.invokevirtual 206, 3) := by decide +kernel
theorem dX3_requireBlock_15 : decode cX3_requireBlock 15 = .ok (.istore_n 2, 1) := by decide +kernel
theorem dX3_requireBlock_16 : decode cX3_requireBlock 16 = .ok (.iload_n 2, 1) := by decide +kernel
theorem dX3_requireBlock_17 : decode cX3_requireBlock 17 = .ok (.ifCond .ne 13, 3) := by decide +kernel
theorem dX3_requireBlock_20 : decode cX3_requireBlock 20 = .ok (.new 42, 3) := by decide +kernel
theorem dX3_requireBlock_23 : decode cX3_requireBlock 23 = .ok (.dup, 1) := by decide +kernel
theorem dX3_requireBlock_24 : decode cX3_requireBlock 24 = .ok (.ldc 209, 2) := by decide +kernel
theorem dX3_requireBlock_26 : decode cX3_requireBlock 26 = .ok (.invokespecial 46, 3) := by decide +kernel
theorem dX3_requireBlock_29 : decode cX3_requireBlock 29 = .ok (.athrow, 1) := by decide +kernel
theorem dX3_requireBlock_30 : decode cX3_requireBlock 30 = .ok (.iload_n 2, 1) := by decide +kernel
theorem dX3_requireBlock_31 : decode cX3_requireBlock 31 = .ok (.ireturn, 1) := by decide +kernel
theorem dX3_requireReached_0 : decode cX3_requireReached 0 = .ok (.iload_n 1, 1) := by decide +kernel
theorem dX3_requireReached_1 : decode cX3_requireReached 1 = .ok (.invokestatic 211, 3) := by decide +kernel
theorem dX3_requireReached_4 : decode cX3_requireReached 4 = .ok (.ifCond .eq 14, 3) := by decide +kernel
theorem dX3_requireReached_7 : decode cX3_requireReached 7 = .ok (.aload_n 0, 1) := by decide +kernel
theorem dX3_requireReached_8 : decode cX3_requireReached 8 = .ok (.getfield 19, 3) := by decide +kernel
theorem dX3_requireReached_11 : decode cX3_requireReached 11 = .ok (.iload_n 1, 1) := by decide +kernel
theorem dX3_requireReached_12 : decode cX3_requireReached 12 = .ok (.invokevirtual 214, 3) := by decide +kernel
theorem dX3_requireReached_15 : decode cX3_requireReached 15 = .ok (.ifCond .ne 13, 3) := by decide +kernel
theorem dX3_requireReached_18 : decode cX3_requireReached 18 = .ok (.new 42, 3) := by decide +kernel
theorem dX3_requireReached_21 : decode cX3_requireReached 21 = .ok (.dup, 1) := by decide +kernel
theorem dX3_requireReached_22 : decode cX3_requireReached 22 = .ok (.ldc 217, 2) := by decide +kernel
theorem dX3_requireReached_24 : decode cX3_requireReached 24 = .ok (.invokespecial 46, 3) := by decide +kernel
theorem dX3_requireReached_27 : decode cX3_requireReached 27 = .ok (.athrow, 1) := by decide +kernel
theorem dX3_requireReached_28 : decode cX3_requireReached 28 = .ok (.return_, 1) := by decide +kernel
theorem dX3_requireClass_0 : decode cX3_requireClass 0 = .ok (.iload_n 0, 1) := by decide +kernel
theorem dX3_requireClass_1 : decode cX3_requireClass 1 = .ok (.invokestatic 211, 3) := by decide +kernel
theorem dX3_requireClass_4 : decode cX3_requireClass 4 = .ok (.ifCond .ne 13, 3) := by decide +kernel
theorem dX3_requireClass_7 : decode cX3_requireClass 7 = .ok (.new 42, 3) := by decide +kernel
theorem dX3_requireClass_10 : decode cX3_requireClass 10 = .ok (.dup, 1) := by decide +kernel
theorem dX3_requireClass_11 : decode cX3_requireClass 11 = .ok (.ldc 219, 2) := by decide +kernel
theorem dX3_requireClass_13 : decode cX3_requireClass 13 = .ok (.invokespecial 46, 3) := by decide +kernel
theorem dX3_requireClass_16 : decode cX3_requireClass 16 = .ok (.athrow, 1) := by decide +kernel
theorem dX3_requireClass_17 : decode cX3_requireClass 17 = .ok (.return_, 1) := by decide +kernel
theorem dX3_requireWords_0 : decode cX3_requireWords 0 = .ok (.iload_n 0, 1) := by decide +kernel
theorem dX3_requireWords_1 : decode cX3_requireWords 1 = .ok (.iconst 1, 1) := by decide +kernel
theorem dX3_requireWords_2 : decode cX3_requireWords 2 = .ok (.if_icmp .ge 13, 3) := by decide +kernel
theorem dX3_requireWords_5 : decode cX3_requireWords 5 = .ok (.new 42, 3) := by decide +kernel
theorem dX3_requireWords_8 : decode cX3_requireWords 8 = .ok (.dup, 1) := by decide +kernel
theorem dX3_requireWords_9 : decode cX3_requireWords 9 = .ok (.ldc 221, 2) := by decide +kernel
theorem dX3_requireWords_11 : decode cX3_requireWords 11 = .ok (.invokespecial 46, 3) := by decide +kernel
theorem dX3_requireWords_14 : decode cX3_requireWords 14 = .ok (.athrow, 1) := by decide +kernel
theorem dX3_requireWords_15 : decode cX3_requireWords 15 = .ok (.return_, 1) := by decide +kernel
theorem dX3_isClass_0 : decode cX3_isClass 0 = .ok (.iload_n 0, 1) := by decide +kernel
theorem dX3_isClass_1 : decode cX3_isClass 1 = .ok (.iconst 1, 1) := by decide +kernel
theorem dX3_isClass_2 : decode cX3_isClass 2 = .ok (.if_icmp .lt 13, 3) := by decide +kernel
theorem dX3_isClass_5 : decode cX3_isClass 5 = .ok (.iload_n 0, 1) := by decide +kernel
theorem dX3_isClass_6 : decode cX3_isClass 6 = .ok (.bipush 24, 2) := by decide +kernel
theorem dX3_isClass_8 : decode cX3_isClass 8 = .ok (.if_icmp .gt 7, 3) := by decide +kernel
theorem dX3_isClass_11 : decode cX3_isClass 11 = .ok (.iconst 1, 1) := by decide +kernel
theorem dX3_isClass_12 : decode cX3_isClass 12 = .ok (.goto 4, 3) := by decide +kernel
theorem dX3_isClass_15 : decode cX3_isClass 15 = .ok (.iconst 0, 1) := by decide +kernel
theorem dX3_isClass_16 : decode cX3_isClass 16 = .ok (.ireturn, 1) := by decide +kernel
theorem dX3_isSize_0 : decode cX3_isSize 0 = .ok (.iload_n 0, 1) := by decide +kernel
theorem dX3_isSize_1 : decode cX3_isSize 1 = .ok (.iconst 4, 1) := by decide +kernel
theorem dX3_isSize_2 : decode cX3_isSize 2 = .ok (.if_icmp .lt 13, 3) := by decide +kernel
theorem dX3_isSize_5 : decode cX3_isSize 5 = .ok (.iload_n 0, 1) := by decide +kernel
theorem dX3_isSize_6 : decode cX3_isSize 6 = .ok (.ldc 223, 2) := by decide +kernel
theorem dX3_isSize_8 : decode cX3_isSize 8 = .ok (.if_icmp .gt 7, 3) := by decide +kernel
theorem dX3_isSize_11 : decode cX3_isSize 11 = .ok (.iconst 1, 1) := by decide +kernel
theorem dX3_isSize_12 : decode cX3_isSize 12 = .ok (.goto 4, 3) := by decide +kernel
theorem dX3_isSize_15 : decode cX3_isSize 15 = .ok (.iconst 0, 1) := by decide +kernel
theorem dX3_isSize_16 : decode cX3_isSize 16 = .ok (.ireturn, 1) := by decide +kernel
theorem dX4_init_0 : decode cX4_init 0 = .ok (.aload_n 0, 1) := by decide +kernel
theorem dX4_init_1 : decode cX4_init 1 = .ok (.invokespecial 1, 3) := by decide +kernel
theorem dX4_init_4 : decode cX4_init 4 = .ok (.aload_n 0, 1) := by decide +kernel
theorem dX4_init_5 : decode cX4_init 5 = .ok (.bipush 25, 2) := by decide +kernel
theorem dX4_init_7 : decode cX4_init 7 = .ok (.newarray .int, 2) := by decide +kernel
theorem dX4_init_9 : decode cX4_init 9 = .ok (.putfield 7, 3) := by decide +kernel
theorem dX4_init_12 : decode cX4_init 12 = .ok (.aload_n 0, 1) := by decide +kernel
theorem dX4_init_13 : decode cX4_init 13 = .ok (.bipush 25, 2) := by decide +kernel
theorem dX4_init_15 : decode cX4_init 15 = .ok (.newarray .int, 2) := by decide +kernel
theorem dX4_init_17 : decode cX4_init 17 = .ok (.putfield 13, 3) := by decide +kernel
theorem dX4_init_20 : decode cX4_init 20 = .ok (.aload_n 0, 1) := by decide +kernel
theorem dX4_init_21 : decode cX4_init 21 = .ok (.bipush 25, 2) := by decide +kernel
theorem dX4_init_23 : decode cX4_init 23 = .ok (.newarray .int, 2) := by decide +kernel
theorem dX4_init_25 : decode cX4_init 25 = .ok (.putfield 16, 3) := by decide +kernel
theorem dX4_init_28 : decode cX4_init 28 = .ok (.aload_n 0, 1) := by decide +kernel
theorem dX4_init_29 : decode cX4_init 29 = .ok (.bipush 25, 2) := by decide +kernel
theorem dX4_init_31 : decode cX4_init 31 = .ok (.newarray .int, 2) := by decide +kernel
theorem dX4_init_33 : decode cX4_init 33 = .ok (.putfield 19, 3) := by decide +kernel
theorem dX4_init_36 : decode cX4_init 36 = .ok (.aload_n 0, 1) := by decide +kernel
theorem dX4_init_37 : decode cX4_init 37 = .ok (.bipush 25, 2) := by decide +kernel
theorem dX4_init_39 : decode cX4_init 39 = .ok (.newarray .int, 2) := by decide +kernel
theorem dX4_init_41 : decode cX4_init 41 = .ok (.putfield 22, 3) := by decide +kernel
theorem dX4_init_44 : decode cX4_init 44 = .ok (.aload_n 0, 1) := by decide +kernel
theorem dX4_init_45 : decode cX4_init 45 = .ok (.bipush 25, 2) := by decide +kernel
theorem dX4_init_47 : decode cX4_init 47 = .ok (.newarray .int, 2) := by decide +kernel
theorem dX4_init_49 : decode cX4_init 49 = .ok (.putfield 25, 3) := by decide +kernel
theorem dX4_init_52 : decode cX4_init 52 = .ok (.aload_n 0, 1) := by decide +kernel
theorem dX4_init_53 : decode cX4_init 53 = .ok (.bipush 25, 2) := by decide +kernel
theorem dX4_init_55 : decode cX4_init 55 = .ok (.newarray .boolean, 2) := by decide +kernel
theorem dX4_init_57 : decode cX4_init 57 = .ok (.putfield 28, 3) := by decide +kernel
theorem dX4_init_60 : decode cX4_init 60 = .ok (.aload_n 0, 1) := by decide +kernel
theorem dX4_init_61 : decode cX4_init 61 = .ok (.bipush 25, 2) := by decide +kernel
theorem dX4_init_63 : decode cX4_init 63 = .ok (.newarray .boolean, 2) := by decide +kernel
theorem dX4_init_65 : decode cX4_init 65 = .ok (.putfield 32, 3) := by decide +kernel
theorem dX4_init_68 : decode cX4_init 68 = .ok (.aload_n 0, 1) := by decide +kernel
theorem dX4_init_69 : decode cX4_init 69 = .ok (.bipush 25, 2) := by decide +kernel
theorem dX4_init_71 : decode cX4_init 71 = .ok (.newarray .int, 2) := by decide +kernel
theorem dX4_init_73 : decode cX4_init 73 = .ok (.putfield 35, 3) := by decide +kernel
theorem dX4_init_76 : decode cX4_init 76 = .ok (.aload_n 0, 1) := by decide +kernel
theorem dX4_init_77 : decode cX4_init 77 = .ok (.sipush 14000, 3) := by decide +kernel
theorem dX4_init_80 : decode cX4_init 80 = .ok (.newarray .long, 2) := by decide +kernel
theorem dX4_init_82 : decode cX4_init 82 = .ok (.putfield 38, 3) := by decide +kernel
theorem dX4_init_85 : decode cX4_init 85 = .ok (.aload_n 0, 1) := by decide +kernel
theorem dX4_init_86 : decode cX4_init 86 = .ok (.sipush 256, 3) := by decide +kernel
theorem dX4_init_89 : decode cX4_init 89 = .ok (.newarray .int, 2) := by decide +kernel
theorem dX4_init_91 : decode cX4_init 91 = .ok (.putfield 42, 3) := by decide +kernel
theorem dX4_init_94 : decode cX4_init 94 = .ok (.aload_n 0, 1) := by decide +kernel
theorem dX4_init_95 : decode cX4_init 95 = .ok (.sipush 256, 3) := by decide +kernel
theorem dX4_init_98 : decode cX4_init 98 = .ok (.newarray .int, 2) := by decide +kernel
theorem dX4_init_100 : decode cX4_init 100 = .ok (.putfield 45, 3) := by decide +kernel
theorem dX4_init_103 : decode cX4_init 103 = .ok (.aload_n 0, 1) := by decide +kernel
theorem dX4_init_104 : decode cX4_init 104 = .ok (.sipush 256, 3) := by decide +kernel
theorem dX4_init_107 : decode cX4_init 107 = .ok (.newarray .int, 2) := by decide +kernel
theorem dX4_init_109 : decode cX4_init 109 = .ok (.putfield 48, 3) := by decide +kernel
theorem dX4_init_112 : decode cX4_init 112 = .ok (.aload_n 0, 1) := by decide +kernel
theorem dX4_init_113 : decode cX4_init 113 = .ok (.sipush 256, 3) := by decide +kernel
theorem dX4_init_116 : decode cX4_init 116 = .ok (.newarray .int, 2) := by decide +kernel
theorem dX4_init_118 : decode cX4_init 118 = .ok (.putfield 51, 3) := by decide +kernel
theorem dX4_init_121 : decode cX4_init 121 = .ok (.aload_n 0, 1) := by decide +kernel
theorem dX4_init_122 : decode cX4_init 122 = .ok (.bipush 25, 2) := by decide +kernel
theorem dX4_init_124 : decode cX4_init 124 = .ok (.newarray .long, 2) := by decide +kernel
theorem dX4_init_126 : decode cX4_init 126 = .ok (.putfield 54, 3) := by decide +kernel
theorem dX4_init_129 : decode cX4_init 129 = .ok (.aload_n 0, 1) := by decide +kernel
theorem dX4_init_130 : decode cX4_init 130 = .ok (.bipush 32, 2) := by decide +kernel
theorem dX4_init_132 : decode cX4_init 132 = .ok (.newarray .int, 2) := by decide +kernel
theorem dX4_init_134 : decode cX4_init 134 = .ok (.putfield 57, 3) := by decide +kernel
theorem dX4_init_137 : decode cX4_init 137 = .ok (.aload_n 0, 1) := by decide +kernel
theorem dX4_init_138 : decode cX4_init 138 = .ok (.bipush 32, 2) := by decide +kernel
theorem dX4_init_140 : decode cX4_init 140 = .ok (.newarray .int, 2) := by decide +kernel
theorem dX4_init_142 : decode cX4_init 142 = .ok (.putfield 60, 3) := by decide +kernel
theorem dX4_init_145 : decode cX4_init 145 = .ok (.aload_n 0, 1) := by decide +kernel
theorem dX4_init_146 : decode cX4_init 146 = .ok (.bipush 25, 2) := by decide +kernel
theorem dX4_init_148 : decode cX4_init 148 = .ok (.newarray .int, 2) := by decide +kernel
theorem dX4_init_150 : decode cX4_init 150 = .ok (.putfield 63, 3) := by decide +kernel
theorem dX4_init_153 : decode cX4_init 153 = .ok (.return_, 1) := by decide +kernel
theorem dX4_thrown_0 : decode cX4_thrown 0 = .ok (.aload_n 0, 1) := by decide +kernel
theorem dX4_thrown_1 : decode cX4_thrown 1 = .ok (.getfield 66, 3) := by decide +kernel
theorem dX4_thrown_4 : decode cX4_thrown 4 = .ok (.ireturn, 1) := by decide +kernel
theorem dX4_raise_0 : decode cX4_raise 0 = .ok (.aload_n 0, 1) := by decide +kernel
theorem dX4_raise_1 : decode cX4_raise 1 = .ok (.iload_n 1, 1) := by decide +kernel
theorem dX4_raise_2 : decode cX4_raise 2 = .ok (.putfield 66, 3) := by decide +kernel
theorem dX4_raise_5 : decode cX4_raise 5 = .ok (.iconst 0, 1) := by decide +kernel
theorem dX4_raise_6 : decode cX4_raise 6 = .ok (.ireturn, 1) := by decide +kernel
theorem dX4_in_0 : decode cX4_in 0 = .ok (.lload_n 0, 1) := by decide +kernel
theorem dX4_in_1 : decode cX4_in 1 = .ok (.lload_n 2, 1) := by decide +kernel
theorem dX4_in_2 : decode cX4_in 2 = .ok (.lcmp, 1) := by decide +kernel
theorem dX4_in_3 : decode cX4_in 3 = .ok (.ifCond .lt 14, 3) := by decide +kernel
theorem dX4_in_6 : decode cX4_in 6 = .ok (.lload_n 0, 1) := by decide +kernel
theorem dX4_in_7 : decode cX4_in 7 = .ok (.lload 4, 2) := by decide +kernel
theorem dX4_in_9 : decode cX4_in 9 = .ok (.lcmp, 1) := by decide +kernel
theorem dX4_in_10 : decode cX4_in 10 = .ok (.ifCond .gt 7, 3) := by decide +kernel
theorem dX4_in_13 : decode cX4_in 13 = .ok (.iconst 1, 1) := by decide +kernel
theorem dX4_in_14 : decode cX4_in 14 = .ok (.goto 4, 3) := by decide +kernel
theorem dX4_in_17 : decode cX4_in 17 = .ok (.iconst 0, 1) := by decide +kernel
theorem dX4_in_18 : decode cX4_in 18 = .ok (.ireturn, 1) := by decide +kernel
theorem dX4_row_0 : decode cX4_row 0 = .ok (.aload_n 0, 1) := by decide +kernel
theorem dX4_row_1 : decode cX4_row 1 = .ok (.iload_n 1, 1) := by decide +kernel
theorem dX4_row_2 : decode cX4_row 2 = .ok (.i2l, 1) := by decide +kernel
theorem dX4_row_3 : decode cX4_row 3 = .ok (.lconst 1, 1) := by decide +kernel
theorem dX4_row_4 : decode cX4_row 4 = .ok (.ldc2_w 70, 3) := by decide +kernel
theorem dX4_row_7 : decode cX4_row 7 = .ok (.invokestatic 72, 3) := by decide +kernel
theorem dX4_row_10 : decode cX4_row 10 = .ok (.ifCond .eq 7, 3) := by decide +kernel
theorem dX4_row_13 : decode cX4_row 13 = .ok (.iconst 0, 1) := by decide +kernel
theorem dX4_row_14 : decode cX4_row 14 = .ok (.goto 4, 3) := by decide +kernel
theorem dX4_row_17 : decode cX4_row 17 = .ok (.iconst 1, 1) := by decide +kernel
theorem dX4_row_18 : decode cX4_row 18 = .ok (.putfield 66, 3) := by decide +kernel
theorem dX4_row_21 : decode cX4_row 21 = .ok (.aload_n 0, 1) := by decide +kernel
theorem dX4_row_22 : decode cX4_row 22 = .ok (.getfield 66, 3) := by decide +kernel
theorem dX4_row_25 : decode cX4_row 25 = .ok (.ifCond .le 4, 3) := by decide +kernel
theorem dX4_row_28 : decode cX4_row 28 = .ok (.return_, 1) := by decide +kernel
theorem dX4_row_29 : decode cX4_row 29 = .ok (.aload_n 0, 1) := by decide +kernel
theorem dX4_row_30 : decode cX4_row 30 = .ok (.getfield 7, 3) := by decide +kernel
theorem dX4_row_33 : decode cX4_row 33 = .ok (.iload_n 1, 1) := by decide +kernel
theorem dX4_row_34 : decode cX4_row 34 = .ok (.iload_n 2, 1) := by decide +kernel
theorem dX4_row_35 : decode cX4_row 35 = .ok (.iastore, 1) := by decide +kernel
theorem dX4_row_36 : decode cX4_row 36 = .ok (.aload_n 0, 1) := by decide +kernel
theorem dX4_row_37 : decode cX4_row 37 = .ok (.getfield 13, 3) := by decide +kernel
theorem dX4_row_40 : decode cX4_row 40 = .ok (.iload_n 1, 1) := by decide +kernel
theorem dX4_row_41 : decode cX4_row 41 = .ok (.iload_n 3, 1) := by decide +kernel
theorem dX4_row_42 : decode cX4_row 42 = .ok (.iastore, 1) := by decide +kernel
theorem dX4_row_43 : decode cX4_row 43 = .ok (.aload_n 0, 1) := by decide +kernel
theorem dX4_row_44 : decode cX4_row 44 = .ok (.getfield 16, 3) := by decide +kernel
theorem dX4_row_47 : decode cX4_row 47 = .ok (.iload_n 1, 1) := by decide +kernel
theorem dX4_row_48 : decode cX4_row 48 = .ok (.iload 4, 2) := by decide +kernel
theorem dX4_row_50 : decode cX4_row 50 = .ok (.iastore, 1) := by decide +kernel
theorem dX4_row_51 : decode cX4_row 51 = .ok (.return_, 1) := by decide +kernel
theorem dX4_leftOf_0 : decode cX4_leftOf 0 = .ok (.iload_n 0, 1) := by decide +kernel
theorem dX4_leftOf_1 : decode cX4_leftOf 1 = .ok (.ifCond .ne 7, 3) := by decide +kernel
theorem dX4_leftOf_4 : decode cX4_leftOf 4 = .ok (.iload_n 1, 1) := by decide +kernel
theorem dX4_leftOf_5 : decode cX4_leftOf 5 = .ok (.iconst 1, 1) := by decide +kernel
theorem dX4_leftOf_6 : decode cX4_leftOf 6 = .ok (.isub, 1) := by decide +kernel
theorem dX4_leftOf_7 : decode cX4_leftOf 7 = .ok (.ireturn, 1) := by decide +kernel
theorem dX4_leftOf_8 : decode cX4_leftOf 8 = .ok (.iload_n 0, 1) := by decide +kernel
theorem dX4_leftOf_9 : decode cX4_leftOf 9 = .ok (.iconst 1, 1) := by decide +kernel
theorem dX4_leftOf_10 : decode cX4_leftOf 10 = .ok (.if_icmp .ne 16, 3) := by decide +kernel
theorem dX4_leftOf_13 : decode cX4_leftOf 13 = .ok (.iload_n 1, 1) := by decide +kernel
theorem dX4_leftOf_14 : decode cX4_leftOf 14 = .ok (.iconst 2, 1) := by decide +kernel
theorem dX4_leftOf_15 : decode cX4_leftOf 15 = .ok (.if_icmp .le 9, 3) := by decide +kernel
theorem dX4_leftOf_18 : decode cX4_leftOf 18 = .ok (.iload_n 1, 1) := by decide +kernel
theorem dX4_leftOf_19 : decode cX4_leftOf 19 = .ok (.iconst 1, 1) := by decide +kernel
theorem dX4_leftOf_20 : decode cX4_leftOf 20 = .ok (.isub, 1) := by decide +kernel
theorem dX4_leftOf_21 : decode cX4_leftOf 21 = .ok (.goto 4, 3) := by decide +kernel
theorem dX4_leftOf_24 : decode cX4_leftOf 24 = .ok (.iconst 0, 1) := by decide +kernel
theorem dX4_leftOf_25 : decode cX4_leftOf 25 = .ok (.ireturn, 1) := by decide +kernel
theorem dX4_leftOf_26 : decode cX4_leftOf 26 = .ok (.iload_n 1, 1) := by decide +kernel
theorem dX4_leftOf_27 : decode cX4_leftOf 27 = .ok (.iconst 3, 1) := by decide +kernel
theorem dX4_leftOf_28 : decode cX4_leftOf 28 = .ok (.if_icmp .le 9, 3) := by decide +kernel
theorem dX4_leftOf_31 : decode cX4_leftOf 31 = .ok (.iload_n 1, 1) := by decide +kernel
theorem dX4_leftOf_32 : decode cX4_leftOf 32 = .ok (.iconst 1, 1) := by decide +kernel
theorem dX4_leftOf_33 : decode cX4_leftOf 33 = .ok (.isub, 1) := by decide +kernel
theorem dX4_leftOf_34 : decode cX4_leftOf 34 = .ok (.goto 4, 3) := by decide +kernel
theorem dX4_leftOf_37 : decode cX4_leftOf 37 = .ok (.iconst 0, 1) := by decide +kernel
theorem dX4_leftOf_38 : decode cX4_leftOf 38 = .ok (.ireturn, 1) := by decide +kernel
theorem dX4_rightOf_0 : decode cX4_rightOf 0 = .ok (.iload_n 0, 1) := by decide +kernel
theorem dX4_rightOf_1 : decode cX4_rightOf 1 = .ok (.ifCond .ne 7, 3) := by decide +kernel
theorem dX4_rightOf_4 : decode cX4_rightOf 4 = .ok (.iload_n 1, 1) := by decide +kernel
theorem dX4_rightOf_5 : decode cX4_rightOf 5 = .ok (.iconst 1, 1) := by decide +kernel
theorem dX4_rightOf_6 : decode cX4_rightOf 6 = .ok (.isub, 1) := by decide +kernel
theorem dX4_rightOf_7 : decode cX4_rightOf 7 = .ok (.ireturn, 1) := by decide +kernel
theorem dX4_rightOf_8 : decode cX4_rightOf 8 = .ok (.iload_n 0, 1) := by decide +kernel
theorem dX4_rightOf_9 : decode cX4_rightOf 9 = .ok (.iconst 1, 1) := by decide +kernel
theorem dX4_rightOf_10 : decode cX4_rightOf 10 = .ok (.if_icmp .ne 16, 3) := by decide +kernel
theorem dX4_rightOf_13 : decode cX4_rightOf 13 = .ok (.iload_n 1, 1) := by decide +kernel
theorem dX4_rightOf_14 : decode cX4_rightOf 14 = .ok (.iconst 2, 1) := by decide +kernel
theorem dX4_rightOf_15 : decode cX4_rightOf 15 = .ok (.if_icmp .le 9, 3) := by decide +kernel
theorem dX4_rightOf_18 : decode cX4_rightOf 18 = .ok (.iload_n 1, 1) := by decide +kernel
theorem dX4_rightOf_19 : decode cX4_rightOf 19 = .ok (.iconst 2, 1) := by decide +kernel
theorem dX4_rightOf_20 : decode cX4_rightOf 20 = .ok (.isub, 1) := by decide +kernel
theorem dX4_rightOf_21 : decode cX4_rightOf 21 = .ok (.goto 4, 3) := by decide +kernel
theorem dX4_rightOf_24 : decode cX4_rightOf 24 = .ok (.iconst 0, 1) := by decide +kernel
theorem dX4_rightOf_25 : decode cX4_rightOf 25 = .ok (.ireturn, 1) := by decide +kernel
theorem dX4_rightOf_26 : decode cX4_rightOf 26 = .ok (.iload_n 1, 1) := by decide +kernel
theorem dX4_rightOf_27 : decode cX4_rightOf 27 = .ok (.iconst 4, 1) := by decide +kernel
theorem dX4_rightOf_28 : decode cX4_rightOf 28 = .ok (.if_icmp .ge 5, 3) := by decide +kernel
theorem dX4_rightOf_31 : decode cX4_rightOf 31 = .ok (.iconst 0, 1) := by decide +kernel
theorem dX4_rightOf_32 : decode cX4_rightOf 32 = .ok (.ireturn, 1) := by decide +kernel
theorem dX4_rightOf_33 : decode cX4_rightOf 33 = .ok (.iload_n 1, 1) := by decide +kernel
theorem dX4_rightOf_34 : decode cX4_rightOf 34 = .ok (.iconst 4, 1) := by decide +kernel
theorem dX4_rightOf_35 : decode cX4_rightOf 35 = .ok (.if_icmp .ne 7, 3) := by decide +kernel
theorem dX4_rightOf_38 : decode cX4_rightOf 38 = .ok (.iconst 1, 1) := by decide +kernel
theorem dX4_rightOf_39 : decode cX4_rightOf 39 = .ok (.goto 19, 3) := by decide +kernel
theorem dX4_rightOf_42 : decode cX4_rightOf 42 = .ok (.iload_n 1, 1) := by decide +kernel
theorem dX4_rightOf_43 : decode cX4_rightOf 43 = .ok (.iconst 2, 1) := by decide +kernel
theorem dX4_rightOf_44 : decode cX4_rightOf 44 = .ok (.irem, 1) := by decide +kernel
theorem dX4_rightOf_45 : decode cX4_rightOf 45 = .ok (.iconst 1, 1) := by decide +kernel
theorem dX4_rightOf_46 : decode cX4_rightOf 46 = .ok (.if_icmp .ne 9, 3) := by decide +kernel
theorem dX4_rightOf_49 : decode cX4_rightOf 49 = .ok (.iload_n 1, 1) := by decide +kernel
theorem dX4_rightOf_50 : decode cX4_rightOf 50 = .ok (.iconst 3, 1) := by decide +kernel
theorem dX4_rightOf_51 : decode cX4_rightOf 51 = .ok (.isub, 1) := by decide +kernel
theorem dX4_rightOf_52 : decode cX4_rightOf 52 = .ok (.goto 6, 3) := by decide +kernel
theorem dX4_rightOf_55 : decode cX4_rightOf 55 = .ok (.iload_n 1, 1) := by decide +kernel
theorem dX4_rightOf_56 : decode cX4_rightOf 56 = .ok (.iconst 4, 1) := by decide +kernel
theorem dX4_rightOf_57 : decode cX4_rightOf 57 = .ok (.isub, 1) := by decide +kernel
theorem dX4_rightOf_58 : decode cX4_rightOf 58 = .ok (.ireturn, 1) := by decide +kernel
theorem dX4_family_0 : decode cX4_family 0 = .ok (.aload_n 0, 1) := by decide +kernel
theorem dX4_family_1 : decode cX4_family 1 = .ok (.iconst 1, 1) := by decide +kernel
theorem dX4_family_2 : decode cX4_family 2 = .ok (.putfield 66, 3) := by decide +kernel
theorem dX4_family_5 : decode cX4_family 5 = .ok (.iload_n 1, 1) := by decide +kernel
theorem dX4_family_6 : decode cX4_family 6 = .ok (.i2l, 1) := by decide +kernel
theorem dX4_family_7 : decode cX4_family 7 = .ok (.lconst 0, 1) := by decide +kernel
theorem dX4_family_8 : decode cX4_family 8 = .ok (.ldc2_w 76, 3) := by decide +kernel
theorem dX4_family_11 : decode cX4_family 11 = .ok (.invokestatic 72, 3) := by decide +kernel
theorem dX4_family_14 : decode cX4_family 14 = .ok (.ifCond .eq 49, 3) := by decide +kernel
theorem dX4_family_17 : decode cX4_family 17 = .ok (.iload_n 2, 1) := by decide +kernel
theorem dX4_family_18 : decode cX4_family 18 = .ok (.i2l, 1) := by decide +kernel
theorem dX4_family_19 : decode cX4_family 19 = .ok (.lconst 1, 1) := by decide +kernel
theorem dX4_family_20 : decode cX4_family 20 = .ok (.ldc2_w 70, 3) := by decide +kernel
theorem dX4_family_23 : decode cX4_family 23 = .ok (.invokestatic 72, 3) := by decide +kernel
theorem dX4_family_26 : decode cX4_family 26 = .ok (.ifCond .eq 37, 3) := by decide +kernel
theorem dX4_family_29 : decode cX4_family 29 = .ok (.iload_n 3, 1) := by decide +kernel
theorem dX4_family_30 : decode cX4_family 30 = .ok (.i2l, 1) := by decide +kernel
theorem dX4_family_31 : decode cX4_family 31 = .ok (.ldc2_w 78, 3) := by decide +kernel
theorem dX4_family_34 : decode cX4_family 34 = .ok (.ldc2_w 80, 3) := by decide +kernel
theorem dX4_family_37 : decode cX4_family 37 = .ok (.invokestatic 72, 3) := by decide +kernel
theorem dX4_family_40 : decode cX4_family 40 = .ok (.ifCond .eq 23, 3) := by decide +kernel
theorem dX4_family_43 : decode cX4_family 43 = .ok (.iload_n 1, 1) := by decide +kernel
theorem dX4_family_44 : decode cX4_family 44 = .ok (.iconst 1, 1) := by decide +kernel
theorem dX4_family_45 : decode cX4_family 45 = .ok (.if_icmp .ne 19, 3) := by decide +kernel
theorem dX4_family_48 : decode cX4_family 48 = .ok (.iload 4, 2) := by decide +kernel
theorem dX4_family_50 : decode cX4_family 50 = .ok (.i2l, 1) := by decide +kernel
theorem dX4_family_51 : decode cX4_family 51 = .ok (.ldc2_w 78, 3) := by decide +kernel
theorem dX4_family_54 : decode cX4_family 54 = .ok (.ldc2_w 80, 3) := by decide +kernel
theorem dX4_family_57 : decode cX4_family 57 = .ok (.invokestatic 72, 3) := by decide +kernel
theorem dX4_family_60 : decode cX4_family 60 = .ok (.ifCond .ne 4, 3) := by decide +kernel
theorem dX4_family_63 : decode cX4_family 63 = .ok (.return_, 1) := by decide +kernel
theorem dX4_family_64 : decode cX4_family 64 = .ok (.iconst 1, 1) := by decide +kernel
theorem dX4_family_65 : decode cX4_family 65 = .ok (.istore 5, 2) := by decide +kernel
theorem dX4_family_67 : decode cX4_family 67 = .ok (.iload 5, 2) := by decide +kernel
theorem dX4_family_69 : decode cX4_family 69 = .ok (.iload_n 2, 1) := by decide +kernel
theorem dX4_family_70 : decode cX4_family 70 = .ok (.if_icmp .gt 99, 3) := by decide +kernel
theorem dX4_family_73 : decode cX4_family 73 = .ok (.iload_n 1, 1) := by decide +kernel
theorem dX4_family_74 : decode cX4_family 74 = .ok (.iload 5, 2) := by decide +kernel
theorem dX4_family_76 : decode cX4_family 76 = .ok (.invokestatic 82, 3) := by decide +kernel
theorem dX4_family_79 : decode cX4_family 79 = .ok (.istore 6, 2) := by decide +kernel
theorem dX4_family_81 : decode cX4_family 81 = .ok (.aload_n 0, 1) := by decide +kernel
theorem dX4_family_82 : decode cX4_family 82 = .ok (.getfield 54, 3) := by decide +kernel
theorem dX4_family_85 : decode cX4_family 85 = .ok (.iload 5, 2) := by decide +kernel
theorem dX4_family_87 : decode cX4_family 87 = .ok (.iload 6, 2) := by decide +kernel
theorem dX4_family_89 : decode cX4_family 89 = .ok (.ifCond .le 25, 3) := by decide +kernel
theorem dX4_family_92 : decode cX4_family 92 = .ok (.aload_n 0, 1) := by decide +kernel
theorem dX4_family_93 : decode cX4_family 93 = .ok (.getfield 54, 3) := by decide +kernel
theorem dX4_family_96 : decode cX4_family 96 = .ok (.iload 6, 2) := by decide +kernel
theorem dX4_family_98 : decode cX4_family 98 = .ok (.laload, 1) := by decide +kernel
theorem dX4_family_99 : decode cX4_family 99 = .ok (.aload_n 0, 1) := by decide +kernel
theorem dX4_family_100 : decode cX4_family 100 = .ok (.getfield 54, 3) := by decide +kernel
theorem dX4_family_103 : decode cX4_family 103 = .ok (.iload_n 1, 1) := by decide +kernel
theorem dX4_family_104 : decode cX4_family 104 = .ok (.iload 5, 2) := by decide +kernel
theorem dX4_family_106 : decode cX4_family 106 = .ok (.invokestatic 86, 3) := by decide +kernel
theorem dX4_family_109 : decode cX4_family 109 = .ok (.laload, 1) := by decide +kernel
theorem dX4_family_110 : decode cX4_family 110 = .ok (.ladd, 1) := by decide +kernel
theorem dX4_family_111 : decode cX4_family 111 = .ok (.goto 36, 3) := by decide +kernel
theorem dX4_family_114 : decode cX4_family 114 = .ok (.iload_n 1, 1) := by decide +kernel
theorem dX4_family_115 : decode cX4_family 115 = .ok (.iconst 1, 1) := by decide +kernel
theorem dX4_family_116 : decode cX4_family 116 = .ok (.if_icmp .ne 15, 3) := by decide +kernel
theorem dX4_family_119 : decode cX4_family 119 = .ok (.iload 5, 2) := by decide +kernel
theorem dX4_family_121 : decode cX4_family 121 = .ok (.iconst 2, 1) := by decide +kernel
theorem dX4_family_122 : decode cX4_family 122 = .ok (.if_icmp .ne 9, 3) := by decide +kernel
theorem dX4_family_125 : decode cX4_family 125 = .ok (.iload 4, 2) := by decide +kernel
theorem dX4_family_127 : decode cX4_family 127 = .ok (.i2l, 1) := by decide +kernel
theorem dX4_family_128 : decode cX4_family 128 = .ok (.goto 19, 3) := by decide +kernel
theorem dX4_family_131 : decode cX4_family 131 = .ok (.iload_n 1, 1) := by decide +kernel
theorem dX4_family_132 : decode cX4_family 132 = .ok (.iconst 2, 1) := by decide +kernel
theorem dX4_family_133 : decode cX4_family 133 = .ok (.if_icmp .ne 12, 3) := by decide +kernel
theorem dX4_family_136 : decode cX4_family 136 = .ok (.iload 5, 2) := by decide +kernel
theorem dX4_family_138 : decode cX4_family 138 = .ok (.i2l, 1) := by decide +kernel
theorem dX4_family_139 : decode cX4_family 139 = .ok (.iload_n 3, 1) := by decide +kernel
theorem dX4_family_140 : decode cX4_family 140 = .ok (.i2l, 1) := by decide +kernel
theorem dX4_family_141 : decode cX4_family 141 = .ok (.lmul, 1) := by decide +kernel
theorem dX4_family_142 : decode cX4_family 142 = .ok (.goto 5, 3) := by decide +kernel
theorem dX4_family_145 : decode cX4_family 145 = .ok (.iload_n 3, 1) := by decide +kernel
theorem dX4_family_146 : decode cX4_family 146 = .ok (.i2l, 1) := by decide +kernel
theorem dX4_family_147 : decode cX4_family 147 = .ok (.lastore, 1) := by decide +kernel
theorem dX4_family_148 : decode cX4_family 148 = .ok (.aload_n 0, 1) := by decide +kernel
theorem dX4_family_149 : decode cX4_family 149 = .ok (.getfield 54, 3) := by decide +kernel
theorem dX4_family_152 : decode cX4_family 152 = .ok (.iload 5, 2) := by decide +kernel
theorem dX4_family_154 : decode cX4_family 154 = .ok (.laload, 1) := by decide +kernel
theorem dX4_family_155 : decode cX4_family 155 = .ok (.ldc2_w 80, 3) := by decide +kernel
theorem dX4_family_158 : decode cX4_family 158 = .ok (.lcmp, 1) := by decide +kernel
theorem dX4_family_159 : decode cX4_family 159 = .ok (.ifCond .le 4, 3) := by decide +kernel
theorem dX4_family_162 : decode cX4_family 162 = .ok (.return_, 1) := by decide +kernel
theorem dX4_family_163 : decode cX4_family 163 = .ok (.iinc 5 1, 3) := by decide +kernel
theorem dX4_family_166 : decode cX4_family 166 = .ok (.goto (-99), 3) := by decide +kernel
theorem dX4_family_169 : decode cX4_family 169 = .ok (.aload_n 0, 1) := by decide +kernel
theorem dX4_family_170 : decode cX4_family 170 = .ok (.iconst 0, 1) := by decide +kernel
theorem dX4_family_171 : decode cX4_family 171 = .ok (.putfield 66, 3) := by decide +kernel
theorem dX4_family_174 : decode cX4_family 174 = .ok (.iconst 1, 1) := by decide +kernel
theorem dX4_family_175 : decode cX4_family 175 = .ok (.istore 5, 2) := by decide +kernel
theorem dX4_family_177 : decode cX4_family 177 = .ok (.iload 5, 2) := by decide +kernel
theorem dX4_family_179 : decode cX4_family 179 = .ok (.bipush 25, 2) := by decide +kernel
theorem dX4_family_181 : decode cX4_family 181 = .ok (.if_icmp .ge 80, 3) := by decide +kernel
theorem dX4_family_184 : decode cX4_family 184 = .ok (.aload_n 0, 1) := by decide +kernel
theorem dX4_family_185 : decode cX4_family 185 = .ok (.getfield 7, 3) := by decide +kernel
theorem dX4_family_188 : decode cX4_family 188 = .ok (.iload 5, 2) := by decide +kernel
theorem dX4_family_190 : decode cX4_family 190 = .ok (.iload 5, 2) := by decide +kernel
theorem dX4_family_192 : decode cX4_family 192 = .ok (.iload_n 2, 1) := by decide +kernel
theorem dX4_family_193 : decode cX4_family 193 = .ok (.if_icmp .le 7, 3) := by decide +kernel
theorem dX4_family_196 : decode cX4_family 196 = .ok (.iconst 0, 1) := by decide +kernel
theorem dX4_family_197 : decode cX4_family 197 = .ok (.goto 11, 3) := by decide +kernel
theorem dX4_family_200 : decode cX4_family 200 = .ok (.aload_n 0, 1) := by decide +kernel
theorem dX4_family_201 : decode cX4_family 201 = .ok (.getfield 54, 3) := by decide +kernel
theorem dX4_family_204 : decode cX4_family 204 = .ok (.iload 5, 2) := by decide +kernel
theorem dX4_family_206 : decode cX4_family 206 = .ok (.laload, 1) := by decide +kernel
theorem dX4_family_207 : decode cX4_family 207 = .ok (.l2i, 1) := by decide +kernel
theorem dX4_family_208 : decode cX4_family 208 = .ok (.iastore, 1) := by decide +kernel
theorem dX4_family_209 : decode cX4_family 209 = .ok (.aload_n 0, 1) := by decide +kernel
theorem dX4_family_210 : decode cX4_family 210 = .ok (.getfield 13, 3) := by decide +kernel
theorem dX4_family_213 : decode cX4_family 213 = .ok (.iload 5, 2) := by decide +kernel
theorem dX4_family_215 : decode cX4_family 215 = .ok (.iload 5, 2) := by decide +kernel
theorem dX4_family_217 : decode cX4_family 217 = .ok (.iload_n 2, 1) := by decide +kernel
theorem dX4_family_218 : decode cX4_family 218 = .ok (.if_icmp .le 7, 3) := by decide +kernel
theorem dX4_family_221 : decode cX4_family 221 = .ok (.iconst 0, 1) := by decide +kernel
theorem dX4_family_222 : decode cX4_family 222 = .ok (.goto 9, 3) := by decide +kernel
theorem dX4_family_225 : decode cX4_family 225 = .ok (.iload_n 1, 1) := by decide +kernel
theorem dX4_family_226 : decode cX4_family 226 = .ok (.iload 5, 2) := by decide +kernel
theorem dX4_family_228 : decode cX4_family 228 = .ok (.invokestatic 82, 3) := by decide +kernel
theorem dX4_family_231 : decode cX4_family 231 = .ok (.iastore, 1) := by decide +kernel
theorem dX4_family_232 : decode cX4_family 232 = .ok (.aload_n 0, 1) := by decide +kernel
theorem dX4_family_233 : decode cX4_family 233 = .ok (.getfield 16, 3) := by decide +kernel
theorem dX4_family_236 : decode cX4_family 236 = .ok (.iload 5, 2) := by decide +kernel
theorem dX4_family_238 : decode cX4_family 238 = .ok (.iload 5, 2) := by decide +kernel
theorem dX4_family_240 : decode cX4_family 240 = .ok (.iload_n 2, 1) := by decide +kernel
theorem dX4_family_241 : decode cX4_family 241 = .ok (.if_icmp .le 7, 3) := by decide +kernel
theorem dX4_family_244 : decode cX4_family 244 = .ok (.iconst 0, 1) := by decide +kernel
theorem dX4_family_245 : decode cX4_family 245 = .ok (.goto 9, 3) := by decide +kernel
theorem dX4_family_248 : decode cX4_family 248 = .ok (.iload_n 1, 1) := by decide +kernel
theorem dX4_family_249 : decode cX4_family 249 = .ok (.iload 5, 2) := by decide +kernel
theorem dX4_family_251 : decode cX4_family 251 = .ok (.invokestatic 86, 3) := by decide +kernel
theorem dX4_family_254 : decode cX4_family 254 = .ok (.iastore, 1) := by decide +kernel
theorem dX4_family_255 : decode cX4_family 255 = .ok (.iinc 5 1, 3) := by decide +kernel
theorem dX4_family_258 : decode cX4_family 258 = .ok (.goto (-81), 3) := by decide +kernel
theorem dX4_family_261 : decode cX4_family 261 = .ok (.return_, 1) := by decide +kernel
theorem dX4_isBad_0 : decode cX4_isBad 0 = .ok (.aload_n 0, 1) := by decide +kernel
theorem dX4_isBad_1 : decode cX4_isBad 1 = .ok (.getfield 7, 3) := by decide +kernel
theorem dX4_isBad_4 : decode cX4_isBad 4 = .ok (.iload_n 1, 1) := by decide +kernel
theorem dX4_isBad_5 : decode cX4_isBad 5 = .ok (.iaload, 1) := by decide +kernel
theorem dX4_isBad_6 : decode cX4_isBad 6 = .ok (.i2l, 1) := by decide +kernel
theorem dX4_isBad_7 : decode cX4_isBad 7 = .ok (.ldc2_w 78, 3) := by decide +kernel
theorem dX4_isBad_10 : decode cX4_isBad 10 = .ok (.ldc2_w 80, 3) := by decide +kernel
theorem dX4_isBad_13 : decode cX4_isBad 13 = .ok (.invokestatic 72, 3) := by decide +kernel
theorem dX4_isBad_16 : decode cX4_isBad 16 = .ok (.ifCond .ne 5, 3) := by decide +kernel
theorem dX4_isBad_19 : decode cX4_isBad 19 = .ok (.iconst 1, 1) := by decide +kernel
theorem dX4_isBad_20 : decode cX4_isBad 20 = .ok (.ireturn, 1) := by decide +kernel
theorem dX4_isBad_21 : decode cX4_isBad 21 = .ok (.aload_n 0, 1) := by decide +kernel
theorem dX4_isBad_22 : decode cX4_isBad 22 = .ok (.getfield 13, 3) := by decide +kernel
theorem dX4_isBad_25 : decode cX4_isBad 25 = .ok (.iload_n 1, 1) := by decide +kernel
theorem dX4_isBad_26 : decode cX4_isBad 26 = .ok (.iaload, 1) := by decide +kernel
theorem dX4_isBad_27 : decode cX4_isBad 27 = .ok (.istore_n 2, 1) := by decide +kernel
theorem dX4_isBad_28 : decode cX4_isBad 28 = .ok (.aload_n 0, 1) := by decide +kernel
theorem dX4_isBad_29 : decode cX4_isBad 29 = .ok (.getfield 16, 3) := by decide +kernel
theorem dX4_isBad_32 : decode cX4_isBad 32 = .ok (.iload_n 1, 1) := by decide +kernel
theorem dX4_isBad_33 : decode cX4_isBad 33 = .ok (.iaload, 1) := by decide +kernel
theorem dX4_isBad_34 : decode cX4_isBad 34 = .ok (.istore_n 3, 1) := by decide +kernel
theorem dX4_isBad_35 : decode cX4_isBad 35 = .ok (.iload_n 2, 1) := by decide +kernel
theorem dX4_isBad_36 : decode cX4_isBad 36 = .ok (.ifCond .ne 13, 3) := by decide +kernel
theorem dX4_isBad_39 : decode cX4_isBad 39 = .ok (.iload_n 3, 1) := by decide +kernel
theorem dX4_isBad_40 : decode cX4_isBad 40 = .ok (.ifCond .eq 7, 3) := by decide +kernel
theorem dX4_isBad_43 : decode cX4_isBad 43 = .ok (.iconst 1, 1) := by decide +kernel
theorem dX4_isBad_44 : decode cX4_isBad 44 = .ok (.goto 4, 3) := by decide +kernel
theorem dX4_isBad_47 : decode cX4_isBad 47 = .ok (.iconst 0, 1) := by decide +kernel
theorem dX4_isBad_48 : decode cX4_isBad 48 = .ok (.ireturn, 1) := by decide +kernel
theorem dX4_isBad_49 : decode cX4_isBad 49 = .ok (.iload_n 2, 1) := by decide +kernel
theorem dX4_isBad_50 : decode cX4_isBad 50 = .ok (.i2l, 1) := by decide +kernel
theorem dX4_isBad_51 : decode cX4_isBad 51 = .ok (.lconst 1, 1) := by decide +kernel
theorem dX4_isBad_52 : decode cX4_isBad 52 = .ok (.ldc2_w 70, 3) := by decide +kernel
theorem dX4_isBad_55 : decode cX4_isBad 55 = .ok (.invokestatic 72, 3) := by decide +kernel
theorem dX4_isBad_58 : decode cX4_isBad 58 = .ok (.ifCond .eq 15, 3) := by decide +kernel
theorem dX4_isBad_61 : decode cX4_isBad 61 = .ok (.iload_n 3, 1) := by decide +kernel
theorem dX4_isBad_62 : decode cX4_isBad 62 = .ok (.i2l, 1) := by decide +kernel
theorem dX4_isBad_63 : decode cX4_isBad 63 = .ok (.lconst 1, 1) := by decide +kernel
theorem dX4_isBad_64 : decode cX4_isBad 64 = .ok (.ldc2_w 70, 3) := by decide +kernel
theorem dX4_isBad_67 : decode cX4_isBad 67 = .ok (.invokestatic 72, 3) := by decide +kernel
theorem dX4_isBad_70 : decode cX4_isBad 70 = .ok (.ifCond .ne 5, 3) := by decide +kernel
theorem dX4_isBad_73 : decode cX4_isBad 73 = .ok (.iconst 1, 1) := by decide +kernel
theorem dX4_isBad_74 : decode cX4_isBad 74 = .ok (.ireturn, 1) := by decide +kernel
theorem dX4_isBad_75 : decode cX4_isBad 75 = .ok (.aload_n 0, 1) := by decide +kernel
theorem dX4_isBad_76 : decode cX4_isBad 76 = .ok (.getfield 7, 3) := by decide +kernel
theorem dX4_isBad_79 : decode cX4_isBad 79 = .ok (.iload_n 2, 1) := by decide +kernel
theorem dX4_isBad_80 : decode cX4_isBad 80 = .ok (.iaload, 1) := by decide +kernel
theorem dX4_isBad_81 : decode cX4_isBad 81 = .ok (.aload_n 0, 1) := by decide +kernel
theorem dX4_isBad_82 : decode cX4_isBad 82 = .ok (.getfield 7, 3) := by decide +kernel
theorem dX4_isBad_85 : decode cX4_isBad 85 = .ok (.iload_n 1, 1) := by decide +kernel
theorem dX4_isBad_86 : decode cX4_isBad 86 = .ok (.iaload, 1) := by decide +kernel
theorem dX4_isBad_87 : decode cX4_isBad 87 = .ok (.if_icmp .ge 18, 3) := by decide +kernel
theorem dX4_isBad_90 : decode cX4_isBad 90 = .ok (.aload_n 0, 1) := by decide +kernel
theorem dX4_isBad_91 : decode cX4_isBad 91 = .ok (.getfield 7, 3) := by decide +kernel
theorem dX4_isBad_94 : decode cX4_isBad 94 = .ok (.iload_n 3, 1) := by decide +kernel
theorem dX4_isBad_95 : decode cX4_isBad 95 = .ok (.iaload, 1) := by decide +kernel
theorem dX4_isBad_96 : decode cX4_isBad 96 = .ok (.aload_n 0, 1) := by decide +kernel
theorem dX4_isBad_97 : decode cX4_isBad 97 = .ok (.getfield 7, 3) := by decide +kernel
theorem dX4_isBad_100 : decode cX4_isBad 100 = .ok (.iload_n 1, 1) := by decide +kernel
theorem dX4_isBad_101 : decode cX4_isBad 101 = .ok (.iaload, 1) := by decide +kernel
theorem dX4_isBad_102 : decode cX4_isBad 102 = .ok (.if_icmp .lt 5, 3) := by decide +kernel
theorem dX4_isBad_105 : decode cX4_isBad 105 = .ok (.iconst 1, 1) := by decide +kernel
theorem dX4_isBad_106 : decode cX4_isBad 106 = .ok (.ireturn, 1) := by decide +kernel
theorem dX4_isBad_107 : decode cX4_isBad 107 = .ok (.aload_n 0, 1) := by decide +kernel
theorem dX4_isBad_108 : decode cX4_isBad 108 = .ok (.getfield 7, 3) := by decide +kernel
theorem dX4_isBad_111 : decode cX4_isBad 111 = .ok (.iload_n 2, 1) := by decide +kernel
theorem dX4_isBad_112 : decode cX4_isBad 112 = .ok (.iaload, 1) := by decide +kernel
theorem dX4_isBad_113 : decode cX4_isBad 113 = .ok (.i2l, 1) := by decide +kernel
theorem dX4_isBad_114 : decode cX4_isBad 114 = .ok (.aload_n 0, 1) := by decide +kernel
theorem dX4_isBad_115 : decode cX4_isBad 115 = .ok (.getfield 7, 3) := by decide +kernel
theorem dX4_isBad_118 : decode cX4_isBad 118 = .ok (.iload_n 3, 1) := by decide +kernel
theorem dX4_isBad_119 : decode cX4_isBad 119 = .ok (.iaload, 1) := by decide +kernel
theorem dX4_isBad_120 : decode cX4_isBad 120 = .ok (.i2l, 1) := by decide +kernel
theorem dX4_isBad_121 : decode cX4_isBad 121 = .ok (.ladd, 1) := by decide +kernel
theorem dX4_isBad_122 : decode cX4_isBad 122 = .ok (.aload_n 0, 1) := by decide +kernel
theorem dX4_isBad_123 : decode cX4_isBad 123 = .ok (.getfield 7, 3) := by decide +kernel
theorem dX4_isBad_126 : decode cX4_isBad 126 = .ok (.iload_n 1, 1) := by decide +kernel
theorem dX4_isBad_127 : decode cX4_isBad 127 = .ok (.iaload, 1) := by decide +kernel
theorem dX4_isBad_128 : decode cX4_isBad 128 = .ok (.i2l, 1) := by decide +kernel
theorem dX4_isBad_129 : decode cX4_isBad 129 = .ok (.lcmp, 1) := by decide +kernel
theorem dX4_isBad_130 : decode cX4_isBad 130 = .ok (.ifCond .eq 7, 3) := by decide +kernel
theorem dX4_isBad_133 : decode cX4_isBad 133 = .ok (.iconst 1, 1) := by decide +kernel
theorem dX4_isBad_134 : decode cX4_isBad 134 = .ok (.goto 4, 3) := by decide +kernel
theorem dX4_isBad_137 : decode cX4_isBad 137 = .ok (.iconst 0, 1) := by decide +kernel
theorem dX4_isBad_138 : decode cX4_isBad 138 = .ok (.ireturn, 1) := by decide +kernel
theorem dX4_build_0 : decode cX4_build 0 = .ok (.aload_n 0, 1) := by decide +kernel
theorem dX4_build_1 : decode cX4_build 1 = .ok (.iload_n 1, 1) := by decide +kernel
theorem dX4_build_2 : decode cX4_build 2 = .ok (.i2l, 1) := by decide +kernel
theorem dX4_build_3 : decode cX4_build 3 = .ok (.lconst 1, 1) := by decide +kernel
theorem dX4_build_4 : decode cX4_build 4 = .ok (.ldc2_w 70, 3) := by decide +kernel
theorem dX4_build_7 : decode cX4_build 7 = .ok (.invokestatic 72, 3) := by decide +kernel
theorem dX4_build_10 : decode cX4_build 10 = .ok (.ifCond .eq 7, 3) := by decide +kernel
theorem dX4_build_13 : decode cX4_build 13 = .ok (.iconst 0, 1) := by decide +kernel
theorem dX4_build_14 : decode cX4_build 14 = .ok (.goto 4, 3) := by decide +kernel
theorem dX4_build_17 : decode cX4_build 17 = .ok (.iconst 1, 1) := by decide +kernel
theorem dX4_build_18 : decode cX4_build 18 = .ok (.putfield 66, 3) := by decide +kernel
theorem dX4_build_21 : decode cX4_build 21 = .ok (.aload_n 0, 1) := by decide +kernel
theorem dX4_build_22 : decode cX4_build 22 = .ok (.getfield 66, 3) := by decide +kernel
theorem dX4_build_25 : decode cX4_build 25 = .ok (.ifCond .le 5, 3) := by decide +kernel
theorem dX4_build_28 : decode cX4_build 28 = .ok (.iconst 0, 1) := by decide +kernel
theorem dX4_build_29 : decode cX4_build 29 = .ok (.ireturn, 1) := by decide +kernel
theorem dX4_build_30 : decode cX4_build 30 = .ok (.iconst 1, 1) := by decide +kernel
theorem dX4_build_31 : decode cX4_build 31 = .ok (.istore_n 2, 1) := by decide +kernel
theorem dX4_build_32 : decode cX4_build 32 = .ok (.iload_n 2, 1) := by decide +kernel
theorem dX4_build_33 : decode cX4_build 33 = .ok (.bipush 25, 2) := by decide +kernel
theorem dX4_build_35 : decode cX4_build 35 = .ok (.if_icmp .ge 25, 3) := by decide +kernel
theorem dX4_build_38 : decode cX4_build 38 = .ok (.aload_n 0, 1) := by decide +kernel
theorem dX4_build_39 : decode cX4_build 39 = .ok (.getfield 32, 3) := by decide +kernel
theorem dX4_build_42 : decode cX4_build 42 = .ok (.iload_n 2, 1) := by decide +kernel
theorem dX4_build_43 : decode cX4_build 43 = .ok (.iload_n 2, 1) := by decide +kernel
theorem dX4_build_44 : decode cX4_build 44 = .ok (.iload_n 1, 1) := by decide +kernel
theorem dX4_build_45 : decode cX4_build 45 = .ok (.if_icmp .ne 7, 3) := by decide +kernel
theorem dX4_build_48 : decode cX4_build 48 = .ok (.iconst 1, 1) := by decide +kernel
theorem dX4_build_49 : decode cX4_build 49 = .ok (.goto 4, 3) := by decide +kernel
theorem dX4_build_52 : decode cX4_build 52 = .ok (.iconst 0, 1) := by decide +kernel
theorem dX4_build_53 : decode cX4_build 53 = .ok (.bastore, 1) := by decide +kernel
theorem dX4_build_54 : decode cX4_build 54 = .ok (.iinc 2 1, 3) := by decide +kernel
theorem dX4_build_57 : decode cX4_build 57 = .ok (.goto (-25), 3) := by decide +kernel
theorem dX4_build_60 : decode cX4_build 60 = .ok (.iconst 1, 1) := by decide +kernel
theorem dX4_build_61 : decode cX4_build 61 = .ok (.istore_n 2, 1) := by decide +kernel
theorem dX4_build_62 : decode cX4_build 62 = .ok (.iload_n 2, 1) := by decide +kernel
theorem dX4_build_63 : decode cX4_build 63 = .ok (.ifCond .eq 113, 3) := by decide +kernel
theorem dX4_build_66 : decode cX4_build 66 = .ok (.iconst 0, 1) := by decide +kernel
theorem dX4_build_67 : decode cX4_build 67 = .ok (.istore_n 2, 1) := by decide +kernel
theorem dX4_build_68 : decode cX4_build 68 = .ok (.iconst 1, 1) := by decide +kernel
theorem dX4_build_69 : decode cX4_build 69 = .ok (.istore_n 3, 1) := by decide +kernel
theorem dX4_build_70 : decode cX4_build 70 = .ok (.iload_n 3, 1) := by decide +kernel
theorem dX4_build_71 : decode cX4_build 71 = .ok (.bipush 25, 2) := by decide +kernel
theorem dX4_build_73 : decode cX4_build 73 = .ok (.if_icmp .ge 100, 3) := by decide +kernel
theorem dX4_build_76 : decode cX4_build 76 = .ok (.aload_n 0, 1) := by decide +kernel
theorem dX4_build_77 : decode cX4_build 77 = .ok (.getfield 32, 3) := by decide +kernel
theorem dX4_build_80 : decode cX4_build 80 = .ok (.iload_n 3, 1) := by decide +kernel
theorem dX4_build_81 : decode cX4_build 81 = .ok (.baload, 1) := by decide +kernel
theorem dX4_build_82 : decode cX4_build 82 = .ok (.ifCond .eq 85, 3) := by decide +kernel
theorem dX4_build_85 : decode cX4_build 85 = .ok (.aload_n 0, 1) := by decide +kernel
theorem dX4_build_86 : decode cX4_build 86 = .ok (.iload_n 3, 1) := by decide +kernel
theorem dX4_build_87 : decode cX4_build 87 = .ok (.invokevirtual 89, 3) := by decide +kernel
theorem dX4_build_90 : decode cX4_build 90 = .ok (.ifCond .ne 77, 3) := by decide +kernel
theorem dX4_build_93 : decode cX4_build 93 = .ok (.aload_n 0, 1) := by decide +kernel
theorem dX4_build_94 : decode cX4_build 94 = .ok (.getfield 13, 3) := by decide +kernel
theorem dX4_build_97 : decode cX4_build 97 = .ok (.iload_n 3, 1) := by decide +kernel
theorem dX4_build_98 : decode cX4_build 98 = .ok (.iaload, 1) := by decide +kernel
theorem dX4_build_99 : decode cX4_build 99 = .ok (.ifCond .ne 6, 3) := by decide +kernel
theorem dX4_build_102 : decode cX4_build 102 = .ok (.goto 65, 3) := by decide +kernel
theorem dX4_build_105 : decode cX4_build 105 = .ok (.iload_n 2, 1) := by decide +kernel
theorem dX4_build_106 : decode cX4_build 106 = .ok (.ifCond .ne 31, 3) := by decide +kernel
theorem dX4_build_109 : decode cX4_build 109 = .ok (.aload_n 0, 1) := by decide +kernel
theorem dX4_build_110 : decode cX4_build 110 = .ok (.getfield 32, 3) := by decide +kernel
theorem dX4_build_113 : decode cX4_build 113 = .ok (.aload_n 0, 1) := by decide +kernel
theorem dX4_build_114 : decode cX4_build 114 = .ok (.getfield 13, 3) := by decide +kernel
theorem dX4_build_117 : decode cX4_build 117 = .ok (.iload_n 3, 1) := by decide +kernel
theorem dX4_build_118 : decode cX4_build 118 = .ok (.iaload, 1) := by decide +kernel
theorem dX4_build_119 : decode cX4_build 119 = .ok (.baload, 1) := by decide +kernel
theorem dX4_build_120 : decode cX4_build 120 = .ok (.ifCond .eq 17, 3) := by decide +kernel
theorem dX4_build_123 : decode cX4_build 123 = .ok (.aload_n 0, 1) := by decide +kernel
theorem dX4_build_124 : decode cX4_build 124 = .ok (.getfield 32, 3) := by decide +kernel
theorem dX4_build_127 : decode cX4_build 127 = .ok (.aload_n 0, 1) := by decide +kernel
theorem dX4_build_128 : decode cX4_build 128 = .ok (.getfield 16, 3) := by decide +kernel
theorem dX4_build_131 : decode cX4_build 131 = .ok (.iload_n 3, 1) := by decide +kernel
theorem dX4_build_132 : decode cX4_build 132 = .ok (.iaload, 1) := by decide +kernel
theorem dX4_build_133 : decode cX4_build 133 = .ok (.baload, 1) := by decide +kernel
theorem dX4_build_134 : decode cX4_build 134 = .ok (.ifCond .ne 7, 3) := by decide +kernel
theorem dX4_build_137 : decode cX4_build 137 = .ok (.iconst 1, 1) := by decide +kernel
theorem dX4_build_138 : decode cX4_build 138 = .ok (.goto 4, 3) := by decide +kernel
theorem dX4_build_141 : decode cX4_build 141 = .ok (.iconst 0, 1) := by decide +kernel
theorem dX4_build_142 : decode cX4_build 142 = .ok (.istore_n 2, 1) := by decide +kernel
theorem dX4_build_143 : decode cX4_build 143 = .ok (.aload_n 0, 1) := by decide +kernel
theorem dX4_build_144 : decode cX4_build 144 = .ok (.getfield 32, 3) := by decide +kernel
theorem dX4_build_147 : decode cX4_build 147 = .ok (.aload_n 0, 1) := by decide +kernel
theorem dX4_build_148 : decode cX4_build 148 = .ok (.getfield 13, 3) := by decide +kernel
theorem dX4_build_151 : decode cX4_build 151 = .ok (.iload_n 3, 1) := by decide +kernel
theorem dX4_build_152 : decode cX4_build 152 = .ok (.iaload, 1) := by decide +kernel
theorem dX4_build_153 : decode cX4_build 153 = .ok (.iconst 1, 1) := by decide +kernel
theorem dX4_build_154 : decode cX4_build 154 = .ok (.bastore, 1) := by decide +kernel
theorem dX4_build_155 : decode cX4_build 155 = .ok (.aload_n 0, 1) := by decide +kernel
theorem dX4_build_156 : decode cX4_build 156 = .ok (.getfield 32, 3) := by decide +kernel
theorem dX4_build_159 : decode cX4_build 159 = .ok (.aload_n 0, 1) := by decide +kernel
theorem dX4_build_160 : decode cX4_build 160 = .ok (.getfield 16, 3) := by decide +kernel
theorem dX4_build_163 : decode cX4_build 163 = .ok (.iload_n 3, 1) := by decide +kernel
theorem dX4_build_164 : decode cX4_build 164 = .ok (.iaload, 1) := by decide +kernel
theorem dX4_build_165 : decode cX4_build 165 = .ok (.iconst 1, 1) := by decide +kernel
theorem dX4_build_166 : decode cX4_build 166 = .ok (.bastore, 1) := by decide +kernel
theorem dX4_build_167 : decode cX4_build 167 = .ok (.iinc 3 1, 3) := by decide +kernel
theorem dX4_build_170 : decode cX4_build 170 = .ok (.goto (-100), 3) := by decide +kernel
theorem dX4_build_173 : decode cX4_build 173 = .ok (.goto (-111), 3) := by decide +kernel
theorem dX4_build_176 : decode cX4_build 176 = .ok (.iconst 0, 1) := by decide +kernel
theorem dX4_build_177 : decode cX4_build 177 = .ok (.istore_n 3, 1) := by decide +kernel
theorem dX4_build_178 : decode cX4_build 178 = .ok (.iconst 1, 1) := by decide +kernel
theorem dX4_build_179 : decode cX4_build 179 = .ok (.istore 4, 2) := by decide +kernel
theorem dX4_build_181 : decode cX4_build 181 = .ok (.iload 4, 2) := by decide +kernel
theorem dX4_build_183 : decode cX4_build 183 = .ok (.bipush 25, 2) := by decide +kernel
theorem dX4_build_185 : decode cX4_build 185 = .ok (.if_icmp .ge 38, 3) := by decide +kernel
theorem dX4_build_188 : decode cX4_build 188 = .ok (.aload_n 0, 1) := by decide +kernel
theorem dX4_build_189 : decode cX4_build 189 = .ok (.getfield 32, 3) := by decide +kernel
theorem dX4_build_192 : decode cX4_build 192 = .ok (.iload 4, 2) := by decide +kernel
theorem dX4_build_194 : decode cX4_build 194 = .ok (.baload, 1) := by decide +kernel
theorem dX4_build_195 : decode cX4_build 195 = .ok (.ifCond .ne 6, 3) := by decide +kernel
theorem dX4_build_198 : decode cX4_build 198 = .ok (.goto 19, 3) := by decide +kernel
theorem dX4_build_201 : decode cX4_build 201 = .ok (.aload_n 0, 1) := by decide +kernel
theorem dX4_build_202 : decode cX4_build 202 = .ok (.iload 4, 2) := by decide +kernel
theorem dX4_build_204 : decode cX4_build 204 = .ok (.invokevirtual 89, 3) := by decide +kernel
theorem dX4_build_207 : decode cX4_build 207 = .ok (.ifCond .eq 7, 3) := by decide +kernel
theorem dX4_build_210 : decode cX4_build 210 = .ok (.iload 4, 2) := by decide +kernel
theorem dX4_build_212 : decode cX4_build 212 = .ok (.ineg, 1) := by decide +kernel
theorem dX4_build_213 : decode cX4_build 213 = .ok (.ireturn, 1) := by decide +kernel
theorem dX4_build_214 : decode cX4_build 214 = .ok (.iinc 3 1, 3) := by decide +kernel
theorem dX4_build_217 : decode cX4_build 217 = .ok (.iinc 4 1, 3) := by decide +kernel
theorem dX4_build_220 : decode cX4_build 220 = .ok (.goto (-39), 3) := by decide +kernel
theorem dX4_build_223 : decode cX4_build 223 = .ok (.aload_n 0, 1) := by decide +kernel
theorem dX4_build_224 : decode cX4_build 224 = .ok (.iload_n 1, 1) := by decide +kernel
theorem dX4_build_225 : decode cX4_build 225 = .ok (.putfield 93, 3) := by decide +kernel
theorem dX4_build_228 : decode cX4_build 228 = .ok (.iconst 1, 1) := by decide +kernel
theorem dX4_build_229 : decode cX4_build 229 = .ok (.istore 4, 2) := by decide +kernel
theorem dX4_build_231 : decode cX4_build 231 = .ok (.iload 4, 2) := by decide +kernel
theorem dX4_build_233 : decode cX4_build 233 = .ok (.bipush 25, 2) := by decide +kernel
theorem dX4_build_235 : decode cX4_build 235 = .ok (.if_icmp .ge 73, 3) := by decide +kernel
theorem dX4_build_238 : decode cX4_build 238 = .ok (.aload_n 0, 1) := by decide +kernel
theorem dX4_build_239 : decode cX4_build 239 = .ok (.getfield 19, 3) := by decide +kernel
theorem dX4_build_242 : decode cX4_build 242 = .ok (.iload 4, 2) := by decide +kernel
theorem dX4_build_244 : decode cX4_build 244 = .ok (.aload_n 0, 1) := by decide +kernel
theorem dX4_build_245 : decode cX4_build 245 = .ok (.getfield 7, 3) := by decide +kernel
theorem dX4_build_248 : decode cX4_build 248 = .ok (.iload 4, 2) := by decide +kernel
theorem dX4_build_250 : decode cX4_build 250 = .ok (.iaload, 1) := by decide +kernel
theorem dX4_build_251 : decode cX4_build 251 = .ok (.iastore, 1) := by decide +kernel
theorem dX4_build_252 : decode cX4_build 252 = .ok (.aload_n 0, 1) := by decide +kernel
theorem dX4_build_253 : decode cX4_build 253 = .ok (.getfield 22, 3) := by decide +kernel
theorem dX4_build_256 : decode cX4_build 256 = .ok (.iload 4, 2) := by decide +kernel
theorem dX4_build_258 : decode cX4_build 258 = .ok (.aload_n 0, 1) := by decide +kernel
theorem dX4_build_259 : decode cX4_build 259 = .ok (.getfield 13, 3) := by decide +kernel
theorem dX4_build_262 : decode cX4_build 262 = .ok (.iload 4, 2) := by decide +kernel
theorem dX4_build_264 : decode cX4_build 264 = .ok (.iaload, 1) := by decide +kernel
theorem dX4_build_265 : decode cX4_build 265 = .ok (.iastore, 1) := by decide +kernel
theorem dX4_build_266 : decode cX4_build 266 = .ok (.aload_n 0, 1) := by decide +kernel
theorem dX4_build_267 : decode cX4_build 267 = .ok (.getfield 25, 3) := by decide +kernel
theorem dX4_build_270 : decode cX4_build 270 = .ok (.iload 4, 2) := by decide +kernel
theorem dX4_build_272 : decode cX4_build 272 = .ok (.aload_n 0, 1) := by decide +kernel
theorem dX4_build_273 : decode cX4_build 273 = .ok (.getfield 16, 3) := by decide +kernel
theorem dX4_build_276 : decode cX4_build 276 = .ok (.iload 4, 2) := by decide +kernel
theorem dX4_build_278 : decode cX4_build 278 = .ok (.iaload, 1) := by decide +kernel
theorem dX4_build_279 : decode cX4_build 279 = .ok (.iastore, 1) := by decide +kernel
theorem dX4_build_280 : decode cX4_build 280 = .ok (.aload_n 0, 1) := by decide +kernel
theorem dX4_build_281 : decode cX4_build 281 = .ok (.getfield 28, 3) := by decide +kernel
theorem dX4_build_284 : decode cX4_build 284 = .ok (.iload 4, 2) := by decide +kernel
theorem dX4_build_286 : decode cX4_build 286 = .ok (.aload_n 0, 1) := by decide +kernel
theorem dX4_build_287 : decode cX4_build 287 = .ok (.getfield 32, 3) := by decide +kernel
theorem dX4_build_290 : decode cX4_build 290 = .ok (.iload 4, 2) := by decide +kernel
theorem dX4_build_292 : decode cX4_build 292 = .ok (.baload, 1) := by decide +kernel
theorem dX4_build_293 : decode cX4_build 293 = .ok (.bastore, 1) := by decide +kernel
theorem dX4_build_294 : decode cX4_build 294 = .ok (.aload_n 0, 1) := by decide +kernel
theorem dX4_build_295 : decode cX4_build 295 = .ok (.getfield 35, 3) := by decide +kernel
theorem dX4_build_298 : decode cX4_build 298 = .ok (.iload 4, 2) := by decide +kernel
theorem dX4_build_300 : decode cX4_build 300 = .ok (.iconst 0, 1) := by decide +kernel
theorem dX4_build_301 : decode cX4_build 301 = .ok (.iastore, 1) := by decide +kernel
theorem dX4_build_302 : decode cX4_build 302 = .ok (.iinc 4 1, 3) := by decide +kernel
theorem dX4_build_305 : decode cX4_build 305 = .ok (.goto (-74), 3) := by decide +kernel
theorem dX4_build_308 : decode cX4_build 308 = .ok (.aload_n 0, 1) := by decide +kernel
theorem dX4_build_309 : decode cX4_build 309 = .ok (.iconst 1, 1) := by decide +kernel
theorem dX4_build_310 : decode cX4_build 310 = .ok (.putfield 96, 3) := by decide +kernel
theorem dX4_build_313 : decode cX4_build 313 = .ok (.aload_n 0, 1) := by decide +kernel
theorem dX4_build_314 : decode cX4_build 314 = .ok (.getfield 38, 3) := by decide +kernel
theorem dX4_build_317 : decode cX4_build 317 = .ok (.iconst 0, 1) := by decide +kernel
theorem dX4_build_318 : decode cX4_build 318 = .ok (.iconst 0, 1) := by decide +kernel
theorem dX4_build_319 : decode cX4_build 319 = .ok (.iconst 0, 1) := by decide +kernel
theorem dX4_build_320 : decode cX4_build 320 = .ok (.iload_n 1, 1) := by decide +kernel
theorem dX4_build_321 : decode cX4_build 321 = .ok (.iconst 0, 1) := by decide +kernel
theorem dX4_build_322 : decode cX4_build 322 = .ok (.iconst 0, 1) := by decide +kernel
theorem dX4_build_323 : decode cX4_build 323 = .ok (.invokestatic 99, 3) := by decide +kernel
theorem dX4_build_326 : decode cX4_build 326 = .ok (.lastore, 1) := by decide +kernel
theorem dX4_build_327 : decode cX4_build 327 = .ok (.aload_n 0, 1) := by decide +kernel
theorem dX4_build_328 : decode cX4_build 328 = .ok (.iconst 0, 1) := by decide +kernel
theorem dX4_build_329 : decode cX4_build 329 = .ok (.putfield 103, 3) := by decide +kernel
theorem dX4_build_332 : decode cX4_build 332 = .ok (.aload_n 0, 1) := by decide +kernel
theorem dX4_build_333 : decode cX4_build 333 = .ok (.iconst 0, 1) := by decide +kernel
theorem dX4_build_334 : decode cX4_build 334 = .ok (.putfield 106, 3) := by decide +kernel
theorem dX4_build_337 : decode cX4_build 337 = .ok (.aload_n 0, 1) := by decide +kernel
theorem dX4_build_338 : decode cX4_build 338 = .ok (.iconst 0, 1) := by decide +kernel
theorem dX4_build_339 : decode cX4_build 339 = .ok (.putfield 109, 3) := by decide +kernel
theorem dX4_build_342 : decode cX4_build 342 = .ok (.iload_n 3, 1) := by decide +kernel
theorem dX4_build_343 : decode cX4_build 343 = .ok (.ireturn, 1) := by decide +kernel
theorem dX4_nodeOf_0 : decode cX4_nodeOf 0 = .ok (.iload_n 0, 1) := by decide +kernel
theorem dX4_nodeOf_1 : decode cX4_nodeOf 1 = .ok (.i2l, 1) := by decide +kernel
theorem dX4_nodeOf_2 : decode cX4_nodeOf 2 = .ok (.bipush 36, 2) := by decide +kernel
theorem dX4_nodeOf_4 : decode cX4_nodeOf 4 = .ok (.lshl, 1) := by decide +kernel
theorem dX4_nodeOf_5 : decode cX4_nodeOf 5 = .ok (.iload_n 1, 1) := by decide +kernel
theorem dX4_nodeOf_6 : decode cX4_nodeOf 6 = .ok (.i2l, 1) := by decide +kernel
theorem dX4_nodeOf_7 : decode cX4_nodeOf 7 = .ok (.bipush 35, 2) := by decide +kernel
theorem dX4_nodeOf_9 : decode cX4_nodeOf 9 = .ok (.lshl, 1) := by decide +kernel
theorem dX4_nodeOf_10 : decode cX4_nodeOf 10 = .ok (.lor, 1) := by decide +kernel
theorem dX4_nodeOf_11 : decode cX4_nodeOf 11 = .ok (.iload_n 2, 1) := by decide +kernel
theorem dX4_nodeOf_12 : decode cX4_nodeOf 12 = .ok (.i2l, 1) := by decide +kernel
theorem dX4_nodeOf_13 : decode cX4_nodeOf 13 = .ok (.bipush 30, 2) := by decide +kernel
theorem dX4_nodeOf_15 : decode cX4_nodeOf 15 = .ok (.lshl, 1) := by decide +kernel
theorem dX4_nodeOf_16 : decode cX4_nodeOf 16 = .ok (.lor, 1) := by decide +kernel
theorem dX4_nodeOf_17 : decode cX4_nodeOf 17 = .ok (.iload_n 3, 1) := by decide +kernel
theorem dX4_nodeOf_18 : decode cX4_nodeOf 18 = .ok (.i2l, 1) := by decide +kernel
theorem dX4_nodeOf_19 : decode cX4_nodeOf 19 = .ok (.bipush 25, 2) := by decide +kernel
theorem dX4_nodeOf_21 : decode cX4_nodeOf 21 = .ok (.lshl, 1) := by decide +kernel
theorem dX4_nodeOf_22 : decode cX4_nodeOf 22 = .ok (.lor, 1) := by decide +kernel
theorem dX4_nodeOf_23 : decode cX4_nodeOf 23 = .ok (.iload 4, 2) := by decide +kernel
theorem dX4_nodeOf_25 : decode cX4_nodeOf 25 = .ok (.i2l, 1) := by decide +kernel
theorem dX4_nodeOf_26 : decode cX4_nodeOf 26 = .ok (.lor, 1) := by decide +kernel
theorem dX4_nodeOf_27 : decode cX4_nodeOf 27 = .ok (.lreturn, 1) := by decide +kernel
theorem dX4_address_0 : decode cX4_address 0 = .ok (.aload_n 0, 1) := by decide +kernel
theorem dX4_address_1 : decode cX4_address 1 = .ok (.getfield 38, 3) := by decide +kernel
theorem dX4_address_4 : decode cX4_address 4 = .ok (.iload_n 1, 1) := by decide +kernel
theorem dX4_address_5 : decode cX4_address 5 = .ok (.laload, 1) := by decide +kernel
theorem dX4_address_6 : decode cX4_address 6 = .ok (.bipush 36, 2) := by decide +kernel
theorem dX4_address_8 : decode cX4_address 8 = .ok (.lshr, 1) := by decide +kernel
theorem dX4_address_9 : decode cX4_address 9 = .ok (.l2i, 1) := by decide +kernel
theorem dX4_address_10 : decode cX4_address 10 = .ok (.ireturn, 1) := by decide +kernel
theorem dX4_isLive_0 : decode cX4_isLive 0 = .ok (.aload_n 0, 1) := by decide +kernel
theorem dX4_isLive_1 : decode cX4_isLive 1 = .ok (.getfield 38, 3) := by decide +kernel
theorem dX4_isLive_4 : decode cX4_isLive 4 = .ok (.iload_n 1, 1) := by decide +kernel
theorem dX4_isLive_5 : decode cX4_isLive 5 = .ok (.laload, 1) := by decide +kernel
theorem dX4_isLive_6 : decode cX4_isLive 6 = .ok (.bipush 35, 2) := by decide +kernel
theorem dX4_isLive_8 : decode cX4_isLive 8 = .ok (.lshr, 1) := by decide +kernel
theorem dX4_isLive_9 : decode cX4_isLive 9 = .ok (.lconst 1, 1) := by decide +kernel
theorem dX4_isLive_10 : decode cX4_isLive 10 = .ok (.land, 1) := by decide +kernel
theorem dX4_isLive_11 : decode cX4_isLive 11 = .ok (.lconst 1, 1) := by decide +kernel
theorem dX4_isLive_12 : decode cX4_isLive 12 = .ok (.lcmp, 1) := by decide +kernel
theorem dX4_isLive_13 : decode cX4_isLive 13 = .ok (.ifCond .ne 7, 3) := by decide +kernel
theorem dX4_isLive_16 : decode cX4_isLive 16 = .ok (.iconst 1, 1) := by decide +kernel
theorem dX4_isLive_17 : decode cX4_isLive 17 = .ok (.goto 4, 3) := by decide +kernel
theorem dX4_isLive_20 : decode cX4_isLive 20 = .ok (.iconst 0, 1) := by decide +kernel
theorem dX4_isLive_21 : decode cX4_isLive 21 = .ok (.ireturn, 1) := by decide +kernel
theorem dX4_classOf_0 : decode cX4_classOf 0 = .ok (.aload_n 0, 1) := by decide +kernel
theorem dX4_classOf_1 : decode cX4_classOf 1 = .ok (.getfield 38, 3) := by decide +kernel
theorem dX4_classOf_4 : decode cX4_classOf 4 = .ok (.iload_n 1, 1) := by decide +kernel
theorem dX4_classOf_5 : decode cX4_classOf 5 = .ok (.laload, 1) := by decide +kernel
theorem dX4_classOf_6 : decode cX4_classOf 6 = .ok (.bipush 30, 2) := by decide +kernel
theorem dX4_classOf_8 : decode cX4_classOf 8 = .ok (.lshr, 1) := by decide +kernel
theorem dX4_classOf_9 : decode cX4_classOf 9 = .ok (.ldc2_w 112, 3) := by decide +kernel
theorem dX4_classOf_12 : decode cX4_classOf 12 = .ok (.land, 1) := by decide +kernel
theorem dX4_classOf_13 : decode cX4_classOf 13 = .ok (.l2i, 1) := by decide +kernel
theorem dX4_classOf_14 : decode cX4_classOf 14 = .ok (.ireturn, 1) := by decide +kernel
theorem dX4_depth_0 : decode cX4_depth 0 = .ok (.aload_n 0, 1) := by decide +kernel
theorem dX4_depth_1 : decode cX4_depth 1 = .ok (.getfield 38, 3) := by decide +kernel
theorem dX4_depth_4 : decode cX4_depth 4 = .ok (.iload_n 1, 1) := by decide +kernel
theorem dX4_depth_5 : decode cX4_depth 5 = .ok (.laload, 1) := by decide +kernel
theorem dX4_depth_6 : decode cX4_depth 6 = .ok (.bipush 25, 2) := by decide +kernel
theorem dX4_depth_8 : decode cX4_depth 8 = .ok (.lshr, 1) := by decide +kernel
theorem dX4_depth_9 : decode cX4_depth 9 = .ok (.ldc2_w 112, 3) := by decide +kernel
theorem dX4_depth_12 : decode cX4_depth 12 = .ok (.land, 1) := by decide +kernel
theorem dX4_depth_13 : decode cX4_depth 13 = .ok (.l2i, 1) := by decide +kernel
theorem dX4_depth_14 : decode cX4_depth 14 = .ok (.ireturn, 1) := by decide +kernel
theorem dX4_sides_0 : decode cX4_sides 0 = .ok (.aload_n 0, 1) := by decide +kernel
theorem dX4_sides_1 : decode cX4_sides 1 = .ok (.getfield 38, 3) := by decide +kernel
theorem dX4_sides_4 : decode cX4_sides 4 = .ok (.iload_n 1, 1) := by decide +kernel
theorem dX4_sides_5 : decode cX4_sides 5 = .ok (.laload, 1) := by decide +kernel
theorem dX4_sides_6 : decode cX4_sides 6 = .ok (.ldc2_w 114, 3) := by decide +kernel
theorem dX4_sides_9 : decode cX4_sides 9 = .ok (.land, 1) := by decide +kernel
theorem dX4_sides_10 : decode cX4_sides 10 = .ok (.l2i, 1) := by decide +kernel
theorem dX4_sides_11 : decode cX4_sides 11 = .ok (.ireturn, 1) := by decide +kernel
theorem dX4_classAt_0 : decode cX4_classAt 0 = .ok (.aload_n 0, 1) := by decide +kernel
theorem dX4_classAt_1 : decode cX4_classAt 1 = .ok (.getfield 93, 3) := by decide +kernel
theorem dX4_classAt_4 : decode cX4_classAt 4 = .ok (.istore_n 3, 1) := by decide +kernel
theorem dX4_classAt_5 : decode cX4_classAt 5 = .ok (.iload_n 1, 1) := by decide +kernel
theorem dX4_classAt_6 : decode cX4_classAt 6 = .ok (.iconst 1, 1) := by decide +kernel
theorem dX4_classAt_7 : decode cX4_classAt 7 = .ok (.isub, 1) := by decide +kernel
theorem dX4_classAt_8 : decode cX4_classAt 8 = .ok (.istore 4, 2) := by decide +kernel
theorem dX4_classAt_10 : decode cX4_classAt 10 = .ok (.iload 4, 2) := by decide +kernel
theorem dX4_classAt_12 : decode cX4_classAt 12 = .ok (.ifCond .lt 34, 3) := by decide +kernel
theorem dX4_classAt_15 : decode cX4_classAt 15 = .ok (.iload_n 2, 1) := by decide +kernel
theorem dX4_classAt_16 : decode cX4_classAt 16 = .ok (.iload 4, 2) := by decide +kernel
theorem dX4_classAt_18 : decode cX4_classAt 18 = .ok (.ishr, 1) := by decide +kernel
theorem dX4_classAt_19 : decode cX4_classAt 19 = .ok (.iconst 1, 1) := by decide +kernel
theorem dX4_classAt_20 : decode cX4_classAt 20 = .ok (.iand, 1) := by decide +kernel
theorem dX4_classAt_21 : decode cX4_classAt 21 = .ok (.ifCond .ne 12, 3) := by decide +kernel
theorem dX4_classAt_24 : decode cX4_classAt 24 = .ok (.aload_n 0, 1) := by decide +kernel
theorem dX4_classAt_25 : decode cX4_classAt 25 = .ok (.getfield 22, 3) := by decide +kernel
theorem dX4_classAt_28 : decode cX4_classAt 28 = .ok (.iload_n 3, 1) := by decide +kernel
theorem dX4_classAt_29 : decode cX4_classAt 29 = .ok (.iaload, 1) := by decide +kernel
theorem dX4_classAt_30 : decode cX4_classAt 30 = .ok (.goto 9, 3) := by decide +kernel
theorem dX4_classAt_33 : decode cX4_classAt 33 = .ok (.aload_n 0, 1) := by decide +kernel
theorem dX4_classAt_34 : decode cX4_classAt 34 = .ok (.getfield 25, 3) := by decide +kernel
theorem dX4_classAt_37 : decode cX4_classAt 37 = .ok (.iload_n 3, 1) := by decide +kernel
theorem dX4_classAt_38 : decode cX4_classAt 38 = .ok (.iaload, 1) := by decide +kernel
theorem dX4_classAt_39 : decode cX4_classAt 39 = .ok (.istore_n 3, 1) := by decide +kernel
theorem dX4_classAt_40 : decode cX4_classAt 40 = .ok (.iinc 4 (-1), 3) := by decide +kernel
theorem dX4_classAt_43 : decode cX4_classAt 43 = .ok (.goto (-33), 3) := by decide +kernel
theorem dX4_classAt_46 : decode cX4_classAt 46 = .ok (.iload_n 3, 1) := by decide +kernel
theorem dX4_classAt_47 : decode cX4_classAt 47 = .ok (.ireturn, 1) := by decide +kernel
theorem dX4_isPair_0 : decode cX4_isPair 0 = .ok (.iload_n 1, 1) := by decide +kernel
theorem dX4_isPair_1 : decode cX4_isPair 1 = .ok (.ifCond .lt 67, 3) := by decide +kernel
theorem dX4_isPair_4 : decode cX4_isPair 4 = .ok (.iload_n 1, 1) := by decide +kernel
theorem dX4_isPair_5 : decode cX4_isPair 5 = .ok (.iconst 1, 1) := by decide +kernel
theorem dX4_isPair_6 : decode cX4_isPair 6 = .ok (.iadd, 1) := by decide +kernel
theorem dX4_isPair_7 : decode cX4_isPair 7 = .ok (.aload_n 0, 1) := by decide +kernel
theorem dX4_isPair_8 : decode cX4_isPair 8 = .ok (.getfield 96, 3) := by decide +kernel
theorem dX4_isPair_11 : decode cX4_isPair 11 = .ok (.if_icmp .ge 57, 3) := by decide +kernel
theorem dX4_isPair_14 : decode cX4_isPair 14 = .ok (.aload_n 0, 1) := by decide +kernel
theorem dX4_isPair_15 : decode cX4_isPair 15 = .ok (.iload_n 1, 1) := by decide +kernel
theorem dX4_isPair_16 : decode cX4_isPair 16 = .ok (.invokevirtual 116, 3) := by decide +kernel
theorem dX4_isPair_19 : decode cX4_isPair 19 = .ok (.ifCond .le 49, 3) := by decide +kernel
theorem dX4_isPair_22 : decode cX4_isPair 22 = .ok (.aload_n 0, 1) := by decide +kernel
theorem dX4_isPair_23 : decode cX4_isPair 23 = .ok (.iload_n 1, 1) := by decide +kernel
theorem dX4_isPair_24 : decode cX4_isPair 24 = .ok (.invokevirtual 116, 3) := by decide +kernel
theorem dX4_isPair_27 : decode cX4_isPair 27 = .ok (.aload_n 0, 1) := by decide +kernel
theorem dX4_isPair_28 : decode cX4_isPair 28 = .ok (.iload_n 1, 1) := by decide +kernel
theorem dX4_isPair_29 : decode cX4_isPair 29 = .ok (.iconst 1, 1) := by decide +kernel
theorem dX4_isPair_30 : decode cX4_isPair 30 = .ok (.iadd, 1) := by decide +kernel
theorem dX4_isPair_31 : decode cX4_isPair 31 = .ok (.invokevirtual 116, 3) := by decide +kernel
theorem dX4_isPair_34 : decode cX4_isPair 34 = .ok (.if_icmp .ne 34, 3) := by decide +kernel
theorem dX4_isPair_37 : decode cX4_isPair 37 = .ok (.aload_n 0, 1) := by decide +kernel
theorem dX4_isPair_38 : decode cX4_isPair 38 = .ok (.iload_n 1, 1) := by decide +kernel
theorem dX4_isPair_39 : decode cX4_isPair 39 = .ok (.invokevirtual 120, 3) := by decide +kernel
theorem dX4_isPair_42 : decode cX4_isPair 42 = .ok (.iconst 2, 1) := by decide +kernel
theorem dX4_isPair_43 : decode cX4_isPair 43 = .ok (.irem, 1) := by decide +kernel
theorem dX4_isPair_44 : decode cX4_isPair 44 = .ok (.ifCond .ne 24, 3) := by decide +kernel
theorem dX4_isPair_47 : decode cX4_isPair 47 = .ok (.aload_n 0, 1) := by decide +kernel
theorem dX4_isPair_48 : decode cX4_isPair 48 = .ok (.iload_n 1, 1) := by decide +kernel
theorem dX4_isPair_49 : decode cX4_isPair 49 = .ok (.invokevirtual 120, 3) := by decide +kernel
theorem dX4_isPair_52 : decode cX4_isPair 52 = .ok (.iconst 1, 1) := by decide +kernel
theorem dX4_isPair_53 : decode cX4_isPair 53 = .ok (.iadd, 1) := by decide +kernel
theorem dX4_isPair_54 : decode cX4_isPair 54 = .ok (.aload_n 0, 1) := by decide +kernel
theorem dX4_isPair_55 : decode cX4_isPair 55 = .ok (.iload_n 1, 1) := by decide +kernel
theorem dX4_isPair_56 : decode cX4_isPair 56 = .ok (.iconst 1, 1) := by decide +kernel
theorem dX4_isPair_57 : decode cX4_isPair 57 = .ok (.iadd, 1) := by decide +kernel
theorem dX4_isPair_58 : decode cX4_isPair 58 = .ok (.invokevirtual 120, 3) := by decide +kernel
theorem dX4_isPair_61 : decode cX4_isPair 61 = .ok (.if_icmp .ne 7, 3) := by decide +kernel
theorem dX4_isPair_64 : decode cX4_isPair 64 = .ok (.iconst 1, 1) := by decide +kernel
theorem dX4_isPair_65 : decode cX4_isPair 65 = .ok (.goto 4, 3) := by decide +kernel
theorem dX4_isPair_68 : decode cX4_isPair 68 = .ok (.iconst 0, 1) := by decide +kernel
theorem dX4_isPair_69 : decode cX4_isPair 69 = .ok (.ireturn, 1) := by decide +kernel
theorem dX4_joinAt_0 : decode cX4_joinAt 0 = .ok (.aload_n 0, 1) := by decide +kernel
theorem dX4_joinAt_1 : decode cX4_joinAt 1 = .ok (.iload_n 1, 1) := by decide +kernel
theorem dX4_joinAt_2 : decode cX4_joinAt 2 = .ok (.invokevirtual 116, 3) := by decide +kernel
theorem dX4_joinAt_5 : decode cX4_joinAt 5 = .ok (.iconst 1, 1) := by decide +kernel
theorem dX4_joinAt_6 : decode cX4_joinAt 6 = .ok (.isub, 1) := by decide +kernel
theorem dX4_joinAt_7 : decode cX4_joinAt 7 = .ok (.istore_n 2, 1) := by decide +kernel
theorem dX4_joinAt_8 : decode cX4_joinAt 8 = .ok (.aload_n 0, 1) := by decide +kernel
theorem dX4_joinAt_9 : decode cX4_joinAt 9 = .ok (.iload_n 1, 1) := by decide +kernel
theorem dX4_joinAt_10 : decode cX4_joinAt 10 = .ok (.invokevirtual 120, 3) := by decide +kernel
theorem dX4_joinAt_13 : decode cX4_joinAt 13 = .ok (.iconst 2, 1) := by decide +kernel
theorem dX4_joinAt_14 : decode cX4_joinAt 14 = .ok (.idiv, 1) := by decide +kernel
theorem dX4_joinAt_15 : decode cX4_joinAt 15 = .ok (.istore_n 3, 1) := by decide +kernel
theorem dX4_joinAt_16 : decode cX4_joinAt 16 = .ok (.aload_n 0, 1) := by decide +kernel
theorem dX4_joinAt_17 : decode cX4_joinAt 17 = .ok (.getfield 38, 3) := by decide +kernel
theorem dX4_joinAt_20 : decode cX4_joinAt 20 = .ok (.iload_n 1, 1) := by decide +kernel
theorem dX4_joinAt_21 : decode cX4_joinAt 21 = .ok (.aload_n 0, 1) := by decide +kernel
theorem dX4_joinAt_22 : decode cX4_joinAt 22 = .ok (.iload_n 1, 1) := by decide +kernel
theorem dX4_joinAt_23 : decode cX4_joinAt 23 = .ok (.invokevirtual 123, 3) := by decide +kernel
theorem dX4_joinAt_26 : decode cX4_joinAt 26 = .ok (.iconst 0, 1) := by decide +kernel
theorem dX4_joinAt_27 : decode cX4_joinAt 27 = .ok (.aload_n 0, 1) := by decide +kernel
theorem dX4_joinAt_28 : decode cX4_joinAt 28 = .ok (.iload_n 2, 1) := by decide +kernel
theorem dX4_joinAt_29 : decode cX4_joinAt 29 = .ok (.iload_n 3, 1) := by decide +kernel
theorem dX4_joinAt_30 : decode cX4_joinAt 30 = .ok (.invokevirtual 126, 3) := by decide +kernel
theorem dX4_joinAt_33 : decode cX4_joinAt 33 = .ok (.iload_n 2, 1) := by decide +kernel
theorem dX4_joinAt_34 : decode cX4_joinAt 34 = .ok (.iload_n 3, 1) := by decide +kernel
theorem dX4_joinAt_35 : decode cX4_joinAt 35 = .ok (.invokestatic 99, 3) := by decide +kernel
theorem dX4_joinAt_38 : decode cX4_joinAt 38 = .ok (.lastore, 1) := by decide +kernel
theorem dX4_joinAt_39 : decode cX4_joinAt 39 = .ok (.iload_n 1, 1) := by decide +kernel
theorem dX4_joinAt_40 : decode cX4_joinAt 40 = .ok (.iconst 1, 1) := by decide +kernel
theorem dX4_joinAt_41 : decode cX4_joinAt 41 = .ok (.iadd, 1) := by decide +kernel
theorem dX4_joinAt_42 : decode cX4_joinAt 42 = .ok (.istore 4, 2) := by decide +kernel
theorem dX4_joinAt_44 : decode cX4_joinAt 44 = .ok (.iload 4, 2) := by decide +kernel
theorem dX4_joinAt_46 : decode cX4_joinAt 46 = .ok (.iconst 1, 1) := by decide +kernel
theorem dX4_joinAt_47 : decode cX4_joinAt 47 = .ok (.iadd, 1) := by decide +kernel
theorem dX4_joinAt_48 : decode cX4_joinAt 48 = .ok (.aload_n 0, 1) := by decide +kernel
theorem dX4_joinAt_49 : decode cX4_joinAt 49 = .ok (.getfield 96, 3) := by decide +kernel
theorem dX4_joinAt_52 : decode cX4_joinAt 52 = .ok (.if_icmp .ge 25, 3) := by decide +kernel
theorem dX4_joinAt_55 : decode cX4_joinAt 55 = .ok (.aload_n 0, 1) := by decide +kernel
theorem dX4_joinAt_56 : decode cX4_joinAt 56 = .ok (.getfield 38, 3) := by decide +kernel
theorem dX4_joinAt_59 : decode cX4_joinAt 59 = .ok (.iload 4, 2) := by decide +kernel
theorem dX4_joinAt_61 : decode cX4_joinAt 61 = .ok (.aload_n 0, 1) := by decide +kernel
theorem dX4_joinAt_62 : decode cX4_joinAt 62 = .ok (.getfield 38, 3) := by decide +kernel
theorem dX4_joinAt_65 : decode cX4_joinAt 65 = .ok (.iload 4, 2) := by decide +kernel
theorem dX4_joinAt_67 : decode cX4_joinAt 67 = .ok (.iconst 1, 1) := by decide +kernel
theorem dX4_joinAt_68 : decode cX4_joinAt 68 = .ok (.iadd, 1) := by decide +kernel
theorem dX4_joinAt_69 : decode cX4_joinAt 69 = .ok (.laload, 1) := by decide +kernel
theorem dX4_joinAt_70 : decode cX4_joinAt 70 = .ok (.lastore, 1) := by decide +kernel
theorem dX4_joinAt_71 : decode cX4_joinAt 71 = .ok (.iinc 4 1, 3) := by decide +kernel
theorem dX4_joinAt_74 : decode cX4_joinAt 74 = .ok (.goto (-30), 3) := by decide +kernel
theorem dX4_joinAt_77 : decode cX4_joinAt 77 = .ok (.aload_n 0, 1) := by decide +kernel
theorem dX4_joinAt_78 : decode cX4_joinAt 78 = .ok (.dup, 1) := by decide +kernel
theorem dX4_joinAt_79 : decode cX4_joinAt 79 = .ok (.getfield 96, 3) := by decide +kernel
theorem dX4_joinAt_82 : decode cX4_joinAt 82 = .ok (.iconst 1, 1) := by decide +kernel
theorem dX4_joinAt_83 : decode cX4_joinAt 83 = .ok (.isub, 1) := by decide +kernel
theorem dX4_joinAt_84 : decode cX4_joinAt 84 = .ok (.putfield 96, 3) := by decide +kernel
theorem dX4_joinAt_87 : decode cX4_joinAt 87 = .ok (.aload_n 0, 1) := by decide +kernel
theorem dX4_joinAt_88 : decode cX4_joinAt 88 = .ok (.dup, 1) := by decide +kernel
theorem dX4_joinAt_89 : decode cX4_joinAt 89 = .ok (.getfield 106, 3) := by decide +kernel
theorem dX4_joinAt_92 : decode cX4_joinAt 92 = .ok (.iconst 1, 1) := by decide +kernel
theorem dX4_joinAt_93 : decode cX4_joinAt 93 = .ok (.iadd, 1) := by decide +kernel
theorem dX4_joinAt_94 : decode cX4_joinAt 94 = .ok (.putfield 106, 3) := by decide +kernel
theorem dX4_joinAt_97 : decode cX4_joinAt 97 = .ok (.return_, 1) := by decide +kernel
theorem dX4_joinAll_0 : decode cX4_joinAll 0 = .ok (.aload_n 0, 1) := by decide +kernel
theorem dX4_joinAll_1 : decode cX4_joinAll 1 = .ok (.getfield 106, 3) := by decide +kernel
theorem dX4_joinAll_4 : decode cX4_joinAll 4 = .ok (.istore_n 1, 1) := by decide +kernel
theorem dX4_joinAll_5 : decode cX4_joinAll 5 = .ok (.iconst 0, 1) := by decide +kernel
theorem dX4_joinAll_6 : decode cX4_joinAll 6 = .ok (.istore_n 2, 1) := by decide +kernel
theorem dX4_joinAll_7 : decode cX4_joinAll 7 = .ok (.iload_n 2, 1) := by decide +kernel
theorem dX4_joinAll_8 : decode cX4_joinAll 8 = .ok (.aload_n 0, 1) := by decide +kernel
theorem dX4_joinAll_9 : decode cX4_joinAll 9 = .ok (.getfield 96, 3) := by decide +kernel
theorem dX4_joinAll_12 : decode cX4_joinAll 12 = .ok (.if_icmp .ge 55, 3) := by decide +kernel
theorem dX4_joinAll_15 : decode cX4_joinAll 15 = .ok (.aload_n 0, 1) := by decide +kernel
theorem dX4_joinAll_16 : decode cX4_joinAll 16 = .ok (.iload_n 2, 1) := by decide +kernel
theorem dX4_joinAll_17 : decode cX4_joinAll 17 = .ok (.invokevirtual 129, 3) := by decide +kernel
theorem dX4_joinAll_20 : decode cX4_joinAll 20 = .ok (.ifCond .eq 41, 3) := by decide +kernel
theorem dX4_joinAll_23 : decode cX4_joinAll 23 = .ok (.aload_n 0, 1) := by decide +kernel
theorem dX4_joinAll_24 : decode cX4_joinAll 24 = .ok (.iload_n 2, 1) := by decide +kernel
theorem dX4_joinAll_25 : decode cX4_joinAll 25 = .ok (.invokevirtual 132, 3) := by decide +kernel
theorem dX4_joinAll_28 : decode cX4_joinAll 28 = .ok (.ifCond .ne 33, 3) := by decide +kernel
theorem dX4_joinAll_31 : decode cX4_joinAll 31 = .ok (.aload_n 0, 1) := by decide +kernel
theorem dX4_joinAll_32 : decode cX4_joinAll 32 = .ok (.iload_n 2, 1) := by decide +kernel
theorem dX4_joinAll_33 : decode cX4_joinAll 33 = .ok (.iconst 1, 1) := by decide +kernel
theorem dX4_joinAll_34 : decode cX4_joinAll 34 = .ok (.iadd, 1) := by decide +kernel
theorem dX4_joinAll_35 : decode cX4_joinAll 35 = .ok (.invokevirtual 132, 3) := by decide +kernel
theorem dX4_joinAll_38 : decode cX4_joinAll 38 = .ok (.ifCond .ne 23, 3) := by decide +kernel
theorem dX4_joinAll_41 : decode cX4_joinAll 41 = .ok (.aload_n 0, 1) := by decide +kernel
theorem dX4_joinAll_42 : decode cX4_joinAll 42 = .ok (.iload_n 2, 1) := by decide +kernel
theorem dX4_joinAll_43 : decode cX4_joinAll 43 = .ok (.invokevirtual 135, 3) := by decide +kernel
theorem dX4_joinAll_46 : decode cX4_joinAll 46 = .ok (.iload_n 2, 1) := by decide +kernel
theorem dX4_joinAll_47 : decode cX4_joinAll 47 = .ok (.ifCond .le 9, 3) := by decide +kernel
theorem dX4_joinAll_50 : decode cX4_joinAll 50 = .ok (.iload_n 2, 1) := by decide +kernel
theorem dX4_joinAll_51 : decode cX4_joinAll 51 = .ok (.iconst 1, 1) := by decide +kernel
