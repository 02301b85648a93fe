theorem nmX0 : ∀ a, a < 13 → ∀ b, b < 13 → a ≠ b → (TX0 a).2.1 ≠ (TX0 b).2.1 := by decide +kernel
theorem tyX0_ok : ∀ k, k < 13 → parseFieldDescriptor (TX0 k).2.2.1 = some (tyX0 k) := by decide +kernel
theorem nmX1 : ∀ a, a < 4 → ∀ b, b < 4 → a ≠ b → (TX1 a).2.1 ≠ (TX1 b).2.1 := by decide +kernel
theorem tyX1_ok : ∀ k, k < 4 → parseFieldDescriptor (TX1 k).2.2.1 = some (tyX1 k) := by decide +kernel
theorem nmX2 : ∀ a, a < 9 → ∀ b, b < 9 → a ≠ b → (TX2 a).2.1 ≠ (TX2 b).2.1 := by decide +kernel
theorem tyX2_ok : ∀ k, k < 9 → parseFieldDescriptor (TX2 k).2.2.1 = some (tyX2 k) := by decide +kernel
theorem nmX3 : ∀ a, a < 5 → ∀ b, b < 5 → a ≠ b → (TX3 a).2.1 ≠ (TX3 b).2.1 := by decide +kernel
theorem tyX3_ok : ∀ k, k < 5 → parseFieldDescriptor (TX3 k).2.2.1 = some (tyX3 k) := by decide +kernel
theorem nmX4 : ∀ a, a < 29 → ∀ b, b < 29 → a ≠ b → (TX4 a).2.1 ≠ (TX4 b).2.1 := by decide +kernel
theorem tyX4_ok : ∀ k, k < 29 → parseFieldDescriptor (TX4 k).2.2.1 = some (tyX4 k) := by decide +kernel
theorem nmJx8e188 : ∀ a, a < 0 → ∀ b, b < 0 → a ≠ b → (TJx8e188 a).2.1 ≠ (TJx8e188 b).2.1 := by decide +kernel
theorem tyJx8e188_ok : ∀ k, k < 0 → parseFieldDescriptor (TJx8e188 k).2.2.1 = some (tyJx8e188 k) := by decide +kernel
theorem nmJ6 : ∀ a, a < 0 → ∀ b, b < 0 → a ≠ b → (TJ6 a).2.1 ≠ (TJ6 b).2.1 := by decide +kernel
theorem tyJ6_ok : ∀ k, k < 0 → parseFieldDescriptor (TJ6 k).2.2.1 = some (tyJ6 k) := by decide +kernel
theorem nmJ9 : ∀ a, a < 0 → ∀ b, b < 0 → a ≠ b → (TJ9 a).2.1 ≠ (TJ9 b).2.1 := by decide +kernel
theorem tyJ9_ok : ∀ k, k < 0 → parseFieldDescriptor (TJ9 k).2.2.1 = some (tyJ9 k) := by decide +kernel
theorem nmJ0 : ∀ a, a < 0 → ∀ b, b < 0 → a ≠ b → (TJ0 a).2.1 ≠ (TJ0 b).2.1 := by decide +kernel
theorem tyJ0_ok : ∀ k, k < 0 → parseFieldDescriptor (TJ0 k).2.2.1 = some (tyJ0 k) := by decide +kernel
theorem nmJ10 : ∀ a, a < 0 → ∀ b, b < 0 → a ≠ b → (TJ10 a).2.1 ≠ (TJ10 b).2.1 := by decide +kernel
theorem tyJ10_ok : ∀ k, k < 0 → parseFieldDescriptor (TJ10 k).2.2.1 = some (tyJ10 k) := by decide +kernel
theorem nmJ7 : ∀ a, a < 0 → ∀ b, b < 0 → a ≠ b → (TJ7 a).2.1 ≠ (TJ7 b).2.1 := by decide +kernel
theorem tyJ7_ok : ∀ k, k < 0 → parseFieldDescriptor (TJ7 k).2.2.1 = some (tyJ7 k) := by decide +kernel
theorem dX0_init_0 : decode cX0_init 0 = .ok (.aload_n 0, 1) := by decide +kernel
theorem dX0_init_1 : decode cX0_init 1 = .ok (.invokespecial 3, 3) := by decide +kernel
theorem dX0_init_4 : decode cX0_init 4 = .ok (.aload_n 0, 1) := by decide +kernel
theorem dX0_init_5 : decode cX0_init 5 = .ok (.new 9, 3) := by decide +kernel
theorem dX0_init_8 : decode cX0_init 8 = .ok (.dup, 1) := by decide +kernel
theorem dX0_init_9 : decode cX0_init 9 = .ok (.invokespecial 11, 3) := by decide +kernel
theorem dX0_init_12 : decode cX0_init 12 = .ok (.putfield 12, 3) := by decide +kernel
theorem dX0_init_15 : decode cX0_init 15 = .ok (.aload_n 0, 1) := by decide +kernel
theorem dX0_init_16 : decode cX0_init 16 = .ok (.new 18, 3) := by decide +kernel
theorem dX0_init_19 : decode cX0_init 19 = .ok (.dup, 1) := by decide +kernel
theorem dX0_init_20 : decode cX0_init 20 = .ok (.invokespecial 20, 3) := by decide +kernel
theorem dX0_init_23 : decode cX0_init 23 = .ok (.putfield 21, 3) := by decide +kernel
theorem dX0_init_26 : decode cX0_init 26 = .ok (.aload_n 0, 1) := by decide +kernel
theorem dX0_init_27 : decode cX0_init 27 = .ok (.bipush 25, 2) := by decide +kernel
theorem dX0_init_29 : decode cX0_init 29 = .ok (.newarray .int, 2) := by decide +kernel
theorem dX0_init_31 : decode cX0_init 31 = .ok (.putfield 25, 3) := by decide +kernel
theorem dX0_init_34 : decode cX0_init 34 = .ok (.aload_n 0, 1) := by decide +kernel
theorem dX0_init_35 : decode cX0_init 35 = .ok (.bipush 25, 2) := by decide +kernel
theorem dX0_init_37 : decode cX0_init 37 = .ok (.newarray .int, 2) := by decide +kernel
theorem dX0_init_39 : decode cX0_init 39 = .ok (.putfield 29, 3) := by decide +kernel
theorem dX0_init_42 : decode cX0_init 42 = .ok (.aload_n 0, 1) := by decide +kernel
theorem dX0_init_43 : decode cX0_init 43 = .ok (.bipush 24, 2) := by decide +kernel
theorem dX0_init_45 : decode cX0_init 45 = .ok (.newarray .int, 2) := by decide +kernel
theorem dX0_init_47 : decode cX0_init 47 = .ok (.putfield 32, 3) := by decide +kernel
theorem dX0_init_50 : decode cX0_init 50 = .ok (.aload_n 0, 1) := by decide +kernel
theorem dX0_init_51 : decode cX0_init 51 = .ok (.bipush 25, 2) := by decide +kernel
theorem dX0_init_53 : decode cX0_init 53 = .ok (.newarray .int, 2) := by decide +kernel
theorem dX0_init_55 : decode cX0_init 55 = .ok (.putfield 35, 3) := by decide +kernel
theorem dX0_init_58 : decode cX0_init 58 = .ok (.aload_n 0, 1) := by decide +kernel
theorem dX0_init_59 : decode cX0_init 59 = .ok (.iconst 0, 1) := by decide +kernel
theorem dX0_init_60 : decode cX0_init 60 = .ok (.putfield 38, 3) := by decide +kernel
theorem dX0_init_63 : decode cX0_init 63 = .ok (.aload_n 0, 1) := by decide +kernel
theorem dX0_init_64 : decode cX0_init 64 = .ok (.iconst 0, 1) := by decide +kernel
theorem dX0_init_65 : decode cX0_init 65 = .ok (.putfield 42, 3) := by decide +kernel
theorem dX0_init_68 : decode cX0_init 68 = .ok (.aload_n 0, 1) := by decide +kernel
theorem dX0_init_69 : decode cX0_init 69 = .ok (.iconst 0, 1) := by decide +kernel
theorem dX0_init_70 : decode cX0_init 70 = .ok (.putfield 45, 3) := by decide +kernel
theorem dX0_init_73 : decode cX0_init 73 = .ok (.aload_n 0, 1) := by decide +kernel
theorem dX0_init_74 : decode cX0_init 74 = .ok (.iconst 0, 1) := by decide +kernel
theorem dX0_init_75 : decode cX0_init 75 = .ok (.putfield 48, 3) := by decide +kernel
theorem dX0_init_78 : decode cX0_init 78 = .ok (.aload_n 0, 1) := by decide +kernel
theorem dX0_init_79 : decode cX0_init 79 = .ok (.iconst 0, 1) := by decide +kernel
theorem dX0_init_80 : decode cX0_init 80 = .ok (.putfield 51, 3) := by decide +kernel
theorem dX0_init_83 : decode cX0_init 83 = .ok (.aload_n 0, 1) := by decide +kernel
theorem dX0_init_84 : decode cX0_init 84 = .ok (.iconst 0, 1) := by decide +kernel
theorem dX0_init_85 : decode cX0_init 85 = .ok (.putfield 54, 3) := by decide +kernel
theorem dX0_init_88 : decode cX0_init 88 = .ok (.aload_n 0, 1) := by decide +kernel
theorem dX0_init_89 : decode cX0_init 89 = .ok (.iconst 0, 1) := by decide +kernel
theorem dX0_init_90 : decode cX0_init 90 = .ok (.putfield 57, 3) := by decide +kernel
theorem dX0_init_93 : decode cX0_init 93 = .ok (.return_, 1) := by decide +kernel
theorem dX0_begin_0 : decode cX0_begin 0 = .ok (.aload_n 0, 1) := by decide +kernel
theorem dX0_begin_1 : decode cX0_begin 1 = .ok (.getfield 12, 3) := by decide +kernel
theorem dX0_begin_4 : decode cX0_begin 4 = .ok (.aload_n 1, 1) := by decide +kernel
theorem dX0_begin_5 : decode cX0_begin 5 = .ok (.invokevirtual 60, 3) := by decide +kernel
theorem dX0_begin_8 : decode cX0_begin 8 = .ok (.aload_n 0, 1) := by decide +kernel
theorem dX0_begin_9 : decode cX0_begin 9 = .ok (.getfield 21, 3) := by decide +kernel
theorem dX0_begin_12 : decode cX0_begin 12 = .ok (.iload_n 2, 1) := by decide +kernel
theorem dX0_begin_13 : decode cX0_begin 13 = .ok (.invokevirtual 64, 3) := by decide +kernel
theorem dX0_begin_16 : decode cX0_begin 16 = .ok (.aload_n 0, 1) := by decide +kernel
theorem dX0_begin_17 : decode cX0_begin 17 = .ok (.getfield 25, 3) := by decide +kernel
theorem dX0_begin_20 : decode cX0_begin 20 = .ok (.iconst 0, 1) := by decide +kernel
theorem dX0_begin_21 : decode cX0_begin 21 = .ok (.invokestatic 68, 3) := by decide +kernel
theorem dX0_begin_24 : decode cX0_begin 24 = .ok (.aload_n 0, 1) := by decide +kernel
theorem dX0_begin_25 : decode cX0_begin 25 = .ok (.getfield 29, 3) := by decide +kernel
theorem dX0_begin_28 : decode cX0_begin 28 = .ok (.iconst 0, 1) := by decide +kernel
theorem dX0_begin_29 : decode cX0_begin 29 = .ok (.invokestatic 68, 3) := by decide +kernel
theorem dX0_begin_32 : decode cX0_begin 32 = .ok (.aload_n 0, 1) := by decide +kernel
theorem dX0_begin_33 : decode cX0_begin 33 = .ok (.getfield 29, 3) := by decide +kernel
theorem dX0_begin_36 : decode cX0_begin 36 = .ok (.iload_n 2, 1) := by decide +kernel
theorem dX0_begin_37 : decode cX0_begin 37 = .ok (.iconst 1, 1) := by decide +kernel
theorem dX0_begin_38 : decode cX0_begin 38 = .ok (.iastore, 1) := by decide +kernel
theorem dX0_begin_39 : decode cX0_begin 39 = .ok (.aload_n 0, 1) := by decide +kernel
theorem dX0_begin_40 : decode cX0_begin 40 = .ok (.iload_n 3, 1) := by decide +kernel
theorem dX0_begin_41 : decode cX0_begin 41 = .ok (.putfield 38, 3) := by decide +kernel
theorem dX0_begin_44 : decode cX0_begin 44 = .ok (.aload_n 0, 1) := by decide +kernel
theorem dX0_begin_45 : decode cX0_begin 45 = .ok (.iconst 0, 1) := by decide +kernel
theorem dX0_begin_46 : decode cX0_begin 46 = .ok (.putfield 45, 3) := by decide +kernel
theorem dX0_begin_49 : decode cX0_begin 49 = .ok (.aload_n 0, 1) := by decide +kernel
theorem dX0_begin_50 : decode cX0_begin 50 = .ok (.iconst 0, 1) := by decide +kernel
theorem dX0_begin_51 : decode cX0_begin 51 = .ok (.putfield 48, 3) := by decide +kernel
theorem dX0_begin_54 : decode cX0_begin 54 = .ok (.aload_n 0, 1) := by decide +kernel
theorem dX0_begin_55 : decode cX0_begin 55 = .ok (.iconst 0, 1) := by decide +kernel
theorem dX0_begin_56 : decode cX0_begin 56 = .ok (.putfield 51, 3) := by decide +kernel
theorem dX0_begin_59 : decode cX0_begin 59 = .ok (.aload_n 0, 1) := by decide +kernel
theorem dX0_begin_60 : decode cX0_begin 60 = .ok (.iconst 0, 1) := by decide +kernel
theorem dX0_begin_61 : decode cX0_begin 61 = .ok (.putfield 54, 3) := by decide +kernel
theorem dX0_begin_64 : decode cX0_begin 64 = .ok (.aload_n 0, 1) := by decide +kernel
theorem dX0_begin_65 : decode cX0_begin 65 = .ok (.iconst 0, 1) := by decide +kernel
theorem dX0_begin_66 : decode cX0_begin 66 = .ok (.putfield 57, 3) := by decide +kernel
theorem dX0_begin_69 : decode cX0_begin 69 = .ok (.aload_n 0, 1) := by decide +kernel
theorem dX0_begin_70 : decode cX0_begin 70 = .ok (.invokevirtual 74, 3) := by decide +kernel
theorem dX0_begin_73 : decode cX0_begin 73 = .ok (.return_, 1) := by decide +kernel
theorem dX0_reaches_0 : decode cX0_reaches 0 = .ok (.aload_n 0, 1) := by decide +kernel
theorem dX0_reaches_1 : decode cX0_reaches 1 = .ok (.getfield 38, 3) := by decide +kernel
theorem dX0_reaches_4 : decode cX0_reaches 4 = .ok (.iload_n 1, 1) := by decide +kernel
theorem dX0_reaches_5 : decode cX0_reaches 5 = .ok (.ishr, 1) := by decide +kernel
theorem dX0_reaches_6 : decode cX0_reaches 6 = .ok (.iconst 1, 1) := by decide +kernel
theorem dX0_reaches_7 : decode cX0_reaches 7 = .ok (.iand, 1) := by decide +kernel
theorem dX0_reaches_8 : decode cX0_reaches 8 = .ok (.iconst 1, 1) := by decide +kernel
theorem dX0_reaches_9 : decode cX0_reaches 9 = .ok (.if_icmp .ne 7, 3) := by decide +kernel
theorem dX0_reaches_12 : decode cX0_reaches 12 = .ok (.iconst 1, 1) := by decide +kernel
theorem dX0_reaches_13 : decode cX0_reaches 13 = .ok (.goto 4, 3) := by decide +kernel
theorem dX0_reaches_16 : decode cX0_reaches 16 = .ok (.iconst 0, 1) := by decide +kernel
theorem dX0_reaches_17 : decode cX0_reaches 17 = .ok (.ireturn, 1) := by decide +kernel
theorem dX0_isFull_0 : decode cX0_isFull 0 = .ok (.aload_n 0, 1) := by decide +kernel
theorem dX0_isFull_1 : decode cX0_isFull 1 = .ok (.getfield 45, 3) := by decide +kernel
theorem dX0_isFull_4 : decode cX0_isFull 4 = .ok (.sipush 256, 3) := by decide +kernel
theorem dX0_isFull_7 : decode cX0_isFull 7 = .ok (.if_icmp .lt 7, 3) := by decide +kernel
theorem dX0_isFull_10 : decode cX0_isFull 10 = .ok (.iconst 1, 1) := by decide +kernel
theorem dX0_isFull_11 : decode cX0_isFull 11 = .ok (.goto 4, 3) := by decide +kernel
theorem dX0_isFull_14 : decode cX0_isFull 14 = .ok (.iconst 0, 1) := by decide +kernel
theorem dX0_isFull_15 : decode cX0_isFull 15 = .ok (.ireturn, 1) := by decide +kernel
theorem dX0_sizeOf_0 : decode cX0_sizeOf 0 = .ok (.aload_n 0, 1) := by decide +kernel
theorem dX0_sizeOf_1 : decode cX0_sizeOf 1 = .ok (.getfield 12, 3) := by decide +kernel
theorem dX0_sizeOf_4 : decode cX0_sizeOf 4 = .ok (.getfield 77, 3) := by decide +kernel
theorem dX0_sizeOf_7 : decode cX0_sizeOf 7 = .ok (.aload_n 0, 1) := by decide +kernel
theorem dX0_sizeOf_8 : decode cX0_sizeOf 8 = .ok (.getfield 21, 3) := by decide +kernel
theorem dX0_sizeOf_11 : decode cX0_sizeOf 11 = .ok (.iload_n 1, 1) := by decide +kernel
theorem dX0_sizeOf_12 : decode cX0_sizeOf 12 = .ok (.invokevirtual 80, 3) := by decide +kernel
theorem dX0_sizeOf_15 : decode cX0_sizeOf 15 = .ok (.iaload, 1) := by decide +kernel
theorem dX0_sizeOf_16 : decode cX0_sizeOf 16 = .ok (.ireturn, 1) := by decide +kernel
theorem dX0_grant_0 : decode cX0_grant 0 = .ok (.aload_n 0, 1) := by decide +kernel
theorem dX0_grant_1 : decode cX0_grant 1 = .ok (.iload_n 1, 1) := by decide +kernel
theorem dX0_grant_2 : decode cX0_grant 2 = .ok (.invokevirtual 84, 3) := by decide +kernel
theorem dX0_grant_5 : decode cX0_grant 5 = .ok (.istore_n 2, 1) := by decide +kernel
theorem dX0_grant_6 : decode cX0_grant 6 = .ok (.iload_n 2, 1) := by decide +kernel
theorem dX0_grant_7 : decode cX0_grant 7 = .ok (.ifCond .ne 14, 3) := by decide +kernel
theorem dX0_grant_10 : decode cX0_grant 10 = .ok (.aload_n 0, 1) := by decide +kernel
theorem dX0_grant_11 : decode cX0_grant 11 = .ok (.invokevirtual 87, 3) := by decide +kernel
theorem dX0_grant_14 : decode cX0_grant 14 = .ok (.pop, 1) := by decide +kernel
theorem dX0_grant_15 : decode cX0_grant 15 = .ok (.aload_n 0, 1) := by decide +kernel
theorem dX0_grant_16 : decode cX0_grant 16 = .ok (.iload_n 1, 1) := by decide +kernel
theorem dX0_grant_17 : decode cX0_grant 17 = .ok (.invokevirtual 84, 3) := by decide +kernel
theorem dX0_grant_20 : decode cX0_grant 20 = .ok (.istore_n 2, 1) := by decide +kernel
theorem dX0_grant_21 : decode cX0_grant 21 = .ok (.iload_n 2, 1) := by decide +kernel
theorem dX0_grant_22 : decode cX0_grant 22 = .ok (.ifCond .ne 5, 3) := by decide +kernel
theorem dX0_grant_25 : decode cX0_grant 25 = .ok (.iconst 0, 1) := by decide +kernel
theorem dX0_grant_26 : decode cX0_grant 26 = .ok (.ireturn, 1) := by decide +kernel
theorem dX0_grant_27 : decode cX0_grant 27 = .ok (.aload_n 0, 1) := by decide +kernel
theorem dX0_grant_28 : decode cX0_grant 28 = .ok (.iload_n 2, 1) := by decide +kernel
theorem dX0_grant_29 : decode cX0_grant 29 = .ok (.iload_n 1, 1) := by decide +kernel
theorem dX0_grant_30 : decode cX0_grant 30 = .ok (.invokevirtual 91, 3) := by decide +kernel
theorem dX0_grant_33 : decode cX0_grant 33 = .ok (.istore_n 2, 1) := by decide +kernel
theorem dX0_grant_34 : decode cX0_grant 34 = .ok (.aload_n 0, 1) := by decide +kernel
theorem dX0_grant_35 : decode cX0_grant 35 = .ok (.getfield 29, 3) := by decide +kernel
theorem dX0_grant_38 : decode cX0_grant 38 = .ok (.aload_n 0, 1) := by decide +kernel
theorem dX0_grant_39 : decode cX0_grant 39 = .ok (.getfield 21, 3) := by decide +kernel
theorem dX0_grant_42 : decode cX0_grant 42 = .ok (.iload_n 2, 1) := by decide +kernel
theorem dX0_grant_43 : decode cX0_grant 43 = .ok (.invokevirtual 80, 3) := by decide +kernel
theorem dX0_grant_46 : decode cX0_grant 46 = .ok (.dup2, 1) := by decide +kernel
theorem dX0_grant_47 : decode cX0_grant 47 = .ok (.iaload, 1) := by decide +kernel
theorem dX0_grant_48 : decode cX0_grant 48 = .ok (.iconst 1, 1) := by decide +kernel
theorem dX0_grant_49 : decode cX0_grant 49 = .ok (.isub, 1) := by decide +kernel
theorem dX0_grant_50 : decode cX0_grant 50 = .ok (.iastore, 1) := by decide +kernel
theorem dX0_grant_51 : decode cX0_grant 51 = .ok (.aload_n 0, 1) := by decide +kernel
theorem dX0_grant_52 : decode cX0_grant 52 = .ok (.getfield 21, 3) := by decide +kernel
theorem dX0_grant_55 : decode cX0_grant 55 = .ok (.iload_n 2, 1) := by decide +kernel
theorem dX0_grant_56 : decode cX0_grant 56 = .ok (.iload_n 1, 1) := by decide +kernel
theorem dX0_grant_57 : decode cX0_grant 57 = .ok (.invokevirtual 95, 3) := by decide +kernel
theorem dX0_grant_60 : decode cX0_grant 60 = .ok (.aload_n 0, 1) := by decide +kernel
theorem dX0_grant_61 : decode cX0_grant 61 = .ok (.getfield 21, 3) := by decide +kernel
theorem dX0_grant_64 : decode cX0_grant 64 = .ok (.iload_n 2, 1) := by decide +kernel
theorem dX0_grant_65 : decode cX0_grant 65 = .ok (.invokevirtual 99, 3) := by decide +kernel
theorem dX0_grant_68 : decode cX0_grant 68 = .ok (.aload_n 0, 1) := by decide +kernel
theorem dX0_grant_69 : decode cX0_grant 69 = .ok (.dup, 1) := by decide +kernel
theorem dX0_grant_70 : decode cX0_grant 70 = .ok (.getfield 45, 3) := by decide +kernel
theorem dX0_grant_73 : decode cX0_grant 73 = .ok (.iconst 1, 1) := by decide +kernel
theorem dX0_grant_74 : decode cX0_grant 74 = .ok (.iadd, 1) := by decide +kernel
theorem dX0_grant_75 : decode cX0_grant 75 = .ok (.putfield 45, 3) := by decide +kernel
theorem dX0_grant_78 : decode cX0_grant 78 = .ok (.aload_n 0, 1) := by decide +kernel
theorem dX0_grant_79 : decode cX0_grant 79 = .ok (.dup, 1) := by decide +kernel
theorem dX0_grant_80 : decode cX0_grant 80 = .ok (.getfield 48, 3) := by decide +kernel
theorem dX0_grant_83 : decode cX0_grant 83 = .ok (.iload_n 1, 1) := by decide +kernel
theorem dX0_grant_84 : decode cX0_grant 84 = .ok (.iadd, 1) := by decide +kernel
theorem dX0_grant_85 : decode cX0_grant 85 = .ok (.putfield 48, 3) := by decide +kernel
theorem dX0_grant_88 : decode cX0_grant 88 = .ok (.aload_n 0, 1) := by decide +kernel
theorem dX0_grant_89 : decode cX0_grant 89 = .ok (.dup, 1) := by decide +kernel
theorem dX0_grant_90 : decode cX0_grant 90 = .ok (.getfield 51, 3) := by decide +kernel
theorem dX0_grant_93 : decode cX0_grant 93 = .ok (.aload_n 0, 1) := by decide +kernel
theorem dX0_grant_94 : decode cX0_grant 94 = .ok (.iload_n 2, 1) := by decide +kernel
theorem dX0_grant_95 : decode cX0_grant 95 = .ok (.invokevirtual 102, 3) := by decide +kernel
theorem dX0_grant_98 : decode cX0_grant 98 = .ok (.iadd, 1) := by decide +kernel
theorem dX0_grant_99 : decode cX0_grant 99 = .ok (.putfield 51, 3) := by decide +kernel
theorem dX0_grant_102 : decode cX0_grant 102 = .ok (.iload_n 2, 1) := by decide +kernel
theorem dX0_grant_103 : decode cX0_grant 103 = .ok (.ireturn, 1) := by decide +kernel
theorem dX0_renew_0 : decode cX0_renew 0 = .ok (.aload_n 0, 1) := by decide +kernel
theorem dX0_renew_1 : decode cX0_renew 1 = .ok (.dup, 1) := by decide +kernel
theorem dX0_renew_2 : decode cX0_renew 2 = .ok (.getfield 48, 3) := by decide +kernel
theorem dX0_renew_5 : decode cX0_renew 5 = .ok (.iload_n 2, 1) := by decide +kernel
theorem dX0_renew_6 : decode cX0_renew 6 = .ok (.aload_n 0, 1) := by decide +kernel
theorem dX0_renew_7 : decode cX0_renew 7 = .ok (.getfield 21, 3) := by decide +kernel
theorem dX0_renew_10 : decode cX0_renew 10 = .ok (.iload_n 1, 1) := by decide +kernel
theorem dX0_renew_11 : decode cX0_renew 11 = .ok (.invokevirtual 105, 3) := by decide +kernel
theorem dX0_renew_14 : decode cX0_renew 14 = .ok (.isub, 1) := by decide +kernel
theorem dX0_renew_15 : decode cX0_renew 15 = .ok (.iadd, 1) := by decide +kernel
theorem dX0_renew_16 : decode cX0_renew 16 = .ok (.putfield 48, 3) := by decide +kernel
theorem dX0_renew_19 : decode cX0_renew 19 = .ok (.aload_n 0, 1) := by decide +kernel
theorem dX0_renew_20 : decode cX0_renew 20 = .ok (.getfield 21, 3) := by decide +kernel
theorem dX0_renew_23 : decode cX0_renew 23 = .ok (.iload_n 1, 1) := by decide +kernel
theorem dX0_renew_24 : decode cX0_renew 24 = .ok (.iload_n 2, 1) := by decide +kernel
theorem dX0_renew_25 : decode cX0_renew 25 = .ok (.invokevirtual 95, 3) := by decide +kernel
theorem dX0_renew_28 : decode cX0_renew 28 = .ok (.return_, 1) := by decide +kernel
theorem dX0_release_0 : decode cX0_release 0 = .ok (.aload_n 0, 1) := by decide +kernel
theorem dX0_release_1 : decode cX0_release 1 = .ok (.dup, 1) := by decide +kernel
theorem dX0_release_2 : decode cX0_release 2 = .ok (.getfield 45, 3) := by decide +kernel
theorem dX0_release_5 : decode cX0_release 5 = .ok (.iconst 1, 1) := by decide +kernel
theorem dX0_release_6 : decode cX0_release 6 = .ok (.isub, 1) := by decide +kernel
theorem dX0_release_7 : decode cX0_release 7 = .ok (.putfield 45, 3) := by decide +kernel
theorem dX0_release_10 : decode cX0_release 10 = .ok (.aload_n 0, 1) := by decide +kernel
theorem dX0_release_11 : decode cX0_release 11 = .ok (.dup, 1) := by decide +kernel
theorem dX0_release_12 : decode cX0_release 12 = .ok (.getfield 48, 3) := by decide +kernel
theorem dX0_release_15 : decode cX0_release 15 = .ok (.aload_n 0, 1) := by decide +kernel
theorem dX0_release_16 : decode cX0_release 16 = .ok (.getfield 21, 3) := by decide +kernel
theorem dX0_release_19 : decode cX0_release 19 = .ok (.iload_n 1, 1) := by decide +kernel
theorem dX0_release_20 : decode cX0_release 20 = .ok (.invokevirtual 105, 3) := by decide +kernel
theorem dX0_release_23 : decode cX0_release 23 = .ok (.isub, 1) := by decide +kernel
theorem dX0_release_24 : decode cX0_release 24 = .ok (.putfield 48, 3) := by decide +kernel
theorem dX0_release_27 : decode cX0_release 27 = .ok (.aload_n 0, 1) := by decide +kernel
theorem dX0_release_28 : decode cX0_release 28 = .ok (.dup, 1) := by decide +kernel
theorem dX0_release_29 : decode cX0_release 29 = .ok (.getfield 51, 3) := by decide +kernel
theorem dX0_release_32 : decode cX0_release 32 = .ok (.aload_n 0, 1) := by decide +kernel
theorem dX0_release_33 : decode cX0_release 33 = .ok (.iload_n 1, 1) := by decide +kernel
theorem dX0_release_34 : decode cX0_release 34 = .ok (.invokevirtual 102, 3) := by decide +kernel
theorem dX0_release_37 : decode cX0_release 37 = .ok (.isub, 1) := by decide +kernel
theorem dX0_release_38 : decode cX0_release 38 = .ok (.putfield 51, 3) := by decide +kernel
theorem dX0_release_41 : decode cX0_release 41 = .ok (.aload_n 0, 1) := by decide +kernel
theorem dX0_release_42 : decode cX0_release 42 = .ok (.getfield 21, 3) := by decide +kernel
theorem dX0_release_45 : decode cX0_release 45 = .ok (.iload_n 1, 1) := by decide +kernel
theorem dX0_release_46 : decode cX0_release 46 = .ok (.iconst 0, 1) := by decide +kernel
theorem dX0_release_47 : decode cX0_release 47 = .ok (.invokevirtual 95, 3) := by decide +kernel
theorem dX0_release_50 : decode cX0_release 50 = .ok (.aload_n 0, 1) := by decide +kernel
theorem dX0_release_51 : decode cX0_release 51 = .ok (.getfield 29, 3) := by decide +kernel
theorem dX0_release_54 : decode cX0_release 54 = .ok (.aload_n 0, 1) := by decide +kernel
theorem dX0_release_55 : decode cX0_release 55 = .ok (.getfield 21, 3) := by decide +kernel
theorem dX0_release_58 : decode cX0_release 58 = .ok (.iload_n 1, 1) := by decide +kernel
theorem dX0_release_59 : decode cX0_release 59 = .ok (.invokevirtual 80, 3) := by decide +kernel
theorem dX0_release_62 : decode cX0_release 62 = .ok (.dup2, 1) := by decide +kernel
theorem dX0_release_63 : decode cX0_release 63 = .ok (.iaload, 1) := by decide +kernel
theorem dX0_release_64 : decode cX0_release 64 = .ok (.iconst 1, 1) := by decide +kernel
theorem dX0_release_65 : decode cX0_release 65 = .ok (.iadd, 1) := by decide +kernel
theorem dX0_release_66 : decode cX0_release 66 = .ok (.iastore, 1) := by decide +kernel
theorem dX0_release_67 : decode cX0_release 67 = .ok (.aload_n 0, 1) := by decide +kernel
theorem dX0_release_68 : decode cX0_release 68 = .ok (.getfield 21, 3) := by decide +kernel
theorem dX0_release_71 : decode cX0_release 71 = .ok (.aload_n 0, 1) := by decide +kernel
theorem dX0_release_72 : decode cX0_release 72 = .ok (.iload_n 1, 1) := by decide +kernel
theorem dX0_release_73 : decode cX0_release 73 = .ok (.invokevirtual 108, 3) := by decide +kernel
theorem dX0_release_76 : decode cX0_release 76 = .ok (.invokevirtual 99, 3) := by decide +kernel
theorem dX0_release_79 : decode cX0_release 79 = .ok (.return_, 1) := by decide +kernel
theorem dX0_uniteAll_0 : decode cX0_uniteAll 0 = .ok (.aload_n 0, 1) := by decide +kernel
theorem dX0_uniteAll_1 : decode cX0_uniteAll 1 = .ok (.getfield 54, 3) := by decide +kernel
theorem dX0_uniteAll_4 : decode cX0_uniteAll 4 = .ok (.istore_n 1, 1) := by decide +kernel
theorem dX0_uniteAll_5 : decode cX0_uniteAll 5 = .ok (.aload_n 0, 1) := by decide +kernel
theorem dX0_uniteAll_6 : decode cX0_uniteAll 6 = .ok (.getfield 21, 3) := by decide +kernel
theorem dX0_uniteAll_9 : decode cX0_uniteAll 9 = .ok (.invokevirtual 111, 3) := by decide +kernel
theorem dX0_uniteAll_12 : decode cX0_uniteAll 12 = .ok (.istore_n 2, 1) := by decide +kernel
theorem dX0_uniteAll_13 : decode cX0_uniteAll 13 = .ok (.aload_n 0, 1) := by decide +kernel
theorem dX0_uniteAll_14 : decode cX0_uniteAll 14 = .ok (.getfield 21, 3) := by decide +kernel
theorem dX0_uniteAll_17 : decode cX0_uniteAll 17 = .ok (.invokevirtual 114, 3) := by decide +kernel
theorem dX0_uniteAll_20 : decode cX0_uniteAll 20 = .ok (.istore_n 3, 1) := by decide +kernel
theorem dX0_uniteAll_21 : decode cX0_uniteAll 21 = .ok (.iload_n 3, 1) := by decide +kernel
theorem dX0_uniteAll_22 : decode cX0_uniteAll 22 = .ok (.ifCond .le 34, 3) := by decide +kernel
theorem dX0_uniteAll_25 : decode cX0_uniteAll 25 = .ok (.iload_n 2, 1) := by decide +kernel
theorem dX0_uniteAll_26 : decode cX0_uniteAll 26 = .ok (.ifCond .eq 30, 3) := by decide +kernel
theorem dX0_uniteAll_29 : decode cX0_uniteAll 29 = .ok (.aload_n 0, 1) := by decide +kernel
theorem dX0_uniteAll_30 : decode cX0_uniteAll 30 = .ok (.iload_n 2, 1) := by decide +kernel
theorem dX0_uniteAll_31 : decode cX0_uniteAll 31 = .ok (.invokevirtual 117, 3) := by decide +kernel
theorem dX0_uniteAll_34 : decode cX0_uniteAll 34 = .ok (.aload_n 0, 1) := by decide +kernel
theorem dX0_uniteAll_35 : decode cX0_uniteAll 35 = .ok (.getfield 21, 3) := by decide +kernel
theorem dX0_uniteAll_38 : decode cX0_uniteAll 38 = .ok (.iload_n 2, 1) := by decide +kernel
theorem dX0_uniteAll_39 : decode cX0_uniteAll 39 = .ok (.invokevirtual 99, 3) := by decide +kernel
theorem dX0_uniteAll_42 : decode cX0_uniteAll 42 = .ok (.aload_n 0, 1) := by decide +kernel
theorem dX0_uniteAll_43 : decode cX0_uniteAll 43 = .ok (.getfield 21, 3) := by decide +kernel
theorem dX0_uniteAll_46 : decode cX0_uniteAll 46 = .ok (.invokevirtual 111, 3) := by decide +kernel
theorem dX0_uniteAll_49 : decode cX0_uniteAll 49 = .ok (.istore_n 2, 1) := by decide +kernel
theorem dX0_uniteAll_50 : decode cX0_uniteAll 50 = .ok (.iinc 3 (-1), 3) := by decide +kernel
theorem dX0_uniteAll_53 : decode cX0_uniteAll 53 = .ok (.goto (-32), 3) := by decide +kernel
theorem dX0_uniteAll_56 : decode cX0_uniteAll 56 = .ok (.aload_n 0, 1) := by decide +kernel
theorem dX0_uniteAll_57 : decode cX0_uniteAll 57 = .ok (.getfield 54, 3) := by decide +kernel
theorem dX0_uniteAll_60 : decode cX0_uniteAll 60 = .ok (.iload_n 1, 1) := by decide +kernel
theorem dX0_uniteAll_61 : decode cX0_uniteAll 61 = .ok (.isub, 1) := by decide +kernel
theorem dX0_uniteAll_62 : decode cX0_uniteAll 62 = .ok (.ireturn, 1) := by decide +kernel
theorem dX0_greatestIfJoined_0 : decode cX0_greatestIfJoined 0 = .ok (.iconst 0, 1) := by decide +kernel
theorem dX0_greatestIfJoined_1 : decode cX0_greatestIfJoined 1 = .ok (.istore_n 1, 1) := by decide +kernel
theorem dX0_greatestIfJoined_2 : decode cX0_greatestIfJoined 2 = .ok (.aload_n 0, 1) := by decide +kernel
theorem dX0_greatestIfJoined_3 : decode cX0_greatestIfJoined 3 = .ok (.getfield 21, 3) := by decide +kernel
theorem dX0_greatestIfJoined_6 : decode cX0_greatestIfJoined 6 = .ok (.iconst 1, 1) := by decide +kernel
theorem dX0_greatestIfJoined_7 : decode cX0_greatestIfJoined 7 = .ok (.invokevirtual 120, 3) := by decide +kernel
theorem dX0_greatestIfJoined_10 : decode cX0_greatestIfJoined 10 = .ok (.istore_n 2, 1) := by decide +kernel
theorem dX0_greatestIfJoined_11 : decode cX0_greatestIfJoined 11 = .ok (.aload_n 0, 1) := by decide +kernel
theorem dX0_greatestIfJoined_12 : decode cX0_greatestIfJoined 12 = .ok (.getfield 21, 3) := by decide +kernel
theorem dX0_greatestIfJoined_15 : decode cX0_greatestIfJoined 15 = .ok (.invokevirtual 114, 3) := by decide +kernel
theorem dX0_greatestIfJoined_18 : decode cX0_greatestIfJoined 18 = .ok (.istore_n 3, 1) := by decide +kernel
theorem dX0_greatestIfJoined_19 : decode cX0_greatestIfJoined 19 = .ok (.iload_n 3, 1) := by decide +kernel
theorem dX0_greatestIfJoined_20 : decode cX0_greatestIfJoined 20 = .ok (.ifCond .le 39, 3) := by decide +kernel
theorem dX0_greatestIfJoined_23 : decode cX0_greatestIfJoined 23 = .ok (.iload_n 2, 1) := by decide +kernel
theorem dX0_greatestIfJoined_24 : decode cX0_greatestIfJoined 24 = .ok (.ifCond .eq 35, 3) := by decide +kernel
theorem dX0_greatestIfJoined_27 : decode cX0_greatestIfJoined 27 = .ok (.iload_n 1, 1) := by decide +kernel
theorem dX0_greatestIfJoined_28 : decode cX0_greatestIfJoined 28 = .ok (.aload_n 0, 1) := by decide +kernel
theorem dX0_greatestIfJoined_29 : decode cX0_greatestIfJoined 29 = .ok (.iload_n 2, 1) := by decide +kernel
theorem dX0_greatestIfJoined_30 : decode cX0_greatestIfJoined 30 = .ok (.invokevirtual 102, 3) := by decide +kernel
theorem dX0_greatestIfJoined_33 : decode cX0_greatestIfJoined 33 = .ok (.invokestatic 123, 3) := by decide +kernel
theorem dX0_greatestIfJoined_36 : decode cX0_greatestIfJoined 36 = .ok (.istore_n 1, 1) := by decide +kernel
theorem dX0_greatestIfJoined_37 : decode cX0_greatestIfJoined 37 = .ok (.aload_n 0, 1) := by decide +kernel
theorem dX0_greatestIfJoined_38 : decode cX0_greatestIfJoined 38 = .ok (.getfield 21, 3) := by decide +kernel
theorem dX0_greatestIfJoined_41 : decode cX0_greatestIfJoined 41 = .ok (.aload_n 0, 1) := by decide +kernel
theorem dX0_greatestIfJoined_42 : decode cX0_greatestIfJoined 42 = .ok (.getfield 21, 3) := by decide +kernel
theorem dX0_greatestIfJoined_45 : decode cX0_greatestIfJoined 45 = .ok (.iload_n 2, 1) := by decide +kernel
theorem dX0_greatestIfJoined_46 : decode cX0_greatestIfJoined 46 = .ok (.invokevirtual 128, 3) := by decide +kernel
theorem dX0_greatestIfJoined_49 : decode cX0_greatestIfJoined 49 = .ok (.invokevirtual 120, 3) := by decide +kernel
theorem dX0_greatestIfJoined_52 : decode cX0_greatestIfJoined 52 = .ok (.istore_n 2, 1) := by decide +kernel
theorem dX0_greatestIfJoined_53 : decode cX0_greatestIfJoined 53 = .ok (.iinc 3 (-1), 3) := by decide +kernel
theorem dX0_greatestIfJoined_56 : decode cX0_greatestIfJoined 56 = .ok (.goto (-37), 3) := by decide +kernel
theorem dX0_greatestIfJoined_59 : decode cX0_greatestIfJoined 59 = .ok (.iload_n 1, 1) := by decide +kernel
theorem dX0_greatestIfJoined_60 : decode cX0_greatestIfJoined 60 = .ok (.ireturn, 1) := by decide +kernel
theorem dX0_freeNodesIfJoined_0 : decode cX0_freeNodesIfJoined 0 = .ok (.iconst 0, 1) := by decide +kernel
theorem dX0_freeNodesIfJoined_1 : decode cX0_freeNodesIfJoined 1 = .ok (.istore_n 1, 1) := by decide +kernel
theorem dX0_freeNodesIfJoined_2 : decode cX0_freeNodesIfJoined 2 = .ok (.aload_n 0, 1) := by decide +kernel
theorem dX0_freeNodesIfJoined_3 : decode cX0_freeNodesIfJoined 3 = .ok (.getfield 21, 3) := by decide +kernel
theorem dX0_freeNodesIfJoined_6 : decode cX0_freeNodesIfJoined 6 = .ok (.iconst 1, 1) := by decide +kernel
theorem dX0_freeNodesIfJoined_7 : decode cX0_freeNodesIfJoined 7 = .ok (.invokevirtual 120, 3) := by decide +kernel
theorem dX0_freeNodesIfJoined_10 : decode cX0_freeNodesIfJoined 10 = .ok (.istore_n 2, 1) := by decide +kernel
theorem dX0_freeNodesIfJoined_11 : decode cX0_freeNodesIfJoined 11 = .ok (.aload_n 0, 1) := by decide +kernel
theorem dX0_freeNodesIfJoined_12 : decode cX0_freeNodesIfJoined 12 = .ok (.getfield 21, 3) := by decide +kernel
theorem dX0_freeNodesIfJoined_15 : decode cX0_freeNodesIfJoined 15 = .ok (.invokevirtual 114, 3) := by decide +kernel
theorem dX0_freeNodesIfJoined_18 : decode cX0_freeNodesIfJoined 18 = .ok (.istore_n 3, 1) := by decide +kernel
theorem dX0_freeNodesIfJoined_19 : decode cX0_freeNodesIfJoined 19 = .ok (.iload_n 3, 1) := by decide +kernel
theorem dX0_freeNodesIfJoined_20 : decode cX0_freeNodesIfJoined 20 = .ok (.ifCond .le 32, 3) := by decide +kernel
theorem dX0_freeNodesIfJoined_23 : decode cX0_freeNodesIfJoined 23 = .ok (.iload_n 2, 1) := by decide +kernel
theorem dX0_freeNodesIfJoined_24 : decode cX0_freeNodesIfJoined 24 = .ok (.ifCond .eq 28, 3) := by decide +kernel
theorem dX0_freeNodesIfJoined_27 : decode cX0_freeNodesIfJoined 27 = .ok (.iinc 1 1, 3) := by decide +kernel
theorem dX0_freeNodesIfJoined_30 : decode cX0_freeNodesIfJoined 30 = .ok (.aload_n 0, 1) := by decide +kernel
theorem dX0_freeNodesIfJoined_31 : decode cX0_freeNodesIfJoined 31 = .ok (.getfield 21, 3) := by decide +kernel
theorem dX0_freeNodesIfJoined_34 : decode cX0_freeNodesIfJoined 34 = .ok (.aload_n 0, 1) := by decide +kernel
theorem dX0_freeNodesIfJoined_35 : decode cX0_freeNodesIfJoined 35 = .ok (.getfield 21, 3) := by decide +kernel
theorem dX0_freeNodesIfJoined_38 : decode cX0_freeNodesIfJoined 38 = .ok (.iload_n 2, 1) := by decide +kernel
theorem dX0_freeNodesIfJoined_39 : decode cX0_freeNodesIfJoined 39 = .ok (.invokevirtual 128, 3) := by decide +kernel
theorem dX0_freeNodesIfJoined_42 : decode cX0_freeNodesIfJoined 42 = .ok (.invokevirtual 120, 3) := by decide +kernel
theorem dX0_freeNodesIfJoined_45 : decode cX0_freeNodesIfJoined 45 = .ok (.istore_n 2, 1) := by decide +kernel
theorem dX0_freeNodesIfJoined_46 : decode cX0_freeNodesIfJoined 46 = .ok (.iinc 3 (-1), 3) := by decide +kernel
theorem dX0_freeNodesIfJoined_49 : decode cX0_freeNodesIfJoined 49 = .ok (.goto (-30), 3) := by decide +kernel
theorem dX0_freeNodesIfJoined_52 : decode cX0_freeNodesIfJoined 52 = .ok (.iload_n 1, 1) := by decide +kernel
theorem dX0_freeNodesIfJoined_53 : decode cX0_freeNodesIfJoined 53 = .ok (.ireturn, 1) := by decide +kernel
theorem dX0_grantsLeft_0 : decode cX0_grantsLeft 0 = .ok (.aload_n 0, 1) := by decide +kernel
theorem dX0_grantsLeft_1 : decode cX0_grantsLeft 1 = .ok (.iload_n 1, 1) := by decide +kernel
theorem dX0_grantsLeft_2 : decode cX0_grantsLeft 2 = .ok (.invokevirtual 131, 3) := by decide +kernel
theorem dX0_grantsLeft_5 : decode cX0_grantsLeft 5 = .ok (.iconst 0, 1) := by decide +kernel
theorem dX0_grantsLeft_6 : decode cX0_grantsLeft 6 = .ok (.istore_n 2, 1) := by decide +kernel
theorem dX0_grantsLeft_7 : decode cX0_grantsLeft 7 = .ok (.iconst 1, 1) := by decide +kernel
theorem dX0_grantsLeft_8 : decode cX0_grantsLeft 8 = .ok (.istore_n 3, 1) := by decide +kernel
theorem dX0_grantsLeft_9 : decode cX0_grantsLeft 9 = .ok (.aload_n 0, 1) := by decide +kernel
theorem dX0_grantsLeft_10 : decode cX0_grantsLeft 10 = .ok (.getfield 21, 3) := by decide +kernel
theorem dX0_grantsLeft_13 : decode cX0_grantsLeft 13 = .ok (.invokevirtual 114, 3) := by decide +kernel
theorem dX0_grantsLeft_16 : decode cX0_grantsLeft 16 = .ok (.istore 4, 2) := by decide +kernel
theorem dX0_grantsLeft_18 : decode cX0_grantsLeft 18 = .ok (.iload 4, 2) := by decide +kernel
theorem dX0_grantsLeft_20 : decode cX0_grantsLeft 20 = .ok (.ifCond .le 85, 3) := by decide +kernel
theorem dX0_grantsLeft_23 : decode cX0_grantsLeft 23 = .ok (.iload_n 3, 1) := by decide +kernel
theorem dX0_grantsLeft_24 : decode cX0_grantsLeft 24 = .ok (.ifCond .eq 81, 3) := by decide +kernel
theorem dX0_grantsLeft_27 : decode cX0_grantsLeft 27 = .ok (.aload_n 0, 1) := by decide +kernel
theorem dX0_grantsLeft_28 : decode cX0_grantsLeft 28 = .ok (.getfield 21, 3) := by decide +kernel
theorem dX0_grantsLeft_31 : decode cX0_grantsLeft 31 = .ok (.iload_n 3, 1) := by decide +kernel
theorem dX0_grantsLeft_32 : decode cX0_grantsLeft 32 = .ok (.invokevirtual 134, 3) := by decide +kernel
theorem dX0_grantsLeft_35 : decode cX0_grantsLeft 35 = .ok (.ifCond .eq 24, 3) := by decide +kernel
theorem dX0_grantsLeft_38 : decode cX0_grantsLeft 38 = .ok (.aload_n 0, 1) := by decide +kernel
theorem dX0_grantsLeft_39 : decode cX0_grantsLeft 39 = .ok (.iload_n 3, 1) := by decide +kernel
theorem dX0_grantsLeft_40 : decode cX0_grantsLeft 40 = .ok (.iload_n 1, 1) := by decide +kernel
theorem dX0_grantsLeft_41 : decode cX0_grantsLeft 41 = .ok (.invokevirtual 137, 3) := by decide +kernel
theorem dX0_grantsLeft_44 : decode cX0_grantsLeft 44 = .ok (.ifCond .eq 15, 3) := by decide +kernel
theorem dX0_grantsLeft_47 : decode cX0_grantsLeft 47 = .ok (.aload_n 0, 1) := by decide +kernel
theorem dX0_grantsLeft_48 : decode cX0_grantsLeft 48 = .ok (.getfield 21, 3) := by decide +kernel
theorem dX0_grantsLeft_51 : decode cX0_grantsLeft 51 = .ok (.iload_n 3, 1) := by decide +kernel
theorem dX0_grantsLeft_52 : decode cX0_grantsLeft 52 = .ok (.invokevirtual 134, 3) := by decide +kernel
theorem dX0_grantsLeft_55 : decode cX0_grantsLeft 55 = .ok (.istore_n 3, 1) := by decide +kernel
theorem dX0_grantsLeft_56 : decode cX0_grantsLeft 56 = .ok (.goto 43, 3) := by decide +kernel
theorem dX0_grantsLeft_59 : decode cX0_grantsLeft 59 = .ok (.iload_n 2, 1) := by decide +kernel
theorem dX0_grantsLeft_60 : decode cX0_grantsLeft 60 = .ok (.aload_n 0, 1) := by decide +kernel
theorem dX0_grantsLeft_61 : decode cX0_grantsLeft 61 = .ok (.getfield 21, 3) := by decide +kernel
theorem dX0_grantsLeft_64 : decode cX0_grantsLeft 64 = .ok (.iload_n 3, 1) := by decide +kernel
theorem dX0_grantsLeft_65 : decode cX0_grantsLeft 65 = .ok (.invokevirtual 141, 3) := by decide +kernel
theorem dX0_grantsLeft_68 : decode cX0_grantsLeft 68 = .ok (.ifCond .eq 7, 3) := by decide +kernel
theorem dX0_grantsLeft_71 : decode cX0_grantsLeft 71 = .ok (.iconst 0, 1) := by decide +kernel
theorem dX0_grantsLeft_72 : decode cX0_grantsLeft 72 = .ok (.goto 16, 3) := by decide +kernel
theorem dX0_grantsLeft_75 : decode cX0_grantsLeft 75 = .ok (.aload_n 0, 1) := by decide +kernel
theorem dX0_grantsLeft_76 : decode cX0_grantsLeft 76 = .ok (.getfield 35, 3) := by decide +kernel
theorem dX0_grantsLeft_79 : decode cX0_grantsLeft 79 = .ok (.aload_n 0, 1) := by decide +kernel
theorem dX0_grantsLeft_80 : decode cX0_grantsLeft 80 = .ok (.getfield 21, 3) := by decide +kernel
theorem dX0_grantsLeft_83 : decode cX0_grantsLeft 83 = .ok (.iload_n 3, 1) := by decide +kernel
theorem dX0_grantsLeft_84 : decode cX0_grantsLeft 84 = .ok (.invokevirtual 80, 3) := by decide +kernel
theorem dX0_grantsLeft_87 : decode cX0_grantsLeft 87 = .ok (.iaload, 1) := by decide +kernel
theorem dX0_grantsLeft_88 : decode cX0_grantsLeft 88 = .ok (.iadd, 1) := by decide +kernel
theorem dX0_grantsLeft_89 : decode cX0_grantsLeft 89 = .ok (.istore_n 2, 1) := by decide +kernel
theorem dX0_grantsLeft_90 : decode cX0_grantsLeft 90 = .ok (.aload_n 0, 1) := by decide +kernel
theorem dX0_grantsLeft_91 : decode cX0_grantsLeft 91 = .ok (.getfield 21, 3) := by decide +kernel
theorem dX0_grantsLeft_94 : decode cX0_grantsLeft 94 = .ok (.iload_n 3, 1) := by decide +kernel
theorem dX0_grantsLeft_95 : decode cX0_grantsLeft 95 = .ok (.invokevirtual 128, 3) := by decide +kernel
theorem dX0_grantsLeft_98 : decode cX0_grantsLeft 98 = .ok (.istore_n 3, 1) := by decide +kernel
theorem dX0_grantsLeft_99 : decode cX0_grantsLeft 99 = .ok (.iinc 4 (-1), 3) := by decide +kernel
theorem dX0_grantsLeft_102 : decode cX0_grantsLeft 102 = .ok (.goto (-84), 3) := by decide +kernel
theorem dX0_grantsLeft_105 : decode cX0_grantsLeft 105 = .ok (.iload_n 2, 1) := by decide +kernel
theorem dX0_grantsLeft_106 : decode cX0_grantsLeft 106 = .ok (.ireturn, 1) := by decide +kernel
theorem dX0_fillShares_0 : decode cX0_fillShares 0 = .ok (.iconst 0, 1) := by decide +kernel
theorem dX0_fillShares_1 : decode cX0_fillShares 1 = .ok (.istore_n 2, 1) := by decide +kernel
theorem dX0_fillShares_2 : decode cX0_fillShares 2 = .ok (.iload_n 2, 1) := by decide +kernel
theorem dX0_fillShares_3 : decode cX0_fillShares 3 = .ok (.aload_n 0, 1) := by decide +kernel
theorem dX0_fillShares_4 : decode cX0_fillShares 4 = .ok (.getfield 42, 3) := by decide +kernel
theorem dX0_fillShares_7 : decode cX0_fillShares 7 = .ok (.if_icmp .ge 72, 3) := by decide +kernel
theorem dX0_fillShares_10 : decode cX0_fillShares 10 = .ok (.aload_n 0, 1) := by decide +kernel
theorem dX0_fillShares_11 : decode cX0_fillShares 11 = .ok (.getfield 32, 3) := by decide +kernel
theorem dX0_fillShares_14 : decode cX0_fillShares 14 = .ok (.iload_n 2, 1) := by decide +kernel
theorem dX0_fillShares_15 : decode cX0_fillShares 15 = .ok (.iaload, 1) := by decide +kernel
theorem dX0_fillShares_16 : decode cX0_fillShares 16 = .ok (.istore_n 3, 1) := by decide +kernel
theorem dX0_fillShares_17 : decode cX0_fillShares 17 = .ok (.aload_n 0, 1) := by decide +kernel
theorem dX0_fillShares_18 : decode cX0_fillShares 18 = .ok (.getfield 35, 3) := by decide +kernel
theorem dX0_fillShares_21 : decode cX0_fillShares 21 = .ok (.iload_n 3, 1) := by decide +kernel
theorem dX0_fillShares_22 : decode cX0_fillShares 22 = .ok (.aload_n 0, 1) := by decide +kernel
theorem dX0_fillShares_23 : decode cX0_fillShares 23 = .ok (.getfield 12, 3) := by decide +kernel
theorem dX0_fillShares_26 : decode cX0_fillShares 26 = .ok (.getfield 77, 3) := by decide +kernel
theorem dX0_fillShares_29 : decode cX0_fillShares 29 = .ok (.iload_n 3, 1) := by decide +kernel
theorem dX0_fillShares_30 : decode cX0_fillShares 30 = .ok (.iaload, 1) := by decide +kernel
theorem dX0_fillShares_31 : decode cX0_fillShares 31 = .ok (.iload_n 1, 1) := by decide +kernel
theorem dX0_fillShares_32 : decode cX0_fillShares 32 = .ok (.if_icmp .ge 7, 3) := by decide +kernel
theorem dX0_fillShares_35 : decode cX0_fillShares 35 = .ok (.iconst 0, 1) := by decide +kernel
theorem dX0_fillShares_36 : decode cX0_fillShares 36 = .ok (.goto 36, 3) := by decide +kernel
theorem dX0_fillShares_39 : decode cX0_fillShares 39 = .ok (.iconst 1, 1) := by decide +kernel
theorem dX0_fillShares_40 : decode cX0_fillShares 40 = .ok (.aload_n 0, 1) := by decide +kernel
theorem dX0_fillShares_41 : decode cX0_fillShares 41 = .ok (.getfield 35, 3) := by decide +kernel
theorem dX0_fillShares_44 : decode cX0_fillShares 44 = .ok (.aload_n 0, 1) := by decide +kernel
theorem dX0_fillShares_45 : decode cX0_fillShares 45 = .ok (.getfield 12, 3) := by decide +kernel
theorem dX0_fillShares_48 : decode cX0_fillShares 48 = .ok (.getfield 145, 3) := by decide +kernel
theorem dX0_fillShares_51 : decode cX0_fillShares 51 = .ok (.iload_n 3, 1) := by decide +kernel
theorem dX0_fillShares_52 : decode cX0_fillShares 52 = .ok (.iaload, 1) := by decide +kernel
theorem dX0_fillShares_53 : decode cX0_fillShares 53 = .ok (.iaload, 1) := by decide +kernel
theorem dX0_fillShares_54 : decode cX0_fillShares 54 = .ok (.aload_n 0, 1) := by decide +kernel
theorem dX0_fillShares_55 : decode cX0_fillShares 55 = .ok (.getfield 35, 3) := by decide +kernel
theorem dX0_fillShares_58 : decode cX0_fillShares 58 = .ok (.aload_n 0, 1) := by decide +kernel
theorem dX0_fillShares_59 : decode cX0_fillShares 59 = .ok (.getfield 12, 3) := by decide +kernel
theorem dX0_fillShares_62 : decode cX0_fillShares 62 = .ok (.getfield 148, 3) := by decide +kernel
theorem dX0_fillShares_65 : decode cX0_fillShares 65 = .ok (.iload_n 3, 1) := by decide +kernel
theorem dX0_fillShares_66 : decode cX0_fillShares 66 = .ok (.iaload, 1) := by decide +kernel
theorem dX0_fillShares_67 : decode cX0_fillShares 67 = .ok (.iaload, 1) := by decide +kernel
theorem dX0_fillShares_68 : decode cX0_fillShares 68 = .ok (.iadd, 1) := by decide +kernel
theorem dX0_fillShares_69 : decode cX0_fillShares 69 = .ok (.invokestatic 123, 3) := by decide +kernel
theorem dX0_fillShares_72 : decode cX0_fillShares 72 = .ok (.iastore, 1) := by decide +kernel
theorem dX0_fillShares_73 : decode cX0_fillShares 73 = .ok (.iinc 2 1, 3) := by decide +kernel
theorem dX0_fillShares_76 : decode cX0_fillShares 76 = .ok (.goto (-74), 3) := by decide +kernel
theorem dX0_fillShares_79 : decode cX0_fillShares 79 = .ok (.return_, 1) := by decide +kernel
theorem dX0_childHolds_0 : decode cX0_childHolds 0 = .ok (.aload_n 0, 1) := by decide +kernel
theorem dX0_childHolds_1 : decode cX0_childHolds 1 = .ok (.getfield 21, 3) := by decide +kernel
theorem dX0_childHolds_4 : decode cX0_childHolds 4 = .ok (.iload_n 1, 1) := by decide +kernel
theorem dX0_childHolds_5 : decode cX0_childHolds 5 = .ok (.invokevirtual 80, 3) := by decide +kernel
theorem dX0_childHolds_8 : decode cX0_childHolds 8 = .ok (.istore_n 3, 1) := by decide +kernel
theorem dX0_childHolds_9 : decode cX0_childHolds 9 = .ok (.aload_n 0, 1) := by decide +kernel
theorem dX0_childHolds_10 : decode cX0_childHolds 10 = .ok (.getfield 12, 3) := by decide +kernel
theorem dX0_childHolds_13 : decode cX0_childHolds 13 = .ok (.getfield 77, 3) := by decide +kernel
theorem dX0_childHolds_16 : decode cX0_childHolds 16 = .ok (.aload_n 0, 1) := by decide +kernel
theorem dX0_childHolds_17 : decode cX0_childHolds 17 = .ok (.getfield 12, 3) := by decide +kernel
theorem dX0_childHolds_20 : decode cX0_childHolds 20 = .ok (.getfield 145, 3) := by decide +kernel
theorem dX0_childHolds_23 : decode cX0_childHolds 23 = .ok (.iload_n 3, 1) := by decide +kernel
theorem dX0_childHolds_24 : decode cX0_childHolds 24 = .ok (.iaload, 1) := by decide +kernel
theorem dX0_childHolds_25 : decode cX0_childHolds 25 = .ok (.iaload, 1) := by decide +kernel
theorem dX0_childHolds_26 : decode cX0_childHolds 26 = .ok (.iload_n 2, 1) := by decide +kernel
theorem dX0_childHolds_27 : decode cX0_childHolds 27 = .ok (.if_icmp .ge 24, 3) := by decide +kernel
theorem dX0_childHolds_30 : decode cX0_childHolds 30 = .ok (.aload_n 0, 1) := by decide +kernel
theorem dX0_childHolds_31 : decode cX0_childHolds 31 = .ok (.getfield 12, 3) := by decide +kernel
theorem dX0_childHolds_34 : decode cX0_childHolds 34 = .ok (.getfield 77, 3) := by decide +kernel
theorem dX0_childHolds_37 : decode cX0_childHolds 37 = .ok (.aload_n 0, 1) := by decide +kernel
theorem dX0_childHolds_38 : decode cX0_childHolds 38 = .ok (.getfield 12, 3) := by decide +kernel
theorem dX0_childHolds_41 : decode cX0_childHolds 41 = .ok (.getfield 148, 3) := by decide +kernel
theorem dX0_childHolds_44 : decode cX0_childHolds 44 = .ok (.iload_n 3, 1) := by decide +kernel
theorem dX0_childHolds_45 : decode cX0_childHolds 45 = .ok (.iaload, 1) := by decide +kernel
theorem dX0_childHolds_46 : decode cX0_childHolds 46 = .ok (.iaload, 1) := by decide +kernel
theorem dX0_childHolds_47 : decode cX0_childHolds 47 = .ok (.iload_n 2, 1) := by decide +kernel
theorem dX0_childHolds_48 : decode cX0_childHolds 48 = .ok (.if_icmp .lt 7, 3) := by decide +kernel
theorem dX0_childHolds_51 : decode cX0_childHolds 51 = .ok (.iconst 1, 1) := by decide +kernel
theorem dX0_childHolds_52 : decode cX0_childHolds 52 = .ok (.goto 4, 3) := by decide +kernel
theorem dX0_childHolds_55 : decode cX0_childHolds 55 = .ok (.iconst 0, 1) := by decide +kernel
theorem dX0_childHolds_56 : decode cX0_childHolds 56 = .ok (.ireturn, 1) := by decide +kernel
theorem dX0_sortBySize_0 : decode cX0_sortBySize 0 = .ok (.aload_n 0, 1) := by decide +kernel
theorem dX0_sortBySize_1 : decode cX0_sortBySize 1 = .ok (.iconst 0, 1) := by decide +kernel
theorem dX0_sortBySize_2 : decode cX0_sortBySize 2 = .ok (.putfield 42, 3) := by decide +kernel
theorem dX0_sortBySize_5 : decode cX0_sortBySize 5 = .ok (.iconst 1, 1) := by decide +kernel
theorem dX0_sortBySize_6 : decode cX0_sortBySize 6 = .ok (.istore_n 1, 1) := by decide +kernel
theorem dX0_sortBySize_7 : decode cX0_sortBySize 7 = .ok (.iload_n 1, 1) := by decide +kernel
theorem dX0_sortBySize_8 : decode cX0_sortBySize 8 = .ok (.bipush 24, 2) := by decide +kernel
theorem dX0_sortBySize_10 : decode cX0_sortBySize 10 = .ok (.if_icmp .gt 91, 3) := by decide +kernel
theorem dX0_sortBySize_13 : decode cX0_sortBySize 13 = .ok (.aload_n 0, 1) := by decide +kernel
theorem dX0_sortBySize_14 : decode cX0_sortBySize 14 = .ok (.iload_n 1, 1) := by decide +kernel
theorem dX0_sortBySize_15 : decode cX0_sortBySize 15 = .ok (.invokevirtual 151, 3) := by decide +kernel
theorem dX0_sortBySize_18 : decode cX0_sortBySize 18 = .ok (.ifCond .eq 77, 3) := by decide +kernel
theorem dX0_sortBySize_21 : decode cX0_sortBySize 21 = .ok (.aload_n 0, 1) := by decide +kernel
theorem dX0_sortBySize_22 : decode cX0_sortBySize 22 = .ok (.getfield 42, 3) := by decide +kernel
theorem dX0_sortBySize_25 : decode cX0_sortBySize 25 = .ok (.istore_n 2, 1) := by decide +kernel
theorem dX0_sortBySize_26 : decode cX0_sortBySize 26 = .ok (.iload_n 2, 1) := by decide +kernel
theorem dX0_sortBySize_27 : decode cX0_sortBySize 27 = .ok (.ifCond .le 51, 3) := by decide +kernel
theorem dX0_sortBySize_30 : decode cX0_sortBySize 30 = .ok (.aload_n 0, 1) := by decide +kernel
theorem dX0_sortBySize_31 : decode cX0_sortBySize 31 = .ok (.getfield 12, 3) := by decide +kernel
theorem dX0_sortBySize_34 : decode cX0_sortBySize 34 = .ok (.getfield 77, 3) := by decide +kernel
theorem dX0_sortBySize_37 : decode cX0_sortBySize 37 = .ok (.aload_n 0, 1) := by decide +kernel
theorem dX0_sortBySize_38 : decode cX0_sortBySize 38 = .ok (.getfield 32, 3) := by decide +kernel
theorem dX0_sortBySize_41 : decode cX0_sortBySize 41 = .ok (.iload_n 2, 1) := by decide +kernel
theorem dX0_sortBySize_42 : decode cX0_sortBySize 42 = .ok (.iconst 1, 1) := by decide +kernel
theorem dX0_sortBySize_43 : decode cX0_sortBySize 43 = .ok (.isub, 1) := by decide +kernel
theorem dX0_sortBySize_44 : decode cX0_sortBySize 44 = .ok (.iaload, 1) := by decide +kernel
theorem dX0_sortBySize_45 : decode cX0_sortBySize 45 = .ok (.iaload, 1) := by decide +kernel
theorem dX0_sortBySize_46 : decode cX0_sortBySize 46 = .ok (.aload_n 0, 1) := by decide +kernel
theorem dX0_sortBySize_47 : decode cX0_sortBySize 47 = .ok (.getfield 12, 3) := by decide +kernel
theorem dX0_sortBySize_50 : decode cX0_sortBySize 50 = .ok (.getfield 77, 3) := by decide +kernel
theorem dX0_sortBySize_53 : decode cX0_sortBySize 53 = .ok (.iload_n 1, 1) := by decide +kernel
theorem dX0_sortBySize_54 : decode cX0_sortBySize 54 = .ok (.iaload, 1) := by decide +kernel
theorem dX0_sortBySize_55 : decode cX0_sortBySize 55 = .ok (.if_icmp .le 23, 3) := by decide +kernel
theorem dX0_sortBySize_58 : decode cX0_sortBySize 58 = .ok (.aload_n 0, 1) := by decide +kernel
theorem dX0_sortBySize_59 : decode cX0_sortBySize 59 = .ok (.getfield 32, 3) := by decide +kernel
theorem dX0_sortBySize_62 : decode cX0_sortBySize 62 = .ok (.iload_n 2, 1) := by decide +kernel
theorem dX0_sortBySize_63 : decode cX0_sortBySize 63 = .ok (.aload_n 0, 1) := by decide +kernel
theorem dX0_sortBySize_64 : decode cX0_sortBySize 64 = .ok (.getfield 32, 3) := by decide +kernel
theorem dX0_sortBySize_67 : decode cX0_sortBySize 67 = .ok (.iload_n 2, 1) := by decide +kernel
theorem dX0_sortBySize_68 : decode cX0_sortBySize 68 = .ok (.iconst 1, 1) := by decide +kernel
theorem dX0_sortBySize_69 : decode cX0_sortBySize 69 = .ok (.isub, 1) := by decide +kernel
theorem dX0_sortBySize_70 : decode cX0_sortBySize 70 = .ok (.iaload, 1) := by decide +kernel
theorem dX0_sortBySize_71 : decode cX0_sortBySize 71 = .ok (.iastore, 1) := by decide +kernel
theorem dX0_sortBySize_72 : decode cX0_sortBySize 72 = .ok (.iinc 2 (-1), 3) := by decide +kernel
theorem dX0_sortBySize_75 : decode cX0_sortBySize 75 = .ok (.goto (-49), 3) := by decide +kernel
theorem dX0_sortBySize_78 : decode cX0_sortBySize 78 = .ok (.aload_n 0, 1) := by decide +kernel
theorem dX0_sortBySize_79 : decode cX0_sortBySize 79 = .ok (.getfield 32, 3) := by decide +kernel
theorem dX0_sortBySize_82 : decode cX0_sortBySize 82 = .ok (.iload_n 2, 1) := by decide +kernel
theorem dX0_sortBySize_83 : decode cX0_sortBySize 83 = .ok (.iload_n 1, 1) := by decide +kernel
theorem dX0_sortBySize_84 : decode cX0_sortBySize 84 = .ok (.iastore, 1) := by decide +kernel
theorem dX0_sortBySize_85 : decode cX0_sortBySize 85 = .ok (.aload_n 0, 1) := by decide +kernel
theorem dX0_sortBySize_86 : decode cX0_sortBySize 86 = .ok (.dup, 1) := by decide +kernel
theorem dX0_sortBySize_87 : decode cX0_sortBySize 87 = .ok (.getfield 42, 3) := by decide +kernel
theorem dX0_sortBySize_90 : decode cX0_sortBySize 90 = .ok (.iconst 1, 1) := by decide +kernel
theorem dX0_sortBySize_91 : decode cX0_sortBySize 91 = .ok (.iadd, 1) := by decide +kernel
theorem dX0_sortBySize_92 : decode cX0_sortBySize 92 = .ok (.putfield 42, 3) := by decide +kernel
theorem dX0_sortBySize_95 : decode cX0_sortBySize 95 = .ok (.iinc 1 1, 3) := by decide +kernel
theorem dX0_sortBySize_98 : decode cX0_sortBySize 98 = .ok (.goto (-91), 3) := by decide +kernel
theorem dX0_sortBySize_101 : decode cX0_sortBySize 101 = .ok (.return_, 1) := by decide +kernel
theorem dX0_tightest_0 : decode cX0_tightest 0 = .ok (.iconst 0, 1) := by decide +kernel
theorem dX0_tightest_1 : decode cX0_tightest 1 = .ok (.istore_n 2, 1) := by decide +kernel
theorem dX0_tightest_2 : decode cX0_tightest 2 = .ok (.iconst 0, 1) := by decide +kernel
theorem dX0_tightest_3 : decode cX0_tightest 3 = .ok (.istore_n 3, 1) := by decide +kernel
theorem dX0_tightest_4 : decode cX0_tightest 4 = .ok (.iconst 0, 1) := by decide +kernel
theorem dX0_tightest_5 : decode cX0_tightest 5 = .ok (.istore 4, 2) := by decide +kernel
theorem dX0_tightest_7 : decode cX0_tightest 7 = .ok (.iload 4, 2) := by decide +kernel
theorem dX0_tightest_9 : decode cX0_tightest 9 = .ok (.aload_n 0, 1) := by decide +kernel
theorem dX0_tightest_10 : decode cX0_tightest 10 = .ok (.getfield 42, 3) := by decide +kernel
theorem dX0_tightest_13 : decode cX0_tightest 13 = .ok (.if_icmp .ge 83, 3) := by decide +kernel
theorem dX0_tightest_16 : decode cX0_tightest 16 = .ok (.aload_n 0, 1) := by decide +kernel
theorem dX0_tightest_17 : decode cX0_tightest 17 = .ok (.getfield 32, 3) := by decide +kernel
theorem dX0_tightest_20 : decode cX0_tightest 20 = .ok (.iload 4, 2) := by decide +kernel
theorem dX0_tightest_22 : decode cX0_tightest 22 = .ok (.iaload, 1) := by decide +kernel
theorem dX0_tightest_23 : decode cX0_tightest 23 = .ok (.istore 5, 2) := by decide +kernel
theorem dX0_tightest_25 : decode cX0_tightest 25 = .ok (.aload_n 0, 1) := by decide +kernel
theorem dX0_tightest_26 : decode cX0_tightest 26 = .ok (.getfield 12, 3) := by decide +kernel
theorem dX0_tightest_29 : decode cX0_tightest 29 = .ok (.getfield 77, 3) := by decide +kernel
theorem dX0_tightest_32 : decode cX0_tightest 32 = .ok (.iload 5, 2) := by decide +kernel
theorem dX0_tightest_34 : decode cX0_tightest 34 = .ok (.iaload, 1) := by decide +kernel
theorem dX0_tightest_35 : decode cX0_tightest 35 = .ok (.iload_n 1, 1) := by decide +kernel
theorem dX0_tightest_36 : decode cX0_tightest 36 = .ok (.if_icmp .lt 54, 3) := by decide +kernel
theorem dX0_tightest_39 : decode cX0_tightest 39 = .ok (.aload_n 0, 1) := by decide +kernel
theorem dX0_tightest_40 : decode cX0_tightest 40 = .ok (.getfield 21, 3) := by decide +kernel
theorem dX0_tightest_43 : decode cX0_tightest 43 = .ok (.iload 5, 2) := by decide +kernel
theorem dX0_tightest_45 : decode cX0_tightest 45 = .ok (.invokevirtual 154, 3) := by decide +kernel
theorem dX0_tightest_48 : decode cX0_tightest 48 = .ok (.ifCond .eq 42, 3) := by decide +kernel
theorem dX0_tightest_51 : decode cX0_tightest 51 = .ok (.iload_n 2, 1) := by decide +kernel
theorem dX0_tightest_52 : decode cX0_tightest 52 = .ok (.ifCond .eq 20, 3) := by decide +kernel
theorem dX0_tightest_55 : decode cX0_tightest 55 = .ok (.aload_n 0, 1) := by decide +kernel
theorem dX0_tightest_56 : decode cX0_tightest 56 = .ok (.getfield 12, 3) := by decide +kernel
theorem dX0_tightest_59 : decode cX0_tightest 59 = .ok (.getfield 77, 3) := by decide +kernel
theorem dX0_tightest_62 : decode cX0_tightest 62 = .ok (.iload 5, 2) := by decide +kernel
theorem dX0_tightest_64 : decode cX0_tightest 64 = .ok (.iaload, 1) := by decide +kernel
theorem dX0_tightest_65 : decode cX0_tightest 65 = .ok (.iload_n 3, 1) := by decide +kernel
theorem dX0_tightest_66 : decode cX0_tightest 66 = .ok (.if_icmp .eq 6, 3) := by decide +kernel
theorem dX0_tightest_69 : decode cX0_tightest 69 = .ok (.goto 27, 3) := by decide +kernel
theorem dX0_tightest_72 : decode cX0_tightest 72 = .ok (.aload_n 0, 1) := by decide +kernel
theorem dX0_tightest_73 : decode cX0_tightest 73 = .ok (.getfield 12, 3) := by decide +kernel
theorem dX0_tightest_76 : decode cX0_tightest 76 = .ok (.getfield 77, 3) := by decide +kernel
theorem dX0_tightest_79 : decode cX0_tightest 79 = .ok (.iload 5, 2) := by decide +kernel
theorem dX0_tightest_81 : decode cX0_tightest 81 = .ok (.iaload, 1) := by decide +kernel
theorem dX0_tightest_82 : decode cX0_tightest 82 = .ok (.istore_n 3, 1) := by decide +kernel
theorem dX0_tightest_83 : decode cX0_tightest 83 = .ok (.iload_n 2, 1) := by decide +kernel
theorem dX0_tightest_84 : decode cX0_tightest 84 = .ok (.iconst 1, 1) := by decide +kernel
theorem dX0_tightest_85 : decode cX0_tightest 85 = .ok (.iload 5, 2) := by decide +kernel
theorem dX0_tightest_87 : decode cX0_tightest 87 = .ok (.ishl, 1) := by decide +kernel
theorem dX0_tightest_88 : decode cX0_tightest 88 = .ok (.ior, 1) := by decide +kernel
theorem dX0_tightest_89 : decode cX0_tightest 89 = .ok (.istore_n 2, 1) := by decide +kernel
theorem dX0_tightest_90 : decode cX0_tightest 90 = .ok (.iinc 4 1, 3) := by decide +kernel
theorem dX0_tightest_93 : decode cX0_tightest 93 = .ok (.goto (-86), 3) := by decide +kernel
theorem dX0_tightest_96 : decode cX0_tightest 96 = .ok (.aload_n 0, 1) := by decide +kernel
theorem dX0_tightest_97 : decode cX0_tightest 97 = .ok (.getfield 21, 3) := by decide +kernel
theorem dX0_tightest_100 : decode cX0_tightest 100 = .ok (.iload_n 2, 1) := by decide +kernel
theorem dX0_tightest_101 : decode cX0_tightest 101 = .ok (.iconst 0, 1) := by decide +kernel
theorem dX0_tightest_102 : decode cX0_tightest 102 = .ok (.invokevirtual 157, 3) := by decide +kernel
theorem dX0_tightest_105 : decode cX0_tightest 105 = .ok (.ireturn, 1) := by decide +kernel
theorem dX0_carve_0 : decode cX0_carve 0 = .ok (.iload_n 1, 1) := by decide +kernel
theorem dX0_carve_1 : decode cX0_carve 1 = .ok (.istore_n 3, 1) := by decide +kernel
theorem dX0_carve_2 : decode cX0_carve 2 = .ok (.iconst 0, 1) := by decide +kernel
theorem dX0_carve_3 : decode cX0_carve 3 = .ok (.istore 4, 2) := by decide +kernel
theorem dX0_carve_5 : decode cX0_carve 5 = .ok (.iload 4, 2) := by decide +kernel
theorem dX0_carve_7 : decode cX0_carve 7 = .ok (.bipush 24, 2) := by decide +kernel
theorem dX0_carve_9 : decode cX0_carve 9 = .ok (.if_icmp .ge 186, 3) := by decide +kernel
theorem dX0_carve_12 : decode cX0_carve 12 = .ok (.aload_n 0, 1) := by decide +kernel
theorem dX0_carve_13 : decode cX0_carve 13 = .ok (.iload_n 3, 1) := by decide +kernel
theorem dX0_carve_14 : decode cX0_carve 14 = .ok (.iload_n 2, 1) := by decide +kernel
theorem dX0_carve_15 : decode cX0_carve 15 = .ok (.invokevirtual 137, 3) := by decide +kernel
theorem dX0_carve_18 : decode cX0_carve 18 = .ok (.ifCond .eq 177, 3) := by decide +kernel
theorem dX0_carve_21 : decode cX0_carve 21 = .ok (.aload_n 0, 1) := by decide +kernel
theorem dX0_carve_22 : decode cX0_carve 22 = .ok (.getfield 21, 3) := by decide +kernel
theorem dX0_carve_25 : decode cX0_carve 25 = .ok (.iload_n 3, 1) := by decide +kernel
theorem dX0_carve_26 : decode cX0_carve 26 = .ok (.invokevirtual 80, 3) := by decide +kernel
theorem dX0_carve_29 : decode cX0_carve 29 = .ok (.istore 5, 2) := by decide +kernel
theorem dX0_carve_31 : decode cX0_carve 31 = .ok (.aload_n 0, 1) := by decide +kernel
theorem dX0_carve_32 : decode cX0_carve 32 = .ok (.getfield 12, 3) := by decide +kernel
theorem dX0_carve_35 : decode cX0_carve 35 = .ok (.getfield 145, 3) := by decide +kernel
theorem dX0_carve_38 : decode cX0_carve 38 = .ok (.iload 5, 2) := by decide +kernel
theorem dX0_carve_40 : decode cX0_carve 40 = .ok (.iaload, 1) := by decide +kernel
theorem dX0_carve_41 : decode cX0_carve 41 = .ok (.istore 6, 2) := by decide +kernel
theorem dX0_carve_43 : decode cX0_carve 43 = .ok (.aload_n 0, 1) := by decide +kernel
theorem dX0_carve_44 : decode cX0_carve 44 = .ok (.getfield 12, 3) := by decide +kernel
theorem dX0_carve_47 : decode cX0_carve 47 = .ok (.getfield 148, 3) := by decide +kernel
theorem dX0_carve_50 : decode cX0_carve 50 = .ok (.iload 5, 2) := by decide +kernel
theorem dX0_carve_52 : decode cX0_carve 52 = .ok (.iaload, 1) := by decide +kernel
theorem dX0_carve_53 : decode cX0_carve 53 = .ok (.istore 7, 2) := by decide +kernel
theorem dX0_carve_55 : decode cX0_carve 55 = .ok (.aload_n 0, 1) := by decide +kernel
theorem dX0_carve_56 : decode cX0_carve 56 = .ok (.getfield 12, 3) := by decide +kernel
theorem dX0_carve_59 : decode cX0_carve 59 = .ok (.getfield 77, 3) := by decide +kernel
theorem dX0_carve_62 : decode cX0_carve 62 = .ok (.iload 6, 2) := by decide +kernel
theorem dX0_carve_64 : decode cX0_carve 64 = .ok (.iaload, 1) := by decide +kernel
theorem dX0_carve_65 : decode cX0_carve 65 = .ok (.istore 8, 2) := by decide +kernel
theorem dX0_carve_67 : decode cX0_carve 67 = .ok (.aload_n 0, 1) := by decide +kernel
theorem dX0_carve_68 : decode cX0_carve 68 = .ok (.getfield 12, 3) := by decide +kernel
theorem dX0_carve_71 : decode cX0_carve 71 = .ok (.getfield 77, 3) := by decide +kernel
theorem dX0_carve_74 : decode cX0_carve 74 = .ok (.iload 7, 2) := by decide +kernel
theorem dX0_carve_76 : decode cX0_carve 76 = .ok (.iaload, 1) := by decide +kernel
theorem dX0_carve_77 : decode cX0_carve 77 = .ok (.istore 9, 2) := by decide +kernel
theorem dX0_carve_79 : decode cX0_carve 79 = .ok (.aload_n 0, 1) := by decide +kernel
theorem dX0_carve_80 : decode cX0_carve 80 = .ok (.getfield 21, 3) := by decide +kernel
theorem dX0_carve_83 : decode cX0_carve 83 = .ok (.iload_n 3, 1) := by decide +kernel
theorem dX0_carve_84 : decode cX0_carve 84 = .ok (.iload 6, 2) := by decide +kernel
theorem dX0_carve_86 : decode cX0_carve 86 = .ok (.iload 7, 2) := by decide +kernel
theorem dX0_carve_88 : decode cX0_carve 88 = .ok (.iload 8, 2) := by decide +kernel
theorem dX0_carve_90 : decode cX0_carve 90 = .ok (.invokevirtual 160, 3) := by decide +kernel
theorem dX0_carve_93 : decode cX0_carve 93 = .ok (.aload_n 0, 1) := by decide +kernel
theorem dX0_carve_94 : decode cX0_carve 94 = .ok (.getfield 29, 3) := by decide +kernel
theorem dX0_carve_97 : decode cX0_carve 97 = .ok (.iload 5, 2) := by decide +kernel
theorem dX0_carve_99 : decode cX0_carve 99 = .ok (.dup2, 1) := by decide +kernel
theorem dX0_carve_100 : decode cX0_carve 100 = .ok (.iaload, 1) := by decide +kernel
theorem dX0_carve_101 : decode cX0_carve 101 = .ok (.iconst 1, 1) := by decide +kernel
theorem dX0_carve_102 : decode cX0_carve 102 = .ok (.isub, 1) := by decide +kernel
theorem dX0_carve_103 : decode cX0_carve 103 = .ok (.iastore, 1) := by decide +kernel
theorem dX0_carve_104 : decode cX0_carve 104 = .ok (.aload_n 0, 1) := by decide +kernel
theorem dX0_carve_105 : decode cX0_carve 105 = .ok (.getfield 29, 3) := by decide +kernel
theorem dX0_carve_108 : decode cX0_carve 108 = .ok (.iload 6, 2) := by decide +kernel
theorem dX0_carve_110 : decode cX0_carve 110 = .ok (.dup2, 1) := by decide +kernel
theorem dX0_carve_111 : decode cX0_carve 111 = .ok (.iaload, 1) := by decide +kernel
theorem dX0_carve_112 : decode cX0_carve 112 = .ok (.iconst 1, 1) := by decide +kernel
theorem dX0_carve_113 : decode cX0_carve 113 = .ok (.iadd, 1) := by decide +kernel
theorem dX0_carve_114 : decode cX0_carve 114 = .ok (.iastore, 1) := by decide +kernel
theorem dX0_carve_115 : decode cX0_carve 115 = .ok (.aload_n 0, 1) := by decide +kernel
theorem dX0_carve_116 : decode cX0_carve 116 = .ok (.getfield 29, 3) := by decide +kernel
theorem dX0_carve_119 : decode cX0_carve 119 = .ok (.iload 7, 2) := by decide +kernel
theorem dX0_carve_121 : decode cX0_carve 121 = .ok (.dup2, 1) := by decide +kernel
theorem dX0_carve_122 : decode cX0_carve 122 = .ok (.iaload, 1) := by decide +kernel
theorem dX0_carve_123 : decode cX0_carve 123 = .ok (.iconst 1, 1) := by decide +kernel
theorem dX0_carve_124 : decode cX0_carve 124 = .ok (.iadd, 1) := by decide +kernel
theorem dX0_carve_125 : decode cX0_carve 125 = .ok (.iastore, 1) := by decide +kernel
theorem dX0_carve_126 : decode cX0_carve 126 = .ok (.aload_n 0, 1) := by decide +kernel
theorem dX0_carve_127 : decode cX0_carve 127 = .ok (.dup, 1) := by decide +kernel
theorem dX0_carve_128 : decode cX0_carve 128 = .ok (.getfield 57, 3) := by decide +kernel
theorem dX0_carve_131 : decode cX0_carve 131 = .ok (.iconst 1, 1) := by decide +kernel
theorem dX0_carve_132 : decode cX0_carve 132 = .ok (.iadd, 1) := by decide +kernel
theorem dX0_carve_133 : decode cX0_carve 133 = .ok (.putfield 57, 3) := by decide +kernel
theorem dX0_carve_136 : decode cX0_carve 136 = .ok (.iload 8, 2) := by decide +kernel
theorem dX0_carve_138 : decode cX0_carve 138 = .ok (.iload_n 2, 1) := by decide +kernel
theorem dX0_carve_139 : decode cX0_carve 139 = .ok (.if_icmp .lt 20, 3) := by decide +kernel
theorem dX0_carve_142 : decode cX0_carve 142 = .ok (.iload 9, 2) := by decide +kernel
theorem dX0_carve_144 : decode cX0_carve 144 = .ok (.iload_n 2, 1) := by decide +kernel
theorem dX0_carve_145 : decode cX0_carve 145 = .ok (.if_icmp .lt 10, 3) := by decide +kernel
theorem dX0_carve_148 : decode cX0_carve 148 = .ok (.iload 8, 2) := by decide +kernel
theorem dX0_carve_150 : decode cX0_carve 150 = .ok (.iload 9, 2) := by decide +kernel
theorem dX0_carve_152 : decode cX0_carve 152 = .ok (.if_icmp .gt 7, 3) := by decide +kernel
theorem dX0_carve_155 : decode cX0_carve 155 = .ok (.iconst 1, 1) := by decide +kernel
theorem dX0_carve_156 : decode cX0_carve 156 = .ok (.goto 4, 3) := by decide +kernel
theorem dX0_carve_159 : decode cX0_carve 159 = .ok (.iconst 0, 1) := by decide +kernel
theorem dX0_carve_160 : decode cX0_carve 160 = .ok (.istore 10, 2) := by decide +kernel
theorem dX0_carve_162 : decode cX0_carve 162 = .ok (.iload 10, 2) := by decide +kernel
theorem dX0_carve_164 : decode cX0_carve 164 = .ok (.ifCond .eq 14, 3) := by decide +kernel
theorem dX0_carve_167 : decode cX0_carve 167 = .ok (.aload_n 0, 1) := by decide +kernel
theorem dX0_carve_168 : decode cX0_carve 168 = .ok (.getfield 21, 3) := by decide +kernel
theorem dX0_carve_171 : decode cX0_carve 171 = .ok (.iload_n 3, 1) := by decide +kernel
theorem dX0_carve_172 : decode cX0_carve 172 = .ok (.invokevirtual 134, 3) := by decide +kernel
theorem dX0_carve_175 : decode cX0_carve 175 = .ok (.goto 13, 3) := by decide +kernel
theorem dX0_carve_178 : decode cX0_carve 178 = .ok (.aload_n 0, 1) := by decide +kernel
theorem dX0_carve_179 : decode cX0_carve 179 = .ok (.getfield 21, 3) := by decide +kernel
theorem dX0_carve_182 : decode cX0_carve 182 = .ok (.iload_n 3, 1) := by decide +kernel
theorem dX0_carve_183 : decode cX0_carve 183 = .ok (.invokevirtual 134, 3) := by decide +kernel
theorem dX0_carve_186 : decode cX0_carve 186 = .ok (.iconst 1, 1) := by decide +kernel
theorem dX0_carve_187 : decode cX0_carve 187 = .ok (.iadd, 1) := by decide +kernel
theorem dX0_carve_188 : decode cX0_carve 188 = .ok (.istore_n 3, 1) := by decide +kernel
theorem dX0_carve_189 : decode cX0_carve 189 = .ok (.iinc 4 1, 3) := by decide +kernel
theorem dX0_carve_192 : decode cX0_carve 192 = .ok (.goto (-187), 3) := by decide +kernel
theorem dX0_carve_195 : decode cX0_carve 195 = .ok (.iload_n 3, 1) := by decide +kernel
theorem dX0_carve_196 : decode cX0_carve 196 = .ok (.ireturn, 1) := by decide +kernel
theorem dX0_uniteUpward_0 : decode cX0_uniteUpward 0 = .ok (.iload_n 1, 1) := by decide +kernel
theorem dX0_uniteUpward_1 : decode cX0_uniteUpward 1 = .ok (.istore_n 2, 1) := by decide +kernel
theorem dX0_uniteUpward_2 : decode cX0_uniteUpward 2 = .ok (.iconst 0, 1) := by decide +kernel
theorem dX0_uniteUpward_3 : decode cX0_uniteUpward 3 = .ok (.istore_n 3, 1) := by decide +kernel
theorem dX0_uniteUpward_4 : decode cX0_uniteUpward 4 = .ok (.iload_n 3, 1) := by decide +kernel
theorem dX0_uniteUpward_5 : decode cX0_uniteUpward 5 = .ok (.bipush 24, 2) := by decide +kernel
theorem dX0_uniteUpward_7 : decode cX0_uniteUpward 7 = .ok (.if_icmp .ge 59, 3) := by decide +kernel
theorem dX0_uniteUpward_10 : decode cX0_uniteUpward 10 = .ok (.aload_n 0, 1) := by decide +kernel
theorem dX0_uniteUpward_11 : decode cX0_uniteUpward 11 = .ok (.aload_n 0, 1) := by decide +kernel
theorem dX0_uniteUpward_12 : decode cX0_uniteUpward 12 = .ok (.getfield 21, 3) := by decide +kernel
theorem dX0_uniteUpward_15 : decode cX0_uniteUpward 15 = .ok (.iload_n 2, 1) := by decide +kernel
theorem dX0_uniteUpward_16 : decode cX0_uniteUpward 16 = .ok (.invokevirtual 80, 3) := by decide +kernel
theorem dX0_uniteUpward_19 : decode cX0_uniteUpward 19 = .ok (.invokevirtual 164, 3) := by decide +kernel
theorem dX0_uniteUpward_22 : decode cX0_uniteUpward 22 = .ok (.ifCond .eq 44, 3) := by decide +kernel
theorem dX0_uniteUpward_25 : decode cX0_uniteUpward 25 = .ok (.aload_n 0, 1) := by decide +kernel
theorem dX0_uniteUpward_26 : decode cX0_uniteUpward 26 = .ok (.getfield 21, 3) := by decide +kernel
theorem dX0_uniteUpward_29 : decode cX0_uniteUpward 29 = .ok (.aload_n 0, 1) := by decide +kernel
theorem dX0_uniteUpward_30 : decode cX0_uniteUpward 30 = .ok (.getfield 21, 3) := by decide +kernel
theorem dX0_uniteUpward_33 : decode cX0_uniteUpward 33 = .ok (.iload_n 2, 1) := by decide +kernel
theorem dX0_uniteUpward_34 : decode cX0_uniteUpward 34 = .ok (.invokevirtual 167, 3) := by decide +kernel
theorem dX0_uniteUpward_37 : decode cX0_uniteUpward 37 = .ok (.invokevirtual 170, 3) := by decide +kernel
theorem dX0_uniteUpward_40 : decode cX0_uniteUpward 40 = .ok (.ifCond .ne 6, 3) := by decide +kernel
theorem dX0_uniteUpward_43 : decode cX0_uniteUpward 43 = .ok (.goto 23, 3) := by decide +kernel
theorem dX0_uniteUpward_46 : decode cX0_uniteUpward 46 = .ok (.aload_n 0, 1) := by decide +kernel
theorem dX0_uniteUpward_47 : decode cX0_uniteUpward 47 = .ok (.getfield 21, 3) := by decide +kernel
theorem dX0_uniteUpward_50 : decode cX0_uniteUpward 50 = .ok (.iload_n 2, 1) := by decide +kernel
theorem dX0_uniteUpward_51 : decode cX0_uniteUpward 51 = .ok (.invokevirtual 173, 3) := by decide +kernel
theorem dX0_uniteUpward_54 : decode cX0_uniteUpward 54 = .ok (.istore_n 2, 1) := by decide +kernel
theorem dX0_uniteUpward_55 : decode cX0_uniteUpward 55 = .ok (.aload_n 0, 1) := by decide +kernel
theorem dX0_uniteUpward_56 : decode cX0_uniteUpward 56 = .ok (.iload_n 2, 1) := by decide +kernel
theorem dX0_uniteUpward_57 : decode cX0_uniteUpward 57 = .ok (.invokevirtual 117, 3) := by decide +kernel
theorem dX0_uniteUpward_60 : decode cX0_uniteUpward 60 = .ok (.iinc 3 1, 3) := by decide +kernel
theorem dX0_uniteUpward_63 : decode cX0_uniteUpward 63 = .ok (.goto (-59), 3) := by decide +kernel
theorem dX0_uniteUpward_66 : decode cX0_uniteUpward 66 = .ok (.iload_n 2, 1) := by decide +kernel
theorem dX0_uniteUpward_67 : decode cX0_uniteUpward 67 = .ok (.ireturn, 1) := by decide +kernel
theorem dX0_isTooMany_0 : decode cX0_isTooMany 0 = .ok (.aload_n 0, 1) := by decide +kernel
theorem dX0_isTooMany_1 : decode cX0_isTooMany 1 = .ok (.getfield 29, 3) := by decide +kernel
theorem dX0_isTooMany_4 : decode cX0_isTooMany 4 = .ok (.iload_n 1, 1) := by decide +kernel
theorem dX0_isTooMany_5 : decode cX0_isTooMany 5 = .ok (.iaload, 1) := by decide +kernel
theorem dX0_isTooMany_6 : decode cX0_isTooMany 6 = .ok (.aload_n 0, 1) := by decide +kernel
theorem dX0_isTooMany_7 : decode cX0_isTooMany 7 = .ok (.getfield 25, 3) := by decide +kernel
theorem dX0_isTooMany_10 : decode cX0_isTooMany 10 = .ok (.iload_n 1, 1) := by decide +kernel
theorem dX0_isTooMany_11 : decode cX0_isTooMany 11 = .ok (.iaload, 1) := by decide +kernel
theorem dX0_isTooMany_12 : decode cX0_isTooMany 12 = .ok (.if_icmp .le 7, 3) := by decide +kernel
theorem dX0_isTooMany_15 : decode cX0_isTooMany 15 = .ok (.iconst 1, 1) := by decide +kernel
theorem dX0_isTooMany_16 : decode cX0_isTooMany 16 = .ok (.goto 4, 3) := by decide +kernel
theorem dX0_isTooMany_19 : decode cX0_isTooMany 19 = .ok (.iconst 0, 1) := by decide +kernel
theorem dX0_isTooMany_20 : decode cX0_isTooMany 20 = .ok (.ireturn, 1) := by decide +kernel
theorem dX0_unite_0 : decode cX0_unite 0 = .ok (.aload_n 0, 1) := by decide +kernel
theorem dX0_unite_1 : decode cX0_unite 1 = .ok (.getfield 21, 3) := by decide +kernel
theorem dX0_unite_4 : decode cX0_unite 4 = .ok (.iload_n 1, 1) := by decide +kernel
theorem dX0_unite_5 : decode cX0_unite 5 = .ok (.invokevirtual 134, 3) := by decide +kernel
theorem dX0_unite_8 : decode cX0_unite 8 = .ok (.istore_n 2, 1) := by decide +kernel
theorem dX0_unite_9 : decode cX0_unite 9 = .ok (.aload_n 0, 1) := by decide +kernel
theorem dX0_unite_10 : decode cX0_unite 10 = .ok (.getfield 29, 3) := by decide +kernel
theorem dX0_unite_13 : decode cX0_unite 13 = .ok (.aload_n 0, 1) := by decide +kernel
theorem dX0_unite_14 : decode cX0_unite 14 = .ok (.getfield 21, 3) := by decide +kernel
theorem dX0_unite_17 : decode cX0_unite 17 = .ok (.iload_n 2, 1) := by decide +kernel
theorem dX0_unite_18 : decode cX0_unite 18 = .ok (.invokevirtual 80, 3) := by decide +kernel
theorem dX0_unite_21 : decode cX0_unite 21 = .ok (.dup2, 1) := by decide +kernel
theorem dX0_unite_22 : decode cX0_unite 22 = .ok (.iaload, 1) := by decide +kernel
theorem dX0_unite_23 : decode cX0_unite 23 = .ok (.iconst 1, 1) := by decide +kernel
theorem dX0_unite_24 : decode cX0_unite 24 = .ok (.isub, 1) := by decide +kernel
theorem dX0_unite_25 : decode cX0_unite 25 = .ok (.iastore, 1) := by decide +kernel
theorem dX0_unite_26 : decode cX0_unite 26 = .ok (.aload_n 0, 1) := by decide +kernel
theorem dX0_unite_27 : decode cX0_unite 27 = .ok (.getfield 29, 3) := by decide +kernel
theorem dX0_unite_30 : decode cX0_unite 30 = .ok (.aload_n 0, 1) := by decide +kernel
theorem dX0_unite_31 : decode cX0_unite 31 = .ok (.getfield 21, 3) := by decide +kernel
theorem dX0_unite_34 : decode cX0_unite 34 = .ok (.iload_n 2, 1) := by decide +kernel
theorem dX0_unite_35 : decode cX0_unite 35 = .ok (.iconst 1, 1) := by decide +kernel
theorem dX0_unite_36 : decode cX0_unite 36 = .ok (.iadd, 1) := by decide +kernel
theorem dX0_unite_37 : decode cX0_unite 37 = .ok (.invokevirtual 80, 3) := by decide +kernel
theorem dX0_unite_40 : decode cX0_unite 40 = .ok (.dup2, 1) := by decide +kernel
theorem dX0_unite_41 : decode cX0_unite 41 = .ok (.iaload, 1) := by decide +kernel
theorem dX0_unite_42 : decode cX0_unite 42 = .ok (.iconst 1, 1) := by decide +kernel
theorem dX0_unite_43 : decode cX0_unite 43 = .ok (.isub, 1) := by decide +kernel
theorem dX0_unite_44 : decode cX0_unite 44 = .ok (.iastore, 1) := by decide +kernel
theorem dX0_unite_45 : decode cX0_unite 45 = .ok (.aload_n 0, 1) := by decide +kernel
theorem dX0_unite_46 : decode cX0_unite 46 = .ok (.getfield 29, 3) := by decide +kernel
theorem dX0_unite_49 : decode cX0_unite 49 = .ok (.aload_n 0, 1) := by decide +kernel
theorem dX0_unite_50 : decode cX0_unite 50 = .ok (.getfield 21, 3) := by decide +kernel
theorem dX0_unite_53 : decode cX0_unite 53 = .ok (.iload_n 1, 1) := by decide +kernel
theorem dX0_unite_54 : decode cX0_unite 54 = .ok (.invokevirtual 80, 3) := by decide +kernel
theorem dX0_unite_57 : decode cX0_unite 57 = .ok (.dup2, 1) := by decide +kernel
theorem dX0_unite_58 : decode cX0_unite 58 = .ok (.iaload, 1) := by decide +kernel
theorem dX0_unite_59 : decode cX0_unite 59 = .ok (.iconst 1, 1) := by decide +kernel
theorem dX0_unite_60 : decode cX0_unite 60 = .ok (.iadd, 1) := by decide +kernel
theorem dX0_unite_61 : decode cX0_unite 61 = .ok (.iastore, 1) := by decide +kernel
theorem dX0_unite_62 : decode cX0_unite 62 = .ok (.aload_n 0, 1) := by decide +kernel
theorem dX0_unite_63 : decode cX0_unite 63 = .ok (.getfield 21, 3) := by decide +kernel
theorem dX0_unite_66 : decode cX0_unite 66 = .ok (.iload_n 1, 1) := by decide +kernel
theorem dX0_unite_67 : decode cX0_unite 67 = .ok (.invokevirtual 176, 3) := by decide +kernel
theorem dX0_unite_70 : decode cX0_unite 70 = .ok (.aload_n 0, 1) := by decide +kernel
theorem dX0_unite_71 : decode cX0_unite 71 = .ok (.dup, 1) := by decide +kernel
theorem dX0_unite_72 : decode cX0_unite 72 = .ok (.getfield 54, 3) := by decide +kernel
theorem dX0_unite_75 : decode cX0_unite 75 = .ok (.iconst 1, 1) := by decide +kernel
theorem dX0_unite_76 : decode cX0_unite 76 = .ok (.iadd, 1) := by decide +kernel
theorem dX0_unite_77 : decode cX0_unite 77 = .ok (.putfield 54, 3) := by decide +kernel
theorem dX0_unite_80 : decode cX0_unite 80 = .ok (.return_, 1) := by decide +kernel
theorem dX1_init_0 : decode cX1_init 0 = .ok (.aload_n 0, 1) := by decide +kernel
theorem dX1_init_1 : decode cX1_init 1 = .ok (.invokespecial 3, 3) := by decide +kernel
theorem dX1_init_4 : decode cX1_init 4 = .ok (.aload_n 0, 1) := by decide +kernel
theorem dX1_init_5 : decode cX1_init 5 = .ok (.bipush 25, 2) := by decide +kernel
theorem dX1_init_7 : decode cX1_init 7 = .ok (.newarray .int, 2) := by decide +kernel
theorem dX1_init_9 : decode cX1_init 9 = .ok (.putfield 9, 3) := by decide +kernel
theorem dX1_init_12 : decode cX1_init 12 = .ok (.aload_n 0, 1) := by decide +kernel
theorem dX1_init_13 : decode cX1_init 13 = .ok (.bipush 25, 2) := by decide +kernel
theorem dX1_init_15 : decode cX1_init 15 = .ok (.newarray .int, 2) := by decide +kernel
theorem dX1_init_17 : decode cX1_init 17 = .ok (.putfield 15, 3) := by decide +kernel
theorem dX1_init_20 : decode cX1_init 20 = .ok (.aload_n 0, 1) := by decide +kernel
theorem dX1_init_21 : decode cX1_init 21 = .ok (.bipush 25, 2) := by decide +kernel
theorem dX1_init_23 : decode cX1_init 23 = .ok (.newarray .int, 2) := by decide +kernel
theorem dX1_init_25 : decode cX1_init 25 = .ok (.putfield 18, 3) := by decide +kernel
theorem dX1_init_28 : decode cX1_init 28 = .ok (.aload_n 0, 1) := by decide +kernel
theorem dX1_init_29 : decode cX1_init 29 = .ok (.bipush 25, 2) := by decide +kernel
theorem dX1_init_31 : decode cX1_init 31 = .ok (.newarray .int, 2) := by decide +kernel
theorem dX1_init_33 : decode cX1_init 33 = .ok (.putfield 21, 3) := by decide +kernel
theorem dX1_init_36 : decode cX1_init 36 = .ok (.return_, 1) := by decide +kernel
theorem dX1_tell_0 : decode cX1_tell 0 = .ok (.aload_n 0, 1) := by decide +kernel
theorem dX1_tell_1 : decode cX1_tell 1 = .ok (.getfield 9, 3) := by decide +kernel
theorem dX1_tell_4 : decode cX1_tell 4 = .ok (.iload_n 1, 1) := by decide +kernel
theorem dX1_tell_5 : decode cX1_tell 5 = .ok (.iload_n 2, 1) := by decide +kernel
theorem dX1_tell_6 : decode cX1_tell 6 = .ok (.iastore, 1) := by decide +kernel
theorem dX1_tell_7 : decode cX1_tell 7 = .ok (.aload_n 0, 1) := by decide +kernel
theorem dX1_tell_8 : decode cX1_tell 8 = .ok (.getfield 15, 3) := by decide +kernel
theorem dX1_tell_11 : decode cX1_tell 11 = .ok (.iload_n 1, 1) := by decide +kernel
theorem dX1_tell_12 : decode cX1_tell 12 = .ok (.iload_n 3, 1) := by decide +kernel
theorem dX1_tell_13 : decode cX1_tell 13 = .ok (.iastore, 1) := by decide +kernel
theorem dX1_tell_14 : decode cX1_tell 14 = .ok (.aload_n 0, 1) := by decide +kernel
theorem dX1_tell_15 : decode cX1_tell 15 = .ok (.getfield 18, 3) := by decide +kernel
theorem dX1_tell_18 : decode cX1_tell 18 = .ok (.iload_n 1, 1) := by decide +kernel
theorem dX1_tell_19 : decode cX1_tell 19 = .ok (.iload 4, 2) := by decide +kernel
theorem dX1_tell_21 : decode cX1_tell 21 = .ok (.iastore, 1) := by decide +kernel
theorem dX1_tell_22 : decode cX1_tell 22 = .ok (.return_, 1) := by decide +kernel
theorem dX1_copyFrom_0 : decode cX1_copyFrom 0 = .ok (.aload_n 1, 1) := by decide +kernel
theorem dX1_copyFrom_1 : decode cX1_copyFrom 1 = .ok (.getfield 9, 3) := by decide +kernel
theorem dX1_copyFrom_4 : decode cX1_copyFrom 4 = .ok (.iconst 0, 1) := by decide +kernel
theorem dX1_copyFrom_5 : decode cX1_copyFrom 5 = .ok (.aload_n 0, 1) := by decide +kernel
theorem dX1_copyFrom_6 : decode cX1_copyFrom 6 = .ok (.getfield 9, 3) := by decide +kernel
theorem dX1_copyFrom_9 : decode cX1_copyFrom 9 = .ok (.iconst 0, 1) := by decide +kernel
theorem dX1_copyFrom_10 : decode cX1_copyFrom 10 = .ok (.bipush 25, 2) := by decide +kernel
theorem dX1_copyFrom_12 : decode cX1_copyFrom 12 = .ok (.invokestatic 24, 3) := by decide +kernel
theorem dX1_copyFrom_15 : decode cX1_copyFrom 15 = .ok (.aload_n 1, 1) := by decide +kernel
theorem dX1_copyFrom_16 : decode cX1_copyFrom 16 = .ok (.getfield 15, 3) := by decide +kernel
theorem dX1_copyFrom_19 : decode cX1_copyFrom 19 = .ok (.iconst 0, 1) := by decide +kernel
theorem dX1_copyFrom_20 : decode cX1_copyFrom 20 = .ok (.aload_n 0, 1) := by decide +kernel
theorem dX1_copyFrom_21 : decode cX1_copyFrom 21 = .ok (.getfield 15, 3) := by decide +kernel
theorem dX1_copyFrom_24 : decode cX1_copyFrom 24 = .ok (.iconst 0, 1) := by decide +kernel
theorem dX1_copyFrom_25 : decode cX1_copyFrom 25 = .ok (.bipush 25, 2) := by decide +kernel
theorem dX1_copyFrom_27 : decode cX1_copyFrom 27 = .ok (.invokestatic 24, 3) := by decide +kernel
theorem dX1_copyFrom_30 : decode cX1_copyFrom 30 = .ok (.aload_n 1, 1) := by decide +kernel
theorem dX1_copyFrom_31 : decode cX1_copyFrom 31 = .ok (.getfield 18, 3) := by decide +kernel
theorem dX1_copyFrom_34 : decode cX1_copyFrom 34 = .ok (.iconst 0, 1) := by decide +kernel
theorem dX1_copyFrom_35 : decode cX1_copyFrom 35 = .ok (.aload_n 0, 1) := by decide +kernel
theorem dX1_copyFrom_36 : decode cX1_copyFrom 36 = .ok (.getfield 18, 3) := by decide +kernel
theorem dX1_copyFrom_39 : decode cX1_copyFrom 39 = .ok (.iconst 0, 1) := by decide +kernel
theorem dX1_copyFrom_40 : decode cX1_copyFrom 40 = .ok (.bipush 25, 2) := by decide +kernel
theorem dX1_copyFrom_42 : decode cX1_copyFrom 42 = .ok (.invokestatic 24, 3) := by decide +kernel
theorem dX1_copyFrom_45 : decode cX1_copyFrom 45 = .ok (.return_, 1) := by decide +kernel
theorem dX1_tellFamily_0 : decode cX1_tellFamily 0 = .ok (.iconst 1, 1) := by decide +kernel
theorem dX1_tellFamily_1 : decode cX1_tellFamily 1 = .ok (.istore 5, 2) := by decide +kernel
theorem dX1_tellFamily_3 : decode cX1_tellFamily 3 = .ok (.iload 5, 2) := by decide +kernel
theorem dX1_tellFamily_5 : decode cX1_tellFamily 5 = .ok (.iload_n 2, 1) := by decide +kernel
theorem dX1_tellFamily_6 : decode cX1_tellFamily 6 = .ok (.if_icmp .gt 71, 3) := by decide +kernel
theorem dX1_tellFamily_9 : decode cX1_tellFamily 9 = .ok (.aload_n 0, 1) := by decide +kernel
theorem dX1_tellFamily_10 : decode cX1_tellFamily 10 = .ok (.getfield 21, 3) := by decide +kernel
theorem dX1_tellFamily_13 : decode cX1_tellFamily 13 = .ok (.iload 5, 2) := by decide +kernel
theorem dX1_tellFamily_15 : decode cX1_tellFamily 15 = .ok (.iload 5, 2) := by decide +kernel
theorem dX1_tellFamily_17 : decode cX1_tellFamily 17 = .ok (.iload_n 1, 1) := by decide +kernel
theorem dX1_tellFamily_18 : decode cX1_tellFamily 18 = .ok (.iconst 1, 1) := by decide +kernel
theorem dX1_tellFamily_19 : decode cX1_tellFamily 19 = .ok (.iadd, 1) := by decide +kernel
theorem dX1_tellFamily_20 : decode cX1_tellFamily 20 = .ok (.if_icmp .gt 15, 3) := by decide +kernel
theorem dX1_tellFamily_23 : decode cX1_tellFamily 23 = .ok (.iload_n 1, 1) := by decide +kernel
theorem dX1_tellFamily_24 : decode cX1_tellFamily 24 = .ok (.iload 5, 2) := by decide +kernel
theorem dX1_tellFamily_26 : decode cX1_tellFamily 26 = .ok (.iload_n 3, 1) := by decide +kernel
theorem dX1_tellFamily_27 : decode cX1_tellFamily 27 = .ok (.iload 4, 2) := by decide +kernel
theorem dX1_tellFamily_29 : decode cX1_tellFamily 29 = .ok (.invokestatic 30, 3) := by decide +kernel
theorem dX1_tellFamily_32 : decode cX1_tellFamily 32 = .ok (.goto 24, 3) := by decide +kernel
theorem dX1_tellFamily_35 : decode cX1_tellFamily 35 = .ok (.aload_n 0, 1) := by decide +kernel
theorem dX1_tellFamily_36 : decode cX1_tellFamily 36 = .ok (.getfield 21, 3) := by decide +kernel
theorem dX1_tellFamily_39 : decode cX1_tellFamily 39 = .ok (.iload 5, 2) := by decide +kernel
theorem dX1_tellFamily_41 : decode cX1_tellFamily 41 = .ok (.iconst 1, 1) := by decide +kernel
theorem dX1_tellFamily_42 : decode cX1_tellFamily 42 = .ok (.isub, 1) := by decide +kernel
theorem dX1_tellFamily_43 : decode cX1_tellFamily 43 = .ok (.iaload, 1) := by decide +kernel
theorem dX1_tellFamily_44 : decode cX1_tellFamily 44 = .ok (.aload_n 0, 1) := by decide +kernel
theorem dX1_tellFamily_45 : decode cX1_tellFamily 45 = .ok (.getfield 21, 3) := by decide +kernel
theorem dX1_tellFamily_48 : decode cX1_tellFamily 48 = .ok (.iload_n 1, 1) := by decide +kernel
theorem dX1_tellFamily_49 : decode cX1_tellFamily 49 = .ok (.iload 5, 2) := by decide +kernel
theorem dX1_tellFamily_51 : decode cX1_tellFamily 51 = .ok (.invokestatic 34, 3) := by decide +kernel
theorem dX1_tellFamily_54 : decode cX1_tellFamily 54 = .ok (.iaload, 1) := by decide +kernel
theorem dX1_tellFamily_55 : decode cX1_tellFamily 55 = .ok (.iadd, 1) := by decide +kernel
theorem dX1_tellFamily_56 : decode cX1_tellFamily 56 = .ok (.iastore, 1) := by decide +kernel
theorem dX1_tellFamily_57 : decode cX1_tellFamily 57 = .ok (.aload_n 0, 1) := by decide +kernel
theorem dX1_tellFamily_58 : decode cX1_tellFamily 58 = .ok (.getfield 21, 3) := by decide +kernel
theorem dX1_tellFamily_61 : decode cX1_tellFamily 61 = .ok (.iload 5, 2) := by decide +kernel
theorem dX1_tellFamily_63 : decode cX1_tellFamily 63 = .ok (.iaload, 1) := by decide +kernel
theorem dX1_tellFamily_64 : decode cX1_tellFamily 64 = .ok (.ldc 38, 2) := by decide +kernel
theorem dX1_tellFamily_66 : decode cX1_tellFamily 66 = .ok (.if_icmp .le 5, 3) := by decide +kernel
theorem dX1_tellFamily_69 : decode cX1_tellFamily 69 = .ok (.iconst 0, 1) := by decide +kernel
theorem dX1_tellFamily_70 : decode cX1_tellFamily 70 = .ok (.ireturn, 1) := by decide +kernel
theorem dX1_tellFamily_71 : decode cX1_tellFamily 71 = .ok (.iinc 5 1, 3) := by decide +kernel
theorem dX1_tellFamily_74 : decode cX1_tellFamily 74 = .ok (.goto (-71), 3) := by decide +kernel
theorem dX1_tellFamily_77 : decode cX1_tellFamily 77 = .ok (.iconst 1, 1) := by decide +kernel
theorem dX1_tellFamily_78 : decode cX1_tellFamily 78 = .ok (.istore 5, 2) := by decide +kernel
theorem dX1_tellFamily_80 : decode cX1_tellFamily 80 = .ok (.iload 5, 2) := by decide +kernel
theorem dX1_tellFamily_82 : decode cX1_tellFamily 82 = .ok (.bipush 24, 2) := by decide +kernel
theorem dX1_tellFamily_84 : decode cX1_tellFamily 84 = .ok (.if_icmp .gt 76, 3) := by decide +kernel
theorem dX1_tellFamily_87 : decode cX1_tellFamily 87 = .ok (.iload 5, 2) := by decide +kernel
theorem dX1_tellFamily_89 : decode cX1_tellFamily 89 = .ok (.iload_n 2, 1) := by decide +kernel
theorem dX1_tellFamily_90 : decode cX1_tellFamily 90 = .ok (.if_icmp .le 15, 3) := by decide +kernel
theorem dX1_tellFamily_93 : decode cX1_tellFamily 93 = .ok (.aload_n 0, 1) := by decide +kernel
theorem dX1_tellFamily_94 : decode cX1_tellFamily 94 = .ok (.iload 5, 2) := by decide +kernel
theorem dX1_tellFamily_96 : decode cX1_tellFamily 96 = .ok (.iconst 0, 1) := by decide +kernel
theorem dX1_tellFamily_97 : decode cX1_tellFamily 97 = .ok (.iconst 0, 1) := by decide +kernel
theorem dX1_tellFamily_98 : decode cX1_tellFamily 98 = .ok (.iconst 0, 1) := by decide +kernel
theorem dX1_tellFamily_99 : decode cX1_tellFamily 99 = .ok (.invokevirtual 39, 3) := by decide +kernel
theorem dX1_tellFamily_102 : decode cX1_tellFamily 102 = .ok (.goto 52, 3) := by decide +kernel
theorem dX1_tellFamily_105 : decode cX1_tellFamily 105 = .ok (.iload 5, 2) := by decide +kernel
theorem dX1_tellFamily_107 : decode cX1_tellFamily 107 = .ok (.iload_n 1, 1) := by decide +kernel
theorem dX1_tellFamily_108 : decode cX1_tellFamily 108 = .ok (.iconst 1, 1) := by decide +kernel
theorem dX1_tellFamily_109 : decode cX1_tellFamily 109 = .ok (.iadd, 1) := by decide +kernel
theorem dX1_tellFamily_110 : decode cX1_tellFamily 110 = .ok (.if_icmp .gt 21, 3) := by decide +kernel
theorem dX1_tellFamily_113 : decode cX1_tellFamily 113 = .ok (.aload_n 0, 1) := by decide +kernel
theorem dX1_tellFamily_114 : decode cX1_tellFamily 114 = .ok (.iload 5, 2) := by decide +kernel
theorem dX1_tellFamily_116 : decode cX1_tellFamily 116 = .ok (.aload_n 0, 1) := by decide +kernel
theorem dX1_tellFamily_117 : decode cX1_tellFamily 117 = .ok (.getfield 21, 3) := by decide +kernel
theorem dX1_tellFamily_120 : decode cX1_tellFamily 120 = .ok (.iload 5, 2) := by decide +kernel
theorem dX1_tellFamily_122 : decode cX1_tellFamily 122 = .ok (.iaload, 1) := by decide +kernel
theorem dX1_tellFamily_123 : decode cX1_tellFamily 123 = .ok (.iconst 0, 1) := by decide +kernel
theorem dX1_tellFamily_124 : decode cX1_tellFamily 124 = .ok (.iconst 0, 1) := by decide +kernel
theorem dX1_tellFamily_125 : decode cX1_tellFamily 125 = .ok (.invokevirtual 39, 3) := by decide +kernel
theorem dX1_tellFamily_128 : decode cX1_tellFamily 128 = .ok (.goto 26, 3) := by decide +kernel
theorem dX1_tellFamily_131 : decode cX1_tellFamily 131 = .ok (.aload_n 0, 1) := by decide +kernel
theorem dX1_tellFamily_132 : decode cX1_tellFamily 132 = .ok (.iload 5, 2) := by decide +kernel
theorem dX1_tellFamily_134 : decode cX1_tellFamily 134 = .ok (.aload_n 0, 1) := by decide +kernel
theorem dX1_tellFamily_135 : decode cX1_tellFamily 135 = .ok (.getfield 21, 3) := by decide +kernel
theorem dX1_tellFamily_138 : decode cX1_tellFamily 138 = .ok (.iload 5, 2) := by decide +kernel
theorem dX1_tellFamily_140 : decode cX1_tellFamily 140 = .ok (.iaload, 1) := by decide +kernel
theorem dX1_tellFamily_141 : decode cX1_tellFamily 141 = .ok (.iload 5, 2) := by decide +kernel
theorem dX1_tellFamily_143 : decode cX1_tellFamily 143 = .ok (.iconst 1, 1) := by decide +kernel
theorem dX1_tellFamily_144 : decode cX1_tellFamily 144 = .ok (.isub, 1) := by decide +kernel
theorem dX1_tellFamily_145 : decode cX1_tellFamily 145 = .ok (.iload_n 1, 1) := by decide +kernel
theorem dX1_tellFamily_146 : decode cX1_tellFamily 146 = .ok (.iload 5, 2) := by decide +kernel
theorem dX1_tellFamily_148 : decode cX1_tellFamily 148 = .ok (.invokestatic 34, 3) := by decide +kernel
theorem dX1_tellFamily_151 : decode cX1_tellFamily 151 = .ok (.invokevirtual 39, 3) := by decide +kernel
theorem dX1_tellFamily_154 : decode cX1_tellFamily 154 = .ok (.iinc 5 1, 3) := by decide +kernel
theorem dX1_tellFamily_157 : decode cX1_tellFamily 157 = .ok (.goto (-77), 3) := by decide +kernel
theorem dX1_tellFamily_160 : decode cX1_tellFamily 160 = .ok (.iconst 1, 1) := by decide +kernel
theorem dX1_tellFamily_161 : decode cX1_tellFamily 161 = .ok (.ireturn, 1) := by decide +kernel
theorem dX1_leafSize_0 : decode cX1_leafSize 0 = .ok (.iload_n 0, 1) := by decide +kernel
theorem dX1_leafSize_1 : decode cX1_leafSize 1 = .ok (.iconst 1, 1) := by decide +kernel
theorem dX1_leafSize_2 : decode cX1_leafSize 2 = .ok (.if_icmp .ne 14, 3) := by decide +kernel
theorem dX1_leafSize_5 : decode cX1_leafSize 5 = .ok (.iload_n 1, 1) := by decide +kernel
theorem dX1_leafSize_6 : decode cX1_leafSize 6 = .ok (.iconst 1, 1) := by decide +kernel
theorem dX1_leafSize_7 : decode cX1_leafSize 7 = .ok (.if_icmp .ne 7, 3) := by decide +kernel
theorem dX1_leafSize_10 : decode cX1_leafSize 10 = .ok (.iload_n 2, 1) := by decide +kernel
theorem dX1_leafSize_11 : decode cX1_leafSize 11 = .ok (.goto 4, 3) := by decide +kernel
theorem dX1_leafSize_14 : decode cX1_leafSize 14 = .ok (.iload_n 3, 1) := by decide +kernel
theorem dX1_leafSize_15 : decode cX1_leafSize 15 = .ok (.ireturn, 1) := by decide +kernel
theorem dX1_leafSize_16 : decode cX1_leafSize 16 = .ok (.iload_n 1, 1) := by decide +kernel
theorem dX1_leafSize_17 : decode cX1_leafSize 17 = .ok (.iload_n 2, 1) := by decide +kernel
theorem dX1_leafSize_18 : decode cX1_leafSize 18 = .ok (.imul, 1) := by decide +kernel
theorem dX1_leafSize_19 : decode cX1_leafSize 19 = .ok (.ireturn, 1) := by decide +kernel
theorem dX1_familyRight_0 : decode cX1_familyRight 0 = .ok (.iload_n 0, 1) := by decide +kernel
theorem dX1_familyRight_1 : decode cX1_familyRight 1 = .ok (.iconst 2, 1) := by decide +kernel
theorem dX1_familyRight_2 : decode cX1_familyRight 2 = .ok (.if_icmp .ge 9, 3) := by decide +kernel
theorem dX1_familyRight_5 : decode cX1_familyRight 5 = .ok (.iload_n 1, 1) := by decide +kernel
theorem dX1_familyRight_6 : decode cX1_familyRight 6 = .ok (.iconst 1, 1) := by decide +kernel
theorem dX1_familyRight_7 : decode cX1_familyRight 7 = .ok (.isub, 1) := by decide +kernel
theorem dX1_familyRight_8 : decode cX1_familyRight 8 = .ok (.iload_n 0, 1) := by decide +kernel
theorem dX1_familyRight_9 : decode cX1_familyRight 9 = .ok (.isub, 1) := by decide +kernel
theorem dX1_familyRight_10 : decode cX1_familyRight 10 = .ok (.ireturn, 1) := by decide +kernel
theorem dX1_familyRight_11 : decode cX1_familyRight 11 = .ok (.iload_n 1, 1) := by decide +kernel
theorem dX1_familyRight_12 : decode cX1_familyRight 12 = .ok (.iconst 4, 1) := by decide +kernel
theorem dX1_familyRight_13 : decode cX1_familyRight 13 = .ok (.if_icmp .ne 5, 3) := by decide +kernel
theorem dX1_familyRight_16 : decode cX1_familyRight 16 = .ok (.iconst 1, 1) := by decide +kernel
theorem dX1_familyRight_17 : decode cX1_familyRight 17 = .ok (.ireturn, 1) := by decide +kernel
theorem dX1_familyRight_18 : decode cX1_familyRight 18 = .ok (.iload_n 1, 1) := by decide +kernel
theorem dX1_familyRight_19 : decode cX1_familyRight 19 = .ok (.iconst 2, 1) := by decide +kernel
theorem dX1_familyRight_20 : decode cX1_familyRight 20 = .ok (.irem, 1) := by decide +kernel
theorem dX1_familyRight_21 : decode cX1_familyRight 21 = .ok (.iconst 1, 1) := by decide +kernel
theorem dX1_familyRight_22 : decode cX1_familyRight 22 = .ok (.if_icmp .ne 9, 3) := by decide +kernel
theorem dX1_familyRight_25 : decode cX1_familyRight 25 = .ok (.iload_n 1, 1) := by decide +kernel
theorem dX1_familyRight_26 : decode cX1_familyRight 26 = .ok (.iconst 3, 1) := by decide +kernel
theorem dX1_familyRight_27 : decode cX1_familyRight 27 = .ok (.isub, 1) := by decide +kernel
theorem dX1_familyRight_28 : decode cX1_familyRight 28 = .ok (.goto 6, 3) := by decide +kernel
theorem dX1_familyRight_31 : decode cX1_familyRight 31 = .ok (.iload_n 1, 1) := by decide +kernel
theorem dX1_familyRight_32 : decode cX1_familyRight 32 = .ok (.iconst 4, 1) := by decide +kernel
theorem dX1_familyRight_33 : decode cX1_familyRight 33 = .ok (.isub, 1) := by decide +kernel
theorem dX1_familyRight_34 : decode cX1_familyRight 34 = .ok (.ireturn, 1) := by decide +kernel
theorem dX1_reachedFrom_0 : decode cX1_reachedFrom 0 = .ok (.iconst 1, 1) := by decide +kernel
theorem dX1_reachedFrom_1 : decode cX1_reachedFrom 1 = .ok (.iload_n 1, 1) := by decide +kernel
theorem dX1_reachedFrom_2 : decode cX1_reachedFrom 2 = .ok (.ishl, 1) := by decide +kernel
theorem dX1_reachedFrom_3 : decode cX1_reachedFrom 3 = .ok (.istore_n 2, 1) := by decide +kernel
theorem dX1_reachedFrom_4 : decode cX1_reachedFrom 4 = .ok (.iconst 0, 1) := by decide +kernel
theorem dX1_reachedFrom_5 : decode cX1_reachedFrom 5 = .ok (.istore_n 3, 1) := by decide +kernel
theorem dX1_reachedFrom_6 : decode cX1_reachedFrom 6 = .ok (.iconst 0, 1) := by decide +kernel
theorem dX1_reachedFrom_7 : decode cX1_reachedFrom 7 = .ok (.istore 4, 2) := by decide +kernel
theorem dX1_reachedFrom_9 : decode cX1_reachedFrom 9 = .ok (.iload 4, 2) := by decide +kernel
theorem dX1_reachedFrom_11 : decode cX1_reachedFrom 11 = .ok (.bipush 24, 2) := by decide +kernel
theorem dX1_reachedFrom_13 : decode cX1_reachedFrom 13 = .ok (.if_icmp .ge 74, 3) := by decide +kernel
theorem dX1_reachedFrom_16 : decode cX1_reachedFrom 16 = .ok (.iload_n 3, 1) := by decide +kernel
theorem dX1_reachedFrom_17 : decode cX1_reachedFrom 17 = .ok (.iload_n 2, 1) := by decide +kernel
theorem dX1_reachedFrom_18 : decode cX1_reachedFrom 18 = .ok (.if_icmp .eq 69, 3) := by decide +kernel
theorem dX1_reachedFrom_21 : decode cX1_reachedFrom 21 = .ok (.iload_n 2, 1) := by decide +kernel
theorem dX1_reachedFrom_22 : decode cX1_reachedFrom 22 = .ok (.iload_n 3, 1) := by decide +kernel
theorem dX1_reachedFrom_23 : decode cX1_reachedFrom 23 = .ok (.iconst (-1), 1) := by decide +kernel
theorem dX1_reachedFrom_24 : decode cX1_reachedFrom 24 = .ok (.ixor, 1) := by decide +kernel
theorem dX1_reachedFrom_25 : decode cX1_reachedFrom 25 = .ok (.iand, 1) := by decide +kernel
theorem dX1_reachedFrom_26 : decode cX1_reachedFrom 26 = .ok (.invokestatic 43, 3) := by decide +kernel
theorem dX1_reachedFrom_29 : decode cX1_reachedFrom 29 = .ok (.istore 5, 2) := by decide +kernel
theorem dX1_reachedFrom_31 : decode cX1_reachedFrom 31 = .ok (.iload_n 3, 1) := by decide +kernel
theorem dX1_reachedFrom_32 : decode cX1_reachedFrom 32 = .ok (.iconst 1, 1) := by decide +kernel
theorem dX1_reachedFrom_33 : decode cX1_reachedFrom 33 = .ok (.iload 5, 2) := by decide +kernel
theorem dX1_reachedFrom_35 : decode cX1_reachedFrom 35 = .ok (.ishl, 1) := by decide +kernel
theorem dX1_reachedFrom_36 : decode cX1_reachedFrom 36 = .ok (.ior, 1) := by decide +kernel
theorem dX1_reachedFrom_37 : decode cX1_reachedFrom 37 = .ok (.istore_n 3, 1) := by decide +kernel
theorem dX1_reachedFrom_38 : decode cX1_reachedFrom 38 = .ok (.aload_n 0, 1) := by decide +kernel
theorem dX1_reachedFrom_39 : decode cX1_reachedFrom 39 = .ok (.iload 5, 2) := by decide +kernel
theorem dX1_reachedFrom_41 : decode cX1_reachedFrom 41 = .ok (.invokevirtual 49, 3) := by decide +kernel
theorem dX1_reachedFrom_44 : decode cX1_reachedFrom 44 = .ok (.ifCond .ne 37, 3) := by decide +kernel
theorem dX1_reachedFrom_47 : decode cX1_reachedFrom 47 = .ok (.aload_n 0, 1) := by decide +kernel
theorem dX1_reachedFrom_48 : decode cX1_reachedFrom 48 = .ok (.getfield 15, 3) := by decide +kernel
theorem dX1_reachedFrom_51 : decode cX1_reachedFrom 51 = .ok (.iload 5, 2) := by decide +kernel
theorem dX1_reachedFrom_53 : decode cX1_reachedFrom 53 = .ok (.iaload, 1) := by decide +kernel
theorem dX1_reachedFrom_54 : decode cX1_reachedFrom 54 = .ok (.ifCond .eq 27, 3) := by decide +kernel
theorem dX1_reachedFrom_57 : decode cX1_reachedFrom 57 = .ok (.iload_n 2, 1) := by decide +kernel
theorem dX1_reachedFrom_58 : decode cX1_reachedFrom 58 = .ok (.iconst 1, 1) := by decide +kernel
theorem dX1_reachedFrom_59 : decode cX1_reachedFrom 59 = .ok (.aload_n 0, 1) := by decide +kernel
theorem dX1_reachedFrom_60 : decode cX1_reachedFrom 60 = .ok (.getfield 15, 3) := by decide +kernel
theorem dX1_reachedFrom_63 : decode cX1_reachedFrom 63 = .ok (.iload 5, 2) := by decide +kernel
theorem dX1_reachedFrom_65 : decode cX1_reachedFrom 65 = .ok (.iaload, 1) := by decide +kernel
theorem dX1_reachedFrom_66 : decode cX1_reachedFrom 66 = .ok (.ishl, 1) := by decide +kernel
theorem dX1_reachedFrom_67 : decode cX1_reachedFrom 67 = .ok (.ior, 1) := by decide +kernel
theorem dX1_reachedFrom_68 : decode cX1_reachedFrom 68 = .ok (.istore_n 2, 1) := by decide +kernel
theorem dX1_reachedFrom_69 : decode cX1_reachedFrom 69 = .ok (.iload_n 2, 1) := by decide +kernel
theorem dX1_reachedFrom_70 : decode cX1_reachedFrom 70 = .ok (.iconst 1, 1) := by decide +kernel
theorem dX1_reachedFrom_71 : decode cX1_reachedFrom 71 = .ok (.aload_n 0, 1) := by decide +kernel
theorem dX1_reachedFrom_72 : decode cX1_reachedFrom 72 = .ok (.getfield 18, 3) := by decide +kernel
theorem dX1_reachedFrom_75 : decode cX1_reachedFrom 75 = .ok (.iload 5, 2) := by decide +kernel
theorem dX1_reachedFrom_77 : decode cX1_reachedFrom 77 = .ok (.iaload, 1) := by decide +kernel
theorem dX1_reachedFrom_78 : decode cX1_reachedFrom 78 = .ok (.ishl, 1) := by decide +kernel
theorem dX1_reachedFrom_79 : decode cX1_reachedFrom 79 = .ok (.ior, 1) := by decide +kernel
theorem dX1_reachedFrom_80 : decode cX1_reachedFrom 80 = .ok (.istore_n 2, 1) := by decide +kernel
theorem dX1_reachedFrom_81 : decode cX1_reachedFrom 81 = .ok (.iinc 4 1, 3) := by decide +kernel
theorem dX1_reachedFrom_84 : decode cX1_reachedFrom 84 = .ok (.goto (-75), 3) := by decide +kernel
theorem dX1_reachedFrom_87 : decode cX1_reachedFrom 87 = .ok (.iload_n 2, 1) := by decide +kernel
theorem dX1_reachedFrom_88 : decode cX1_reachedFrom 88 = .ok (.ireturn, 1) := by decide +kernel
theorem dX1_lowestBad_0 : decode cX1_lowestBad 0 = .ok (.iconst 1, 1) := by decide +kernel
theorem dX1_lowestBad_1 : decode cX1_lowestBad 1 = .ok (.istore_n 2, 1) := by decide +kernel
theorem dX1_lowestBad_2 : decode cX1_lowestBad 2 = .ok (.iload_n 2, 1) := by decide +kernel
theorem dX1_lowestBad_3 : decode cX1_lowestBad 3 = .ok (.bipush 24, 2) := by decide +kernel
theorem dX1_lowestBad_5 : decode cX1_lowestBad 5 = .ok (.if_icmp .gt 28, 3) := by decide +kernel
theorem dX1_lowestBad_8 : decode cX1_lowestBad 8 = .ok (.iload_n 1, 1) := by decide +kernel
theorem dX1_lowestBad_9 : decode cX1_lowestBad 9 = .ok (.iload_n 2, 1) := by decide +kernel
theorem dX1_lowestBad_10 : decode cX1_lowestBad 10 = .ok (.ishr, 1) := by decide +kernel
theorem dX1_lowestBad_11 : decode cX1_lowestBad 11 = .ok (.iconst 1, 1) := by decide +kernel
theorem dX1_lowestBad_12 : decode cX1_lowestBad 12 = .ok (.iand, 1) := by decide +kernel
theorem dX1_lowestBad_13 : decode cX1_lowestBad 13 = .ok (.iconst 1, 1) := by decide +kernel
theorem dX1_lowestBad_14 : decode cX1_lowestBad 14 = .ok (.if_icmp .ne 13, 3) := by decide +kernel
theorem dX1_lowestBad_17 : decode cX1_lowestBad 17 = .ok (.aload_n 0, 1) := by decide +kernel
theorem dX1_lowestBad_18 : decode cX1_lowestBad 18 = .ok (.iload_n 2, 1) := by decide +kernel
theorem dX1_lowestBad_19 : decode cX1_lowestBad 19 = .ok (.invokevirtual 49, 3) := by decide +kernel
theorem dX1_lowestBad_22 : decode cX1_lowestBad 22 = .ok (.ifCond .eq 5, 3) := by decide +kernel
theorem dX1_lowestBad_25 : decode cX1_lowestBad 25 = .ok (.iload_n 2, 1) := by decide +kernel
theorem dX1_lowestBad_26 : decode cX1_lowestBad 26 = .ok (.ireturn, 1) := by decide +kernel
theorem dX1_lowestBad_27 : decode cX1_lowestBad 27 = .ok (.iinc 2 1, 3) := by decide +kernel
theorem dX1_lowestBad_30 : decode cX1_lowestBad 30 = .ok (.goto (-28), 3) := by decide +kernel
theorem dX1_lowestBad_33 : decode cX1_lowestBad 33 = .ok (.iconst 0, 1) := by decide +kernel
theorem dX1_lowestBad_34 : decode cX1_lowestBad 34 = .ok (.ireturn, 1) := by decide +kernel
theorem dX1_isBad_0 : decode cX1_isBad 0 = .ok (.aload_n 0, 1) := by decide +kernel
theorem dX1_isBad_1 : decode cX1_isBad 1 = .ok (.getfield 9, 3) := by decide +kernel
theorem dX1_isBad_4 : decode cX1_isBad 4 = .ok (.iload_n 1, 1) := by decide +kernel
theorem dX1_isBad_5 : decode cX1_isBad 5 = .ok (.iaload, 1) := by decide +kernel
theorem dX1_isBad_6 : decode cX1_isBad 6 = .ok (.invokestatic 53, 3) := by decide +kernel
theorem dX1_isBad_9 : decode cX1_isBad 9 = .ok (.ifCond .ne 5, 3) := by decide +kernel
theorem dX1_isBad_12 : decode cX1_isBad 12 = .ok (.iconst 1, 1) := by decide +kernel
theorem dX1_isBad_13 : decode cX1_isBad 13 = .ok (.ireturn, 1) := by decide +kernel
theorem dX1_isBad_14 : decode cX1_isBad 14 = .ok (.aload_n 0, 1) := by decide +kernel
theorem dX1_isBad_15 : decode cX1_isBad 15 = .ok (.getfield 15, 3) := by decide +kernel
theorem dX1_isBad_18 : decode cX1_isBad 18 = .ok (.iload_n 1, 1) := by decide +kernel
theorem dX1_isBad_19 : decode cX1_isBad 19 = .ok (.iaload, 1) := by decide +kernel
theorem dX1_isBad_20 : decode cX1_isBad 20 = .ok (.ifCond .ne 18, 3) := by decide +kernel
theorem dX1_isBad_23 : decode cX1_isBad 23 = .ok (.aload_n 0, 1) := by decide +kernel
theorem dX1_isBad_24 : decode cX1_isBad 24 = .ok (.getfield 18, 3) := by decide +kernel
theorem dX1_isBad_27 : decode cX1_isBad 27 = .ok (.iload_n 1, 1) := by decide +kernel
theorem dX1_isBad_28 : decode cX1_isBad 28 = .ok (.iaload, 1) := by decide +kernel
theorem dX1_isBad_29 : decode cX1_isBad 29 = .ok (.ifCond .eq 7, 3) := by decide +kernel
theorem dX1_isBad_32 : decode cX1_isBad 32 = .ok (.iconst 1, 1) := by decide +kernel
theorem dX1_isBad_33 : decode cX1_isBad 33 = .ok (.goto 4, 3) := by decide +kernel
theorem dX1_isBad_36 : decode cX1_isBad 36 = .ok (.iconst 0, 1) := by decide +kernel
theorem dX1_isBad_37 : decode cX1_isBad 37 = .ok (.ireturn, 1) := by decide +kernel
theorem dX1_isBad_38 : decode cX1_isBad 38 = .ok (.aload_n 0, 1) := by decide +kernel
theorem dX1_isBad_39 : decode cX1_isBad 39 = .ok (.getfield 15, 3) := by decide +kernel
theorem dX1_isBad_42 : decode cX1_isBad 42 = .ok (.iload_n 1, 1) := by decide +kernel
theorem dX1_isBad_43 : decode cX1_isBad 43 = .ok (.iaload, 1) := by decide +kernel
theorem dX1_isBad_44 : decode cX1_isBad 44 = .ok (.invokestatic 56, 3) := by decide +kernel
theorem dX1_isBad_47 : decode cX1_isBad 47 = .ok (.ifCond .eq 15, 3) := by decide +kernel
theorem dX1_isBad_50 : decode cX1_isBad 50 = .ok (.aload_n 0, 1) := by decide +kernel
theorem dX1_isBad_51 : decode cX1_isBad 51 = .ok (.getfield 18, 3) := by decide +kernel
theorem dX1_isBad_54 : decode cX1_isBad 54 = .ok (.iload_n 1, 1) := by decide +kernel
theorem dX1_isBad_55 : decode cX1_isBad 55 = .ok (.iaload, 1) := by decide +kernel
theorem dX1_isBad_56 : decode cX1_isBad 56 = .ok (.invokestatic 56, 3) := by decide +kernel
theorem dX1_isBad_59 : decode cX1_isBad 59 = .ok (.ifCond .ne 5, 3) := by decide +kernel
theorem dX1_isBad_62 : decode cX1_isBad 62 = .ok (.iconst 1, 1) := by decide +kernel
theorem dX1_isBad_63 : decode cX1_isBad 63 = .ok (.ireturn, 1) := by decide +kernel
theorem dX1_isBad_64 : decode cX1_isBad 64 = .ok (.aload_n 0, 1) := by decide +kernel
theorem dX1_isBad_65 : decode cX1_isBad 65 = .ok (.getfield 9, 3) := by decide +kernel
theorem dX1_isBad_68 : decode cX1_isBad 68 = .ok (.aload_n 0, 1) := by decide +kernel
theorem dX1_isBad_69 : decode cX1_isBad 69 = .ok (.getfield 15, 3) := by decide +kernel
theorem dX1_isBad_72 : decode cX1_isBad 72 = .ok (.iload_n 1, 1) := by decide +kernel
theorem dX1_isBad_73 : decode cX1_isBad 73 = .ok (.iaload, 1) := by decide +kernel
theorem dX1_isBad_74 : decode cX1_isBad 74 = .ok (.iaload, 1) := by decide +kernel
theorem dX1_isBad_75 : decode cX1_isBad 75 = .ok (.istore_n 2, 1) := by decide +kernel
theorem dX1_isBad_76 : decode cX1_isBad 76 = .ok (.aload_n 0, 1) := by decide +kernel
theorem dX1_isBad_77 : decode cX1_isBad 77 = .ok (.getfield 9, 3) := by decide +kernel
theorem dX1_isBad_80 : decode cX1_isBad 80 = .ok (.aload_n 0, 1) := by decide +kernel
theorem dX1_isBad_81 : decode cX1_isBad 81 = .ok (.getfield 18, 3) := by decide +kernel
theorem dX1_isBad_84 : decode cX1_isBad 84 = .ok (.iload_n 1, 1) := by decide +kernel
theorem dX1_isBad_85 : decode cX1_isBad 85 = .ok (.iaload, 1) := by decide +kernel
theorem dX1_isBad_86 : decode cX1_isBad 86 = .ok (.iaload, 1) := by decide +kernel
theorem dX1_isBad_87 : decode cX1_isBad 87 = .ok (.istore_n 3, 1) := by decide +kernel
theorem dX1_isBad_88 : decode cX1_isBad 88 = .ok (.iload_n 2, 1) := by decide +kernel
theorem dX1_isBad_89 : decode cX1_isBad 89 = .ok (.aload_n 0, 1) := by decide +kernel
theorem dX1_isBad_90 : decode cX1_isBad 90 = .ok (.getfield 9, 3) := by decide +kernel
theorem dX1_isBad_93 : decode cX1_isBad 93 = .ok (.iload_n 1, 1) := by decide +kernel
theorem dX1_isBad_94 : decode cX1_isBad 94 = .ok (.iaload, 1) := by decide +kernel
theorem dX1_isBad_95 : decode cX1_isBad 95 = .ok (.if_icmp .ge 29, 3) := by decide +kernel
theorem dX1_isBad_98 : decode cX1_isBad 98 = .ok (.iload_n 3, 1) := by decide +kernel
theorem dX1_isBad_99 : decode cX1_isBad 99 = .ok (.aload_n 0, 1) := by decide +kernel
theorem dX1_isBad_100 : decode cX1_isBad 100 = .ok (.getfield 9, 3) := by decide +kernel
theorem dX1_isBad_103 : decode cX1_isBad 103 = .ok (.iload_n 1, 1) := by decide +kernel
theorem dX1_isBad_104 : decode cX1_isBad 104 = .ok (.iaload, 1) := by decide +kernel
theorem dX1_isBad_105 : decode cX1_isBad 105 = .ok (.if_icmp .ge 19, 3) := by decide +kernel
theorem dX1_isBad_108 : decode cX1_isBad 108 = .ok (.iload_n 2, 1) := by decide +kernel
theorem dX1_isBad_109 : decode cX1_isBad 109 = .ok (.i2l, 1) := by decide +kernel
theorem dX1_isBad_110 : decode cX1_isBad 110 = .ok (.iload_n 3, 1) := by decide +kernel
theorem dX1_isBad_111 : decode cX1_isBad 111 = .ok (.i2l, 1) := by decide +kernel
theorem dX1_isBad_112 : decode cX1_isBad 112 = .ok (.ladd, 1) := by decide +kernel
theorem dX1_isBad_113 : decode cX1_isBad 113 = .ok (.aload_n 0, 1) := by decide +kernel
theorem dX1_isBad_114 : decode cX1_isBad 114 = .ok (.getfield 9, 3) := by decide +kernel
theorem dX1_isBad_117 : decode cX1_isBad 117 = .ok (.iload_n 1, 1) := by decide +kernel
theorem dX1_isBad_118 : decode cX1_isBad 118 = .ok (.iaload, 1) := by decide +kernel
theorem dX1_isBad_119 : decode cX1_isBad 119 = .ok (.i2l, 1) := by decide +kernel
theorem dX1_isBad_120 : decode cX1_isBad 120 = .ok (.lcmp, 1) := by decide +kernel
theorem dX1_isBad_121 : decode cX1_isBad 121 = .ok (.ifCond .eq 7, 3) := by decide +kernel
theorem dX1_isBad_124 : decode cX1_isBad 124 = .ok (.iconst 1, 1) := by decide +kernel
theorem dX1_isBad_125 : decode cX1_isBad 125 = .ok (.goto 4, 3) := by decide +kernel
theorem dX1_isBad_128 : decode cX1_isBad 128 = .ok (.iconst 0, 1) := by decide +kernel
theorem dX1_isBad_129 : decode cX1_isBad 129 = .ok (.ireturn, 1) := by decide +kernel
theorem dX2_init_0 : decode cX2_init 0 = .ok (.aload_n 0, 1) := by decide +kernel
theorem dX2_init_1 : decode cX2_init 1 = .ok (.invokespecial 3, 3) := by decide +kernel
theorem dX2_init_4 : decode cX2_init 4 = .ok (.aload_n 0, 1) := by decide +kernel
theorem dX2_init_5 : decode cX2_init 5 = .ok (.bipush 64, 2) := by decide +kernel
theorem dX2_init_7 : decode cX2_init 7 = .ok (.newarray .int, 2) := by decide +kernel
theorem dX2_init_9 : decode cX2_init 9 = .ok (.putfield 11, 3) := by decide +kernel
theorem dX2_init_12 : decode cX2_init 12 = .ok (.aload_n 0, 1) := by decide +kernel
theorem dX2_init_13 : decode cX2_init 13 = .ok (.bipush 64, 2) := by decide +kernel
theorem dX2_init_15 : decode cX2_init 15 = .ok (.newarray .int, 2) := by decide +kernel
theorem dX2_init_17 : decode cX2_init 17 = .ok (.putfield 15, 3) := by decide +kernel
theorem dX2_init_20 : decode cX2_init 20 = .ok (.aload_n 0, 1) := by decide +kernel
theorem dX2_init_21 : decode cX2_init 21 = .ok (.bipush 64, 2) := by decide +kernel
theorem dX2_init_23 : decode cX2_init 23 = .ok (.newarray .int, 2) := by decide +kernel
theorem dX2_init_25 : decode cX2_init 25 = .ok (.putfield 18, 3) := by decide +kernel
theorem dX2_init_28 : decode cX2_init 28 = .ok (.aload_n 0, 1) := by decide +kernel
theorem dX2_init_29 : decode cX2_init 29 = .ok (.bipush 64, 2) := by decide +kernel
theorem dX2_init_31 : decode cX2_init 31 = .ok (.newarray .int, 2) := by decide +kernel
theorem dX2_init_33 : decode cX2_init 33 = .ok (.putfield 21, 3) := by decide +kernel
theorem dX2_init_36 : decode cX2_init 36 = .ok (.aload_n 0, 1) := by decide +kernel
theorem dX2_init_37 : decode cX2_init 37 = .ok (.bipush 64, 2) := by decide +kernel
theorem dX2_init_39 : decode cX2_init 39 = .ok (.newarray .int, 2) := by decide +kernel
theorem dX2_init_41 : decode cX2_init 41 = .ok (.putfield 24, 3) := by decide +kernel
theorem dX2_init_44 : decode cX2_init 44 = .ok (.aload_n 0, 1) := by decide +kernel
theorem dX2_init_45 : decode cX2_init 45 = .ok (.bipush 64, 2) := by decide +kernel
theorem dX2_init_47 : decode cX2_init 47 = .ok (.newarray .int, 2) := by decide +kernel
theorem dX2_init_49 : decode cX2_init 49 = .ok (.putfield 27, 3) := by decide +kernel
theorem dX2_init_52 : decode cX2_init 52 = .ok (.aload_n 0, 1) := by decide +kernel
theorem dX2_init_53 : decode cX2_init 53 = .ok (.bipush 64, 2) := by decide +kernel
theorem dX2_init_55 : decode cX2_init 55 = .ok (.newarray .int, 2) := by decide +kernel
theorem dX2_init_57 : decode cX2_init 57 = .ok (.putfield 30, 3) := by decide +kernel
theorem dX2_init_60 : decode cX2_init 60 = .ok (.aload_n 0, 1) := by decide +kernel
theorem dX2_init_61 : decode cX2_init 61 = .ok (.iconst 0, 1) := by decide +kernel
theorem dX2_init_62 : decode cX2_init 62 = .ok (.putfield 33, 3) := by decide +kernel
theorem dX2_init_65 : decode cX2_init 65 = .ok (.aload_n 0, 1) := by decide +kernel
theorem dX2_init_66 : decode cX2_init 66 = .ok (.iconst 0, 1) := by decide +kernel
theorem dX2_init_67 : decode cX2_init 67 = .ok (.putfield 37, 3) := by decide +kernel
theorem dX2_init_70 : decode cX2_init 70 = .ok (.return_, 1) := by decide +kernel
theorem dX2_begin_0 : decode cX2_begin 0 = .ok (.aload_n 0, 1) := by decide +kernel
theorem dX2_begin_1 : decode cX2_begin 1 = .ok (.iconst 2, 1) := by decide +kernel
theorem dX2_begin_2 : decode cX2_begin 2 = .ok (.putfield 33, 3) := by decide +kernel
theorem dX2_begin_5 : decode cX2_begin 5 = .ok (.aload_n 0, 1) := by decide +kernel
theorem dX2_begin_6 : decode cX2_begin 6 = .ok (.iconst 0, 1) := by decide +kernel
theorem dX2_begin_7 : decode cX2_begin 7 = .ok (.putfield 37, 3) := by decide +kernel
theorem dX2_begin_10 : decode cX2_begin 10 = .ok (.aload_n 0, 1) := by decide +kernel
theorem dX2_begin_11 : decode cX2_begin 11 = .ok (.iconst 1, 1) := by decide +kernel
theorem dX2_begin_12 : decode cX2_begin 12 = .ok (.iconst 0, 1) := by decide +kernel
theorem dX2_begin_13 : decode cX2_begin 13 = .ok (.iload_n 1, 1) := by decide +kernel
theorem dX2_begin_14 : decode cX2_begin 14 = .ok (.iconst 0, 1) := by decide +kernel
theorem dX2_begin_15 : decode cX2_begin 15 = .ok (.invokevirtual 40, 3) := by decide +kernel
theorem dX2_begin_18 : decode cX2_begin 18 = .ok (.return_, 1) := by decide +kernel
theorem dX2_made_0 : decode cX2_made 0 = .ok (.aload_n 0, 1) := by decide +kernel
theorem dX2_made_1 : decode cX2_made 1 = .ok (.getfield 33, 3) := by decide +kernel
theorem dX2_made_4 : decode cX2_made 4 = .ok (.ireturn, 1) := by decide +kernel
theorem dX2_kindOf_0 : decode cX2_kindOf 0 = .ok (.aload_n 0, 1) := by decide +kernel
theorem dX2_kindOf_1 : decode cX2_kindOf 1 = .ok (.getfield 18, 3) := by decide +kernel
theorem dX2_kindOf_4 : decode cX2_kindOf 4 = .ok (.iload_n 1, 1) := by decide +kernel
theorem dX2_kindOf_5 : decode cX2_kindOf 5 = .ok (.iaload, 1) := by decide +kernel
theorem dX2_kindOf_6 : decode cX2_kindOf 6 = .ok (.ireturn, 1) := by decide +kernel
theorem dX2_addressOf_0 : decode cX2_addressOf 0 = .ok (.aload_n 0, 1) := by decide +kernel
theorem dX2_addressOf_1 : decode cX2_addressOf 1 = .ok (.getfield 21, 3) := by decide +kernel
theorem dX2_addressOf_4 : decode cX2_addressOf 4 = .ok (.iload_n 1, 1) := by decide +kernel
theorem dX2_addressOf_5 : decode cX2_addressOf 5 = .ok (.iaload, 1) := by decide +kernel
theorem dX2_addressOf_6 : decode cX2_addressOf 6 = .ok (.ireturn, 1) := by decide +kernel
theorem dX2_requestOf_0 : decode cX2_requestOf 0 = .ok (.aload_n 0, 1) := by decide +kernel
theorem dX2_requestOf_1 : decode cX2_requestOf 1 = .ok (.getfield 24, 3) := by decide +kernel
theorem dX2_requestOf_4 : decode cX2_requestOf 4 = .ok (.iload_n 1, 1) := by decide +kernel
theorem dX2_requestOf_5 : decode cX2_requestOf 5 = .ok (.iaload, 1) := by decide +kernel
theorem dX2_requestOf_6 : decode cX2_requestOf 6 = .ok (.ireturn, 1) := by decide +kernel
theorem dX2_parentOf_0 : decode cX2_parentOf 0 = .ok (.aload_n 0, 1) := by decide +kernel
theorem dX2_parentOf_1 : decode cX2_parentOf 1 = .ok (.getfield 11, 3) := by decide +kernel
theorem dX2_parentOf_4 : decode cX2_parentOf 4 = .ok (.iload_n 1, 1) := by decide +kernel
theorem dX2_parentOf_5 : decode cX2_parentOf 5 = .ok (.iaload, 1) := by decide +kernel
theorem dX2_parentOf_6 : decode cX2_parentOf 6 = .ok (.ireturn, 1) := by decide +kernel
theorem dX2_buddyOf_0 : decode cX2_buddyOf 0 = .ok (.iload_n 1, 1) := by decide +kernel
theorem dX2_buddyOf_1 : decode cX2_buddyOf 1 = .ok (.iconst 1, 1) := by decide +kernel
theorem dX2_buddyOf_2 : decode cX2_buddyOf 2 = .ok (.ixor, 1) := by decide +kernel
theorem dX2_buddyOf_3 : decode cX2_buddyOf 3 = .ok (.ireturn, 1) := by decide +kernel
theorem dX2_childOf_0 : decode cX2_childOf 0 = .ok (.aload_n 0, 1) := by decide +kernel
theorem dX2_childOf_1 : decode cX2_childOf 1 = .ok (.getfield 15, 3) := by decide +kernel
theorem dX2_childOf_4 : decode cX2_childOf 4 = .ok (.iload_n 1, 1) := by decide +kernel
theorem dX2_childOf_5 : decode cX2_childOf 5 = .ok (.iaload, 1) := by decide +kernel
theorem dX2_childOf_6 : decode cX2_childOf 6 = .ok (.ireturn, 1) := by decide +kernel
theorem dX2_unsplitNodes_0 : decode cX2_unsplitNodes 0 = .ok (.aload_n 0, 1) := by decide +kernel
theorem dX2_unsplitNodes_1 : decode cX2_unsplitNodes 1 = .ok (.getfield 30, 3) := by decide +kernel
theorem dX2_unsplitNodes_4 : decode cX2_unsplitNodes 4 = .ok (.iconst 1, 1) := by decide +kernel
theorem dX2_unsplitNodes_5 : decode cX2_unsplitNodes 5 = .ok (.iaload, 1) := by decide +kernel
theorem dX2_unsplitNodes_6 : decode cX2_unsplitNodes 6 = .ok (.ireturn, 1) := by decide +kernel
theorem dX2_isFree_0 : decode cX2_isFree 0 = .ok (.iload_n 1, 1) := by decide +kernel
theorem dX2_isFree_1 : decode cX2_isFree 1 = .ok (.ifCond .eq 25, 3) := by decide +kernel
theorem dX2_isFree_4 : decode cX2_isFree 4 = .ok (.aload_n 0, 1) := by decide +kernel
theorem dX2_isFree_5 : decode cX2_isFree 5 = .ok (.getfield 15, 3) := by decide +kernel
theorem dX2_isFree_8 : decode cX2_isFree 8 = .ok (.iload_n 1, 1) := by decide +kernel
theorem dX2_isFree_9 : decode cX2_isFree 9 = .ok (.iaload, 1) := by decide +kernel
theorem dX2_isFree_10 : decode cX2_isFree 10 = .ok (.ifCond .ne 16, 3) := by decide +kernel
theorem dX2_isFree_13 : decode cX2_isFree 13 = .ok (.aload_n 0, 1) := by decide +kernel
theorem dX2_isFree_14 : decode cX2_isFree 14 = .ok (.getfield 24, 3) := by decide +kernel
theorem dX2_isFree_17 : decode cX2_isFree 17 = .ok (.iload_n 1, 1) := by decide +kernel
theorem dX2_isFree_18 : decode cX2_isFree 18 = .ok (.iaload, 1) := by decide +kernel
theorem dX2_isFree_19 : decode cX2_isFree 19 = .ok (.ifCond .ne 7, 3) := by decide +kernel
theorem dX2_isFree_22 : decode cX2_isFree 22 = .ok (.iconst 1, 1) := by decide +kernel
theorem dX2_isFree_23 : decode cX2_isFree 23 = .ok (.goto 4, 3) := by decide +kernel
theorem dX2_isFree_26 : decode cX2_isFree 26 = .ok (.iconst 0, 1) := by decide +kernel
theorem dX2_isFree_27 : decode cX2_isFree 27 = .ok (.ireturn, 1) := by decide +kernel
theorem dX2_hasLive_0 : decode cX2_hasLive 0 = .ok (.aload_n 0, 1) := by decide +kernel
theorem dX2_hasLive_1 : decode cX2_hasLive 1 = .ok (.getfield 27, 3) := by decide +kernel
theorem dX2_hasLive_4 : decode cX2_hasLive 4 = .ok (.iload_n 1, 1) := by decide +kernel
theorem dX2_hasLive_5 : decode cX2_hasLive 5 = .ok (.iaload, 1) := by decide +kernel
theorem dX2_hasLive_6 : decode cX2_hasLive 6 = .ok (.ldc 44, 2) := by decide +kernel
theorem dX2_hasLive_8 : decode cX2_hasLive 8 = .ok (.iand, 1) := by decide +kernel
theorem dX2_hasLive_9 : decode cX2_hasLive 9 = .ok (.ifCond .eq 7, 3) := by decide +kernel
theorem dX2_hasLive_12 : decode cX2_hasLive 12 = .ok (.iconst 1, 1) := by decide +kernel
theorem dX2_hasLive_13 : decode cX2_hasLive 13 = .ok (.goto 4, 3) := by decide +kernel
theorem dX2_hasLive_16 : decode cX2_hasLive 16 = .ok (.iconst 0, 1) := by decide +kernel
theorem dX2_hasLive_17 : decode cX2_hasLive 17 = .ok (.ireturn, 1) := by decide +kernel
theorem dX2_hasFree_0 : decode cX2_hasFree 0 = .ok (.aload_n 0, 1) := by decide +kernel
theorem dX2_hasFree_1 : decode cX2_hasFree 1 = .ok (.getfield 27, 3) := by decide +kernel
theorem dX2_hasFree_4 : decode cX2_hasFree 4 = .ok (.iconst 1, 1) := by decide +kernel
theorem dX2_hasFree_5 : decode cX2_hasFree 5 = .ok (.iaload, 1) := by decide +kernel
theorem dX2_hasFree_6 : decode cX2_hasFree 6 = .ok (.iload_n 1, 1) := by decide +kernel
theorem dX2_hasFree_7 : decode cX2_hasFree 7 = .ok (.ishr, 1) := by decide +kernel
theorem dX2_hasFree_8 : decode cX2_hasFree 8 = .ok (.iconst 1, 1) := by decide +kernel
theorem dX2_hasFree_9 : decode cX2_hasFree 9 = .ok (.iand, 1) := by decide +kernel
theorem dX2_hasFree_10 : decode cX2_hasFree 10 = .ok (.iconst 1, 1) := by decide +kernel
theorem dX2_hasFree_11 : decode cX2_hasFree 11 = .ok (.if_icmp .ne 7, 3) := by decide +kernel
theorem dX2_hasFree_14 : decode cX2_hasFree 14 = .ok (.iconst 1, 1) := by decide +kernel
theorem dX2_hasFree_15 : decode cX2_hasFree 15 = .ok (.goto 4, 3) := by decide +kernel
theorem dX2_hasFree_18 : decode cX2_hasFree 18 = .ok (.iconst 0, 1) := by decide +kernel
theorem dX2_hasFree_19 : decode cX2_hasFree 19 = .ok (.ireturn, 1) := by decide +kernel
theorem dX2_depthOf_0 : decode cX2_depthOf 0 = .ok (.iconst 0, 1) := by decide +kernel
theorem dX2_depthOf_1 : decode cX2_depthOf 1 = .ok (.istore_n 2, 1) := by decide +kernel
theorem dX2_depthOf_2 : decode cX2_depthOf 2 = .ok (.iload_n 1, 1) := by decide +kernel
theorem dX2_depthOf_3 : decode cX2_depthOf 3 = .ok (.istore_n 3, 1) := by decide +kernel
theorem dX2_depthOf_4 : decode cX2_depthOf 4 = .ok (.iload_n 3, 1) := by decide +kernel
theorem dX2_depthOf_5 : decode cX2_depthOf 5 = .ok (.iconst 1, 1) := by decide +kernel
theorem dX2_depthOf_6 : decode cX2_depthOf 6 = .ok (.if_icmp .eq 22, 3) := by decide +kernel
theorem dX2_depthOf_9 : decode cX2_depthOf 9 = .ok (.iload_n 2, 1) := by decide +kernel
theorem dX2_depthOf_10 : decode cX2_depthOf 10 = .ok (.bipush 24, 2) := by decide +kernel
theorem dX2_depthOf_12 : decode cX2_depthOf 12 = .ok (.if_icmp .ge 16, 3) := by decide +kernel
theorem dX2_depthOf_15 : decode cX2_depthOf 15 = .ok (.iinc 2 1, 3) := by decide +kernel
theorem dX2_depthOf_18 : decode cX2_depthOf 18 = .ok (.aload_n 0, 1) := by decide +kernel
theorem dX2_depthOf_19 : decode cX2_depthOf 19 = .ok (.getfield 11, 3) := by decide +kernel
theorem dX2_depthOf_22 : decode cX2_depthOf 22 = .ok (.iload_n 3, 1) := by decide +kernel
theorem dX2_depthOf_23 : decode cX2_depthOf 23 = .ok (.iaload, 1) := by decide +kernel
theorem dX2_depthOf_24 : decode cX2_depthOf 24 = .ok (.istore_n 3, 1) := by decide +kernel
theorem dX2_depthOf_25 : decode cX2_depthOf 25 = .ok (.goto (-21), 3) := by decide +kernel
theorem dX2_depthOf_28 : decode cX2_depthOf 28 = .ok (.iload_n 2, 1) := by decide +kernel
theorem dX2_depthOf_29 : decode cX2_depthOf 29 = .ok (.ireturn, 1) := by decide +kernel
theorem dX2_sideAt_0 : decode cX2_sideAt 0 = .ok (.aload_n 0, 1) := by decide +kernel
theorem dX2_sideAt_1 : decode cX2_sideAt 1 = .ok (.iload_n 1, 1) := by decide +kernel
theorem dX2_sideAt_2 : decode cX2_sideAt 2 = .ok (.invokevirtual 45, 3) := by decide +kernel
theorem dX2_sideAt_5 : decode cX2_sideAt 5 = .ok (.iconst 1, 1) := by decide +kernel
theorem dX2_sideAt_6 : decode cX2_sideAt 6 = .ok (.isub, 1) := by decide +kernel
theorem dX2_sideAt_7 : decode cX2_sideAt 7 = .ok (.iload_n 2, 1) := by decide +kernel
theorem dX2_sideAt_8 : decode cX2_sideAt 8 = .ok (.isub, 1) := by decide +kernel
theorem dX2_sideAt_9 : decode cX2_sideAt 9 = .ok (.istore_n 3, 1) := by decide +kernel
theorem dX2_sideAt_10 : decode cX2_sideAt 10 = .ok (.iload_n 3, 1) := by decide +kernel
theorem dX2_sideAt_11 : decode cX2_sideAt 11 = .ok (.ifCond .ge 5, 3) := by decide +kernel
theorem dX2_sideAt_14 : decode cX2_sideAt 14 = .ok (.iconst (-1), 1) := by decide +kernel
theorem dX2_sideAt_15 : decode cX2_sideAt 15 = .ok (.ireturn, 1) := by decide +kernel
theorem dX2_sideAt_16 : decode cX2_sideAt 16 = .ok (.iload_n 1, 1) := by decide +kernel
theorem dX2_sideAt_17 : decode cX2_sideAt 17 = .ok (.istore 4, 2) := by decide +kernel
theorem dX2_sideAt_19 : decode cX2_sideAt 19 = .ok (.iconst 0, 1) := by decide +kernel
theorem dX2_sideAt_20 : decode cX2_sideAt 20 = .ok (.istore 5, 2) := by decide +kernel
theorem dX2_sideAt_22 : decode cX2_sideAt 22 = .ok (.iload 5, 2) := by decide +kernel
theorem dX2_sideAt_24 : decode cX2_sideAt 24 = .ok (.iload_n 3, 1) := by decide +kernel
theorem dX2_sideAt_25 : decode cX2_sideAt 25 = .ok (.if_icmp .ge 18, 3) := by decide +kernel
theorem dX2_sideAt_28 : decode cX2_sideAt 28 = .ok (.aload_n 0, 1) := by decide +kernel
theorem dX2_sideAt_29 : decode cX2_sideAt 29 = .ok (.getfield 11, 3) := by decide +kernel
theorem dX2_sideAt_32 : decode cX2_sideAt 32 = .ok (.iload 4, 2) := by decide +kernel
theorem dX2_sideAt_34 : decode cX2_sideAt 34 = .ok (.iaload, 1) := by decide +kernel
theorem dX2_sideAt_35 : decode cX2_sideAt 35 = .ok (.istore 4, 2) := by decide +kernel
theorem dX2_sideAt_37 : decode cX2_sideAt 37 = .ok (.iinc 5 1, 3) := by decide +kernel
theorem dX2_sideAt_40 : decode cX2_sideAt 40 = .ok (.goto (-18), 3) := by decide +kernel
theorem dX2_sideAt_43 : decode cX2_sideAt 43 = .ok (.iload 4, 2) := by decide +kernel
theorem dX2_sideAt_45 : decode cX2_sideAt 45 = .ok (.iconst 1, 1) := by decide +kernel
theorem dX2_sideAt_46 : decode cX2_sideAt 46 = .ok (.iand, 1) := by decide +kernel
theorem dX2_sideAt_47 : decode cX2_sideAt 47 = .ok (.ireturn, 1) := by decide +kernel
theorem dX2_liveAt_0 : decode cX2_liveAt 0 = .ok (.iconst 1, 1) := by decide +kernel
theorem dX2_liveAt_1 : decode cX2_liveAt 1 = .ok (.istore_n 2, 1) := by decide +kernel
theorem dX2_liveAt_2 : decode cX2_liveAt 2 = .ok (.iconst 0, 1) := by decide +kernel
theorem dX2_liveAt_3 : decode cX2_liveAt 3 = .ok (.istore_n 3, 1) := by decide +kernel
theorem dX2_liveAt_4 : decode cX2_liveAt 4 = .ok (.iload_n 3, 1) := by decide +kernel
theorem dX2_liveAt_5 : decode cX2_liveAt 5 = .ok (.bipush 24, 2) := by decide +kernel
theorem dX2_liveAt_7 : decode cX2_liveAt 7 = .ok (.if_icmp .ge 49, 3) := by decide +kernel
theorem dX2_liveAt_10 : decode cX2_liveAt 10 = .ok (.aload_n 0, 1) := by decide +kernel
theorem dX2_liveAt_11 : decode cX2_liveAt 11 = .ok (.getfield 15, 3) := by decide +kernel
theorem dX2_liveAt_14 : decode cX2_liveAt 14 = .ok (.iload_n 2, 1) := by decide +kernel
theorem dX2_liveAt_15 : decode cX2_liveAt 15 = .ok (.iaload, 1) := by decide +kernel
theorem dX2_liveAt_16 : decode cX2_liveAt 16 = .ok (.ifCond .eq 40, 3) := by decide +kernel
theorem dX2_liveAt_19 : decode cX2_liveAt 19 = .ok (.aload_n 0, 1) := by decide +kernel
theorem dX2_liveAt_20 : decode cX2_liveAt 20 = .ok (.getfield 15, 3) := by decide +kernel
theorem dX2_liveAt_23 : decode cX2_liveAt 23 = .ok (.iload_n 2, 1) := by decide +kernel
theorem dX2_liveAt_24 : decode cX2_liveAt 24 = .ok (.iaload, 1) := by decide +kernel
theorem dX2_liveAt_25 : decode cX2_liveAt 25 = .ok (.iconst 1, 1) := by decide +kernel
theorem dX2_liveAt_26 : decode cX2_liveAt 26 = .ok (.iadd, 1) := by decide +kernel
theorem dX2_liveAt_27 : decode cX2_liveAt 27 = .ok (.istore 4, 2) := by decide +kernel
theorem dX2_liveAt_29 : decode cX2_liveAt 29 = .ok (.iload_n 1, 1) := by decide +kernel
theorem dX2_liveAt_30 : decode cX2_liveAt 30 = .ok (.aload_n 0, 1) := by decide +kernel
theorem dX2_liveAt_31 : decode cX2_liveAt 31 = .ok (.getfield 21, 3) := by decide +kernel
theorem dX2_liveAt_34 : decode cX2_liveAt 34 = .ok (.iload 4, 2) := by decide +kernel
theorem dX2_liveAt_36 : decode cX2_liveAt 36 = .ok (.iaload, 1) := by decide +kernel
theorem dX2_liveAt_37 : decode cX2_liveAt 37 = .ok (.if_icmp .ge 10, 3) := by decide +kernel
theorem dX2_liveAt_40 : decode cX2_liveAt 40 = .ok (.iload 4, 2) := by decide +kernel
theorem dX2_liveAt_42 : decode cX2_liveAt 42 = .ok (.iconst 1, 1) := by decide +kernel
theorem dX2_liveAt_43 : decode cX2_liveAt 43 = .ok (.isub, 1) := by decide +kernel
theorem dX2_liveAt_44 : decode cX2_liveAt 44 = .ok (.goto 5, 3) := by decide +kernel
theorem dX2_liveAt_47 : decode cX2_liveAt 47 = .ok (.iload 4, 2) := by decide +kernel
theorem dX2_liveAt_49 : decode cX2_liveAt 49 = .ok (.istore_n 2, 1) := by decide +kernel
theorem dX2_liveAt_50 : decode cX2_liveAt 50 = .ok (.iinc 3 1, 3) := by decide +kernel
theorem dX2_liveAt_53 : decode cX2_liveAt 53 = .ok (.goto (-49), 3) := by decide +kernel
theorem dX2_liveAt_56 : decode cX2_liveAt 56 = .ok (.aload_n 0, 1) := by decide +kernel
theorem dX2_liveAt_57 : decode cX2_liveAt 57 = .ok (.getfield 21, 3) := by decide +kernel
theorem dX2_liveAt_60 : decode cX2_liveAt 60 = .ok (.iload_n 2, 1) := by decide +kernel
theorem dX2_liveAt_61 : decode cX2_liveAt 61 = .ok (.iaload, 1) := by decide +kernel
theorem dX2_liveAt_62 : decode cX2_liveAt 62 = .ok (.iload_n 1, 1) := by decide +kernel
theorem dX2_liveAt_63 : decode cX2_liveAt 63 = .ok (.if_icmp .ne 16, 3) := by decide +kernel
theorem dX2_liveAt_66 : decode cX2_liveAt 66 = .ok (.aload_n 0, 1) := by decide +kernel
theorem dX2_liveAt_67 : decode cX2_liveAt 67 = .ok (.getfield 24, 3) := by decide +kernel
theorem dX2_liveAt_70 : decode cX2_liveAt 70 = .ok (.iload_n 2, 1) := by decide +kernel
theorem dX2_liveAt_71 : decode cX2_liveAt 71 = .ok (.iaload, 1) := by decide +kernel
theorem dX2_liveAt_72 : decode cX2_liveAt 72 = .ok (.ifCond .le 7, 3) := by decide +kernel
theorem dX2_liveAt_75 : decode cX2_liveAt 75 = .ok (.iload_n 2, 1) := by decide +kernel
theorem dX2_liveAt_76 : decode cX2_liveAt 76 = .ok (.goto 4, 3) := by decide +kernel
theorem dX2_liveAt_79 : decode cX2_liveAt 79 = .ok (.iconst 0, 1) := by decide +kernel
theorem dX2_liveAt_80 : decode cX2_liveAt 80 = .ok (.ireturn, 1) := by decide +kernel
theorem dX2_unsplitAt_0 : decode cX2_unsplitAt 0 = .ok (.iload_n 1, 1) := by decide +kernel
theorem dX2_unsplitAt_1 : decode cX2_unsplitAt 1 = .ok (.ifCond .lt 13, 3) := by decide +kernel
theorem dX2_unsplitAt_4 : decode cX2_unsplitAt 4 = .ok (.iload_n 1, 1) := by decide +kernel
theorem dX2_unsplitAt_5 : decode cX2_unsplitAt 5 = .ok (.aload_n 0, 1) := by decide +kernel
theorem dX2_unsplitAt_6 : decode cX2_unsplitAt 6 = .ok (.getfield 30, 3) := by decide +kernel
theorem dX2_unsplitAt_9 : decode cX2_unsplitAt 9 = .ok (.iconst 1, 1) := by decide +kernel
theorem dX2_unsplitAt_10 : decode cX2_unsplitAt 10 = .ok (.iaload, 1) := by decide +kernel
theorem dX2_unsplitAt_11 : decode cX2_unsplitAt 11 = .ok (.if_icmp .lt 5, 3) := by decide +kernel
theorem dX2_unsplitAt_14 : decode cX2_unsplitAt 14 = .ok (.iconst 0, 1) := by decide +kernel
theorem dX2_unsplitAt_15 : decode cX2_unsplitAt 15 = .ok (.ireturn, 1) := by decide +kernel
theorem dX2_unsplitAt_16 : decode cX2_unsplitAt 16 = .ok (.iconst 1, 1) := by decide +kernel
theorem dX2_unsplitAt_17 : decode cX2_unsplitAt 17 = .ok (.istore_n 2, 1) := by decide +kernel
theorem dX2_unsplitAt_18 : decode cX2_unsplitAt 18 = .ok (.iload_n 1, 1) := by decide +kernel
theorem dX2_unsplitAt_19 : decode cX2_unsplitAt 19 = .ok (.istore_n 3, 1) := by decide +kernel
theorem dX2_unsplitAt_20 : decode cX2_unsplitAt 20 = .ok (.iconst 0, 1) := by decide +kernel
theorem dX2_unsplitAt_21 : decode cX2_unsplitAt 21 = .ok (.istore 4, 2) := by decide +kernel
theorem dX2_unsplitAt_23 : decode cX2_unsplitAt 23 = .ok (.iload 4, 2) := by decide +kernel
theorem dX2_unsplitAt_25 : decode cX2_unsplitAt 25 = .ok (.bipush 24, 2) := by decide +kernel
theorem dX2_unsplitAt_27 : decode cX2_unsplitAt 27 = .ok (.if_icmp .ge 47, 3) := by decide +kernel
theorem dX2_unsplitAt_30 : decode cX2_unsplitAt 30 = .ok (.aload_n 0, 1) := by decide +kernel
theorem dX2_unsplitAt_31 : decode cX2_unsplitAt 31 = .ok (.getfield 15, 3) := by decide +kernel
theorem dX2_unsplitAt_34 : decode cX2_unsplitAt 34 = .ok (.iload_n 2, 1) := by decide +kernel
theorem dX2_unsplitAt_35 : decode cX2_unsplitAt 35 = .ok (.iaload, 1) := by decide +kernel
theorem dX2_unsplitAt_36 : decode cX2_unsplitAt 36 = .ok (.ifCond .eq 38, 3) := by decide +kernel
theorem dX2_unsplitAt_39 : decode cX2_unsplitAt 39 = .ok (.aload_n 0, 1) := by decide +kernel
theorem dX2_unsplitAt_40 : decode cX2_unsplitAt 40 = .ok (.getfield 15, 3) := by decide +kernel
theorem dX2_unsplitAt_43 : decode cX2_unsplitAt 43 = .ok (.iload_n 2, 1) := by decide +kernel
theorem dX2_unsplitAt_44 : decode cX2_unsplitAt 44 = .ok (.iaload, 1) := by decide +kernel
theorem dX2_unsplitAt_45 : decode cX2_unsplitAt 45 = .ok (.istore_n 2, 1) := by decide +kernel
theorem dX2_unsplitAt_46 : decode cX2_unsplitAt 46 = .ok (.iload_n 3, 1) := by decide +kernel
theorem dX2_unsplitAt_47 : decode cX2_unsplitAt 47 = .ok (.aload_n 0, 1) := by decide +kernel
theorem dX2_unsplitAt_48 : decode cX2_unsplitAt 48 = .ok (.getfield 30, 3) := by decide +kernel
theorem dX2_unsplitAt_51 : decode cX2_unsplitAt 51 = .ok (.iload_n 2, 1) := by decide +kernel
theorem dX2_unsplitAt_52 : decode cX2_unsplitAt 52 = .ok (.iaload, 1) := by decide +kernel
theorem dX2_unsplitAt_53 : decode cX2_unsplitAt 53 = .ok (.if_icmp .lt 15, 3) := by decide +kernel
theorem dX2_unsplitAt_56 : decode cX2_unsplitAt 56 = .ok (.iload_n 3, 1) := by decide +kernel
theorem dX2_unsplitAt_57 : decode cX2_unsplitAt 57 = .ok (.aload_n 0, 1) := by decide +kernel
theorem dX2_unsplitAt_58 : decode cX2_unsplitAt 58 = .ok (.getfield 30, 3) := by decide +kernel
theorem dX2_unsplitAt_61 : decode cX2_unsplitAt 61 = .ok (.iload_n 2, 1) := by decide +kernel
theorem dX2_unsplitAt_62 : decode cX2_unsplitAt 62 = .ok (.iaload, 1) := by decide +kernel
theorem dX2_unsplitAt_63 : decode cX2_unsplitAt 63 = .ok (.isub, 1) := by decide +kernel
theorem dX2_unsplitAt_64 : decode cX2_unsplitAt 64 = .ok (.istore_n 3, 1) := by decide +kernel
theorem dX2_unsplitAt_65 : decode cX2_unsplitAt 65 = .ok (.iinc 2 1, 3) := by decide +kernel
theorem dX2_unsplitAt_68 : decode cX2_unsplitAt 68 = .ok (.iinc 4 1, 3) := by decide +kernel
theorem dX2_unsplitAt_71 : decode cX2_unsplitAt 71 = .ok (.goto (-48), 3) := by decide +kernel
theorem dX2_unsplitAt_74 : decode cX2_unsplitAt 74 = .ok (.iload_n 2, 1) := by decide +kernel
theorem dX2_unsplitAt_75 : decode cX2_unsplitAt 75 = .ok (.ireturn, 1) := by decide +kernel
theorem dX2_outermost_0 : decode cX2_outermost 0 = .ok (.aload_n 0, 1) := by decide +kernel
theorem dX2_outermost_1 : decode cX2_outermost 1 = .ok (.getfield 27, 3) := by decide +kernel
theorem dX2_outermost_4 : decode cX2_outermost 4 = .ok (.iconst 1, 1) := by decide +kernel
theorem dX2_outermost_5 : decode cX2_outermost 5 = .ok (.iaload, 1) := by decide +kernel
theorem dX2_outermost_6 : decode cX2_outermost 6 = .ok (.iload_n 1, 1) := by decide +kernel
theorem dX2_outermost_7 : decode cX2_outermost 7 = .ok (.iand, 1) := by decide +kernel
theorem dX2_outermost_8 : decode cX2_outermost 8 = .ok (.ifCond .ne 5, 3) := by decide +kernel
theorem dX2_outermost_11 : decode cX2_outermost 11 = .ok (.iconst 0, 1) := by decide +kernel
theorem dX2_outermost_12 : decode cX2_outermost 12 = .ok (.ireturn, 1) := by decide +kernel
theorem dX2_outermost_13 : decode cX2_outermost 13 = .ok (.iconst 1, 1) := by decide +kernel
theorem dX2_outermost_14 : decode cX2_outermost 14 = .ok (.istore_n 3, 1) := by decide +kernel
theorem dX2_outermost_15 : decode cX2_outermost 15 = .ok (.iconst 0, 1) := by decide +kernel
theorem dX2_outermost_16 : decode cX2_outermost 16 = .ok (.istore 4, 2) := by decide +kernel
theorem dX2_outermost_18 : decode cX2_outermost 18 = .ok (.iload 4, 2) := by decide +kernel
theorem dX2_outermost_20 : decode cX2_outermost 20 = .ok (.bipush 24, 2) := by decide +kernel
theorem dX2_outermost_22 : decode cX2_outermost 22 = .ok (.if_icmp .ge 50, 3) := by decide +kernel
theorem dX2_outermost_25 : decode cX2_outermost 25 = .ok (.aload_n 0, 1) := by decide +kernel
theorem dX2_outermost_26 : decode cX2_outermost 26 = .ok (.getfield 15, 3) := by decide +kernel
theorem dX2_outermost_29 : decode cX2_outermost 29 = .ok (.iload_n 3, 1) := by decide +kernel
theorem dX2_outermost_30 : decode cX2_outermost 30 = .ok (.iaload, 1) := by decide +kernel
theorem dX2_outermost_31 : decode cX2_outermost 31 = .ok (.ifCond .eq 41, 3) := by decide +kernel
theorem dX2_outermost_34 : decode cX2_outermost 34 = .ok (.aload_n 0, 1) := by decide +kernel
theorem dX2_outermost_35 : decode cX2_outermost 35 = .ok (.getfield 15, 3) := by decide +kernel
theorem dX2_outermost_38 : decode cX2_outermost 38 = .ok (.iload_n 3, 1) := by decide +kernel
theorem dX2_outermost_39 : decode cX2_outermost 39 = .ok (.iaload, 1) := by decide +kernel
theorem dX2_outermost_40 : decode cX2_outermost 40 = .ok (.iload_n 2, 1) := by decide +kernel
theorem dX2_outermost_41 : decode cX2_outermost 41 = .ok (.iadd, 1) := by decide +kernel
theorem dX2_outermost_42 : decode cX2_outermost 42 = .ok (.istore 5, 2) := by decide +kernel
theorem dX2_outermost_44 : decode cX2_outermost 44 = .ok (.aload_n 0, 1) := by decide +kernel
theorem dX2_outermost_45 : decode cX2_outermost 45 = .ok (.getfield 27, 3) := by decide +kernel
theorem dX2_outermost_48 : decode cX2_outermost 48 = .ok (.iload 5, 2) := by decide +kernel
theorem dX2_outermost_50 : decode cX2_outermost 50 = .ok (.iaload, 1) := by decide +kernel
theorem dX2_outermost_51 : decode cX2_outermost 51 = .ok (.iload_n 1, 1) := by decide +kernel
theorem dX2_outermost_52 : decode cX2_outermost 52 = .ok (.iand, 1) := by decide +kernel
theorem dX2_outermost_53 : decode cX2_outermost 53 = .ok (.ifCond .eq 8, 3) := by decide +kernel
theorem dX2_outermost_56 : decode cX2_outermost 56 = .ok (.iload 5, 2) := by decide +kernel
theorem dX2_outermost_58 : decode cX2_outermost 58 = .ok (.goto 7, 3) := by decide +kernel
theorem dX2_outermost_61 : decode cX2_outermost 61 = .ok (.iload 5, 2) := by decide +kernel
theorem dX2_outermost_63 : decode cX2_outermost 63 = .ok (.iconst 1, 1) := by decide +kernel
theorem dX2_outermost_64 : decode cX2_outermost 64 = .ok (.ixor, 1) := by decide +kernel
theorem dX2_outermost_65 : decode cX2_outermost 65 = .ok (.istore_n 3, 1) := by decide +kernel
theorem dX2_outermost_66 : decode cX2_outermost 66 = .ok (.iinc 4 1, 3) := by decide +kernel
theorem dX2_outermost_69 : decode cX2_outermost 69 = .ok (.goto (-51), 3) := by decide +kernel
theorem dX2_outermost_72 : decode cX2_outermost 72 = .ok (.iload_n 3, 1) := by decide +kernel
theorem dX2_outermost_73 : decode cX2_outermost 73 = .ok (.ireturn, 1) := by decide +kernel
theorem dX2_joinable_0 : decode cX2_joinable 0 = .ok (.aload_n 0, 1) := by decide +kernel
theorem dX2_joinable_1 : decode cX2_joinable 1 = .ok (.getfield 27, 3) := by decide +kernel
theorem dX2_joinable_4 : decode cX2_joinable 4 = .ok (.iconst 1, 1) := by decide +kernel
theorem dX2_joinable_5 : decode cX2_joinable 5 = .ok (.iaload, 1) := by decide +kernel
theorem dX2_joinable_6 : decode cX2_joinable 6 = .ok (.iconst 1, 1) := by decide +kernel
theorem dX2_joinable_7 : decode cX2_joinable 7 = .ok (.iand, 1) := by decide +kernel
theorem dX2_joinable_8 : decode cX2_joinable 8 = .ok (.ifCond .ne 5, 3) := by decide +kernel
theorem dX2_joinable_11 : decode cX2_joinable 11 = .ok (.iconst 0, 1) := by decide +kernel
theorem dX2_joinable_12 : decode cX2_joinable 12 = .ok (.ireturn, 1) := by decide +kernel
theorem dX2_joinable_13 : decode cX2_joinable 13 = .ok (.iconst 1, 1) := by decide +kernel
theorem dX2_joinable_14 : decode cX2_joinable 14 = .ok (.istore_n 1, 1) := by decide +kernel
theorem dX2_joinable_15 : decode cX2_joinable 15 = .ok (.iconst 0, 1) := by decide +kernel
theorem dX2_joinable_16 : decode cX2_joinable 16 = .ok (.istore_n 2, 1) := by decide +kernel
theorem dX2_joinable_17 : decode cX2_joinable 17 = .ok (.iload_n 2, 1) := by decide +kernel
theorem dX2_joinable_18 : decode cX2_joinable 18 = .ok (.bipush 24, 2) := by decide +kernel
theorem dX2_joinable_20 : decode cX2_joinable 20 = .ok (.if_icmp .ge 43, 3) := by decide +kernel
theorem dX2_joinable_23 : decode cX2_joinable 23 = .ok (.aload_n 0, 1) := by decide +kernel
theorem dX2_joinable_24 : decode cX2_joinable 24 = .ok (.iload_n 1, 1) := by decide +kernel
theorem dX2_joinable_25 : decode cX2_joinable 25 = .ok (.invokevirtual 49, 3) := by decide +kernel
theorem dX2_joinable_28 : decode cX2_joinable 28 = .ok (.ifCond .ne 35, 3) := by decide +kernel
theorem dX2_joinable_31 : decode cX2_joinable 31 = .ok (.aload_n 0, 1) := by decide +kernel
theorem dX2_joinable_32 : decode cX2_joinable 32 = .ok (.getfield 15, 3) := by decide +kernel
theorem dX2_joinable_35 : decode cX2_joinable 35 = .ok (.iload_n 1, 1) := by decide +kernel
theorem dX2_joinable_36 : decode cX2_joinable 36 = .ok (.iaload, 1) := by decide +kernel
theorem dX2_joinable_37 : decode cX2_joinable 37 = .ok (.istore_n 3, 1) := by decide +kernel
theorem dX2_joinable_38 : decode cX2_joinable 38 = .ok (.aload_n 0, 1) := by decide +kernel
theorem dX2_joinable_39 : decode cX2_joinable 39 = .ok (.getfield 27, 3) := by decide +kernel
theorem dX2_joinable_42 : decode cX2_joinable 42 = .ok (.iload_n 3, 1) := by decide +kernel
theorem dX2_joinable_43 : decode cX2_joinable 43 = .ok (.iaload, 1) := by decide +kernel
theorem dX2_joinable_44 : decode cX2_joinable 44 = .ok (.iconst 1, 1) := by decide +kernel
theorem dX2_joinable_45 : decode cX2_joinable 45 = .ok (.iand, 1) := by decide +kernel
theorem dX2_joinable_46 : decode cX2_joinable 46 = .ok (.ifCond .eq 7, 3) := by decide +kernel
theorem dX2_joinable_49 : decode cX2_joinable 49 = .ok (.iload_n 3, 1) := by decide +kernel
theorem dX2_joinable_50 : decode cX2_joinable 50 = .ok (.goto 6, 3) := by decide +kernel
theorem dX2_joinable_53 : decode cX2_joinable 53 = .ok (.iload_n 3, 1) := by decide +kernel
theorem dX2_joinable_54 : decode cX2_joinable 54 = .ok (.iconst 1, 1) := by decide +kernel
theorem dX2_joinable_55 : decode cX2_joinable 55 = .ok (.iadd, 1) := by decide +kernel
theorem dX2_joinable_56 : decode cX2_joinable 56 = .ok (.istore_n 1, 1) := by decide +kernel
theorem dX2_joinable_57 : decode cX2_joinable 57 = .ok (.iinc 2 1, 3) := by decide +kernel
theorem dX2_joinable_60 : decode cX2_joinable 60 = .ok (.goto (-43), 3) := by decide +kernel
theorem dX2_joinable_63 : decode cX2_joinable 63 = .ok (.iload_n 1, 1) := by decide +kernel
theorem dX2_joinable_64 : decode cX2_joinable 64 = .ok (.ireturn, 1) := by decide +kernel
theorem dX2_behind_0 : decode cX2_behind 0 = .ok (.iload_n 1, 1) := by decide +kernel
theorem dX2_behind_1 : decode cX2_behind 1 = .ok (.istore_n 2, 1) := by decide +kernel
theorem dX2_behind_2 : decode cX2_behind 2 = .ok (.iconst 0, 1) := by decide +kernel
theorem dX2_behind_3 : decode cX2_behind 3 = .ok (.istore_n 3, 1) := by decide +kernel
theorem dX2_behind_4 : decode cX2_behind 4 = .ok (.iload_n 3, 1) := by decide +kernel
theorem dX2_behind_5 : decode cX2_behind 5 = .ok (.bipush 24, 2) := by decide +kernel
theorem dX2_behind_7 : decode cX2_behind 7 = .ok (.if_icmp .ge 28, 3) := by decide +kernel
theorem dX2_behind_10 : decode cX2_behind 10 = .ok (.iload_n 2, 1) := by decide +kernel
theorem dX2_behind_11 : decode cX2_behind 11 = .ok (.iconst 1, 1) := by decide +kernel
theorem dX2_behind_12 : decode cX2_behind 12 = .ok (.if_icmp .eq 23, 3) := by decide +kernel
theorem dX2_behind_15 : decode cX2_behind 15 = .ok (.iload_n 2, 1) := by decide +kernel
theorem dX2_behind_16 : decode cX2_behind 16 = .ok (.iconst 1, 1) := by decide +kernel
theorem dX2_behind_17 : decode cX2_behind 17 = .ok (.iand, 1) := by decide +kernel
theorem dX2_behind_18 : decode cX2_behind 18 = .ok (.iconst 1, 1) := by decide +kernel
theorem dX2_behind_19 : decode cX2_behind 19 = .ok (.if_icmp .ne 16, 3) := by decide +kernel
theorem dX2_behind_22 : decode cX2_behind 22 = .ok (.aload_n 0, 1) := by decide +kernel
theorem dX2_behind_23 : decode cX2_behind 23 = .ok (.getfield 11, 3) := by decide +kernel
theorem dX2_behind_26 : decode cX2_behind 26 = .ok (.iload_n 2, 1) := by decide +kernel
theorem dX2_behind_27 : decode cX2_behind 27 = .ok (.iaload, 1) := by decide +kernel
theorem dX2_behind_28 : decode cX2_behind 28 = .ok (.istore_n 2, 1) := by decide +kernel
theorem dX2_behind_29 : decode cX2_behind 29 = .ok (.iinc 3 1, 3) := by decide +kernel
theorem dX2_behind_32 : decode cX2_behind 32 = .ok (.goto (-28), 3) := by decide +kernel
theorem dX2_behind_35 : decode cX2_behind 35 = .ok (.iload_n 2, 1) := by decide +kernel
theorem dX2_behind_36 : decode cX2_behind 36 = .ok (.iconst 1, 1) := by decide +kernel
theorem dX2_behind_37 : decode cX2_behind 37 = .ok (.if_icmp .ne 7, 3) := by decide +kernel
theorem dX2_behind_40 : decode cX2_behind 40 = .ok (.iconst 0, 1) := by decide +kernel
theorem dX2_behind_41 : decode cX2_behind 41 = .ok (.goto 6, 3) := by decide +kernel
theorem dX2_behind_44 : decode cX2_behind 44 = .ok (.iload_n 2, 1) := by decide +kernel
theorem dX2_behind_45 : decode cX2_behind 45 = .ok (.iconst 1, 1) := by decide +kernel
theorem dX2_behind_46 : decode cX2_behind 46 = .ok (.iadd, 1) := by decide +kernel
theorem dX2_behind_47 : decode cX2_behind 47 = .ok (.ireturn, 1) := by decide +kernel
theorem dX2_wholeFrom_0 : decode cX2_wholeFrom 0 = .ok (.iload_n 1, 1) := by decide +kernel
theorem dX2_wholeFrom_1 : decode cX2_wholeFrom 1 = .ok (.istore_n 2, 1) := by decide +kernel
theorem dX2_wholeFrom_2 : decode cX2_wholeFrom 2 = .ok (.iconst 0, 1) := by decide +kernel
theorem dX2_wholeFrom_3 : decode cX2_wholeFrom 3 = .ok (.istore_n 3, 1) := by decide +kernel
theorem dX2_wholeFrom_4 : decode cX2_wholeFrom 4 = .ok (.iload_n 3, 1) := by decide +kernel
theorem dX2_wholeFrom_5 : decode cX2_wholeFrom 5 = .ok (.aload_n 0, 1) := by decide +kernel
theorem dX2_wholeFrom_6 : decode cX2_wholeFrom 6 = .ok (.getfield 33, 3) := by decide +kernel
theorem dX2_wholeFrom_9 : decode cX2_wholeFrom 9 = .ok (.if_icmp .ge 45, 3) := by decide +kernel
theorem dX2_wholeFrom_12 : decode cX2_wholeFrom 12 = .ok (.iload_n 2, 1) := by decide +kernel
theorem dX2_wholeFrom_13 : decode cX2_wholeFrom 13 = .ok (.ifCond .eq 41, 3) := by decide +kernel
theorem dX2_wholeFrom_16 : decode cX2_wholeFrom 16 = .ok (.aload_n 0, 1) := by decide +kernel
theorem dX2_wholeFrom_17 : decode cX2_wholeFrom 17 = .ok (.iload_n 2, 1) := by decide +kernel
theorem dX2_wholeFrom_18 : decode cX2_wholeFrom 18 = .ok (.invokevirtual 53, 3) := by decide +kernel
theorem dX2_wholeFrom_21 : decode cX2_wholeFrom 21 = .ok (.ifCond .eq 33, 3) := by decide +kernel
theorem dX2_wholeFrom_24 : decode cX2_wholeFrom 24 = .ok (.aload_n 0, 1) := by decide +kernel
theorem dX2_wholeFrom_25 : decode cX2_wholeFrom 25 = .ok (.getfield 15, 3) := by decide +kernel
theorem dX2_wholeFrom_28 : decode cX2_wholeFrom 28 = .ok (.iload_n 2, 1) := by decide +kernel
theorem dX2_wholeFrom_29 : decode cX2_wholeFrom 29 = .ok (.iaload, 1) := by decide +kernel
theorem dX2_wholeFrom_30 : decode cX2_wholeFrom 30 = .ok (.ifCond .eq 12, 3) := by decide +kernel
theorem dX2_wholeFrom_33 : decode cX2_wholeFrom 33 = .ok (.aload_n 0, 1) := by decide +kernel
theorem dX2_wholeFrom_34 : decode cX2_wholeFrom 34 = .ok (.getfield 15, 3) := by decide +kernel
theorem dX2_wholeFrom_37 : decode cX2_wholeFrom 37 = .ok (.iload_n 2, 1) := by decide +kernel
theorem dX2_wholeFrom_38 : decode cX2_wholeFrom 38 = .ok (.iaload, 1) := by decide +kernel
theorem dX2_wholeFrom_39 : decode cX2_wholeFrom 39 = .ok (.goto 8, 3) := by decide +kernel
theorem dX2_wholeFrom_42 : decode cX2_wholeFrom 42 = .ok (.aload_n 0, 1) := by decide +kernel
theorem dX2_wholeFrom_43 : decode cX2_wholeFrom 43 = .ok (.iload_n 2, 1) := by decide +kernel
theorem dX2_wholeFrom_44 : decode cX2_wholeFrom 44 = .ok (.invokevirtual 56, 3) := by decide +kernel
theorem dX2_wholeFrom_47 : decode cX2_wholeFrom 47 = .ok (.istore_n 2, 1) := by decide +kernel
theorem dX2_wholeFrom_48 : decode cX2_wholeFrom 48 = .ok (.iinc 3 1, 3) := by decide +kernel
theorem dX2_wholeFrom_51 : decode cX2_wholeFrom 51 = .ok (.goto (-47), 3) := by decide +kernel
theorem dX2_wholeFrom_54 : decode cX2_wholeFrom 54 = .ok (.iload_n 2, 1) := by decide +kernel
theorem dX2_wholeFrom_55 : decode cX2_wholeFrom 55 = .ok (.ireturn, 1) := by decide +kernel
theorem dX2_split_0 : decode cX2_split 0 = .ok (.aload_n 0, 1) := by decide +kernel
theorem dX2_split_1 : decode cX2_split 1 = .ok (.getfield 37, 3) := by decide +kernel
theorem dX2_split_4 : decode cX2_split 4 = .ok (.ifCond .ne 28, 3) := by decide +kernel
theorem dX2_split_7 : decode cX2_split 7 = .ok (.aload_n 0, 1) := by decide +kernel
theorem dX2_split_8 : decode cX2_split 8 = .ok (.getfield 33, 3) := by decide +kernel
theorem dX2_split_11 : decode cX2_split 11 = .ok (.iconst 2, 1) := by decide +kernel
theorem dX2_split_12 : decode cX2_split 12 = .ok (.iadd, 1) := by decide +kernel
theorem dX2_split_13 : decode cX2_split 13 = .ok (.aload_n 0, 1) := by decide +kernel
theorem dX2_split_14 : decode cX2_split 14 = .ok (.getfield 11, 3) := by decide +kernel
theorem dX2_split_17 : decode cX2_split 17 = .ok (.arraylength, 1) := by decide +kernel
theorem dX2_split_18 : decode cX2_split 18 = .ok (.if_icmp .le 14, 3) := by decide +kernel
theorem dX2_split_21 : decode cX2_split 21 = .ok (.aload_n 0, 1) := by decide +kernel
theorem dX2_split_22 : decode cX2_split 22 = .ok (.aload_n 0, 1) := by decide +kernel
theorem dX2_split_23 : decode cX2_split 23 = .ok (.getfield 11, 3) := by decide +kernel
theorem dX2_split_26 : decode cX2_split 26 = .ok (.arraylength, 1) := by decide +kernel
theorem dX2_split_27 : decode cX2_split 27 = .ok (.iconst 2, 1) := by decide +kernel
theorem dX2_split_28 : decode cX2_split 28 = .ok (.imul, 1) := by decide +kernel
theorem dX2_split_29 : decode cX2_split 29 = .ok (.invokevirtual 59, 3) := by decide +kernel
theorem dX2_split_32 : decode cX2_split 32 = .ok (.aload_n 0, 1) := by decide +kernel
theorem dX2_split_33 : decode cX2_split 33 = .ok (.invokevirtual 63, 3) := by decide +kernel
theorem dX2_split_36 : decode cX2_split 36 = .ok (.istore 5, 2) := by decide +kernel
theorem dX2_split_38 : decode cX2_split 38 = .ok (.aload_n 0, 1) := by decide +kernel
theorem dX2_split_39 : decode cX2_split 39 = .ok (.iload 5, 2) := by decide +kernel
theorem dX2_split_41 : decode cX2_split 41 = .ok (.iload_n 1, 1) := by decide +kernel
theorem dX2_split_42 : decode cX2_split 42 = .ok (.iload_n 2, 1) := by decide +kernel
theorem dX2_split_43 : decode cX2_split 43 = .ok (.aload_n 0, 1) := by decide +kernel
theorem dX2_split_44 : decode cX2_split 44 = .ok (.getfield 21, 3) := by decide +kernel
theorem dX2_split_47 : decode cX2_split 47 = .ok (.iload_n 1, 1) := by decide +kernel
theorem dX2_split_48 : decode cX2_split 48 = .ok (.iaload, 1) := by decide +kernel
theorem dX2_split_49 : decode cX2_split 49 = .ok (.invokevirtual 40, 3) := by decide +kernel
theorem dX2_split_52 : decode cX2_split 52 = .ok (.aload_n 0, 1) := by decide +kernel
theorem dX2_split_53 : decode cX2_split 53 = .ok (.iload 5, 2) := by decide +kernel
theorem dX2_split_55 : decode cX2_split 55 = .ok (.iconst 1, 1) := by decide +kernel
theorem dX2_split_56 : decode cX2_split 56 = .ok (.iadd, 1) := by decide +kernel
theorem dX2_split_57 : decode cX2_split 57 = .ok (.iload_n 1, 1) := by decide +kernel
theorem dX2_split_58 : decode cX2_split 58 = .ok (.iload_n 3, 1) := by decide +kernel
theorem dX2_split_59 : decode cX2_split 59 = .ok (.aload_n 0, 1) := by decide +kernel
theorem dX2_split_60 : decode cX2_split 60 = .ok (.getfield 21, 3) := by decide +kernel
theorem dX2_split_63 : decode cX2_split 63 = .ok (.iload_n 1, 1) := by decide +kernel
theorem dX2_split_64 : decode cX2_split 64 = .ok (.iaload, 1) := by decide +kernel
theorem dX2_split_65 : decode cX2_split 65 = .ok (.iload 4, 2) := by decide +kernel
theorem dX2_split_67 : decode cX2_split 67 = .ok (.iadd, 1) := by decide +kernel
theorem dX2_split_68 : decode cX2_split 68 = .ok (.invokevirtual 40, 3) := by decide +kernel
theorem dX2_split_71 : decode cX2_split 71 = .ok (.aload_n 0, 1) := by decide +kernel
theorem dX2_split_72 : decode cX2_split 72 = .ok (.getfield 15, 3) := by decide +kernel
theorem dX2_split_75 : decode cX2_split 75 = .ok (.iload_n 1, 1) := by decide +kernel
theorem dX2_split_76 : decode cX2_split 76 = .ok (.iload 5, 2) := by decide +kernel
theorem dX2_split_78 : decode cX2_split 78 = .ok (.iastore, 1) := by decide +kernel
theorem dX2_split_79 : decode cX2_split 79 = .ok (.return_, 1) := by decide +kernel
theorem dX2_unite_0 : decode cX2_unite 0 = .ok (.aload_n 0, 1) := by decide +kernel
theorem dX2_unite_1 : decode cX2_unite 1 = .ok (.getfield 15, 3) := by decide +kernel
theorem dX2_unite_4 : decode cX2_unite 4 = .ok (.iload_n 1, 1) := by decide +kernel
theorem dX2_unite_5 : decode cX2_unite 5 = .ok (.iaload, 1) := by decide +kernel
theorem dX2_unite_6 : decode cX2_unite 6 = .ok (.istore_n 2, 1) := by decide +kernel
theorem dX2_unite_7 : decode cX2_unite 7 = .ok (.aload_n 0, 1) := by decide +kernel
theorem dX2_unite_8 : decode cX2_unite 8 = .ok (.getfield 11, 3) := by decide +kernel
theorem dX2_unite_11 : decode cX2_unite 11 = .ok (.iload_n 2, 1) := by decide +kernel
theorem dX2_unite_12 : decode cX2_unite 12 = .ok (.aload_n 0, 1) := by decide +kernel
theorem dX2_unite_13 : decode cX2_unite 13 = .ok (.getfield 37, 3) := by decide +kernel
theorem dX2_unite_16 : decode cX2_unite 16 = .ok (.iastore, 1) := by decide +kernel
theorem dX2_unite_17 : decode cX2_unite 17 = .ok (.aload_n 0, 1) := by decide +kernel
theorem dX2_unite_18 : decode cX2_unite 18 = .ok (.iload_n 2, 1) := by decide +kernel
theorem dX2_unite_19 : decode cX2_unite 19 = .ok (.putfield 37, 3) := by decide +kernel
theorem dX2_unite_22 : decode cX2_unite 22 = .ok (.aload_n 0, 1) := by decide +kernel
theorem dX2_unite_23 : decode cX2_unite 23 = .ok (.getfield 15, 3) := by decide +kernel
theorem dX2_unite_26 : decode cX2_unite 26 = .ok (.iload_n 1, 1) := by decide +kernel
theorem dX2_unite_27 : decode cX2_unite 27 = .ok (.iconst 0, 1) := by decide +kernel
theorem dX2_unite_28 : decode cX2_unite 28 = .ok (.iastore, 1) := by decide +kernel
theorem dX2_unite_29 : decode cX2_unite 29 = .ok (.aload_n 0, 1) := by decide +kernel
theorem dX2_unite_30 : decode cX2_unite 30 = .ok (.getfield 30, 3) := by decide +kernel
theorem dX2_unite_33 : decode cX2_unite 33 = .ok (.iload_n 1, 1) := by decide +kernel
theorem dX2_unite_34 : decode cX2_unite 34 = .ok (.iconst 1, 1) := by decide +kernel
theorem dX2_unite_35 : decode cX2_unite 35 = .ok (.iastore, 1) := by decide +kernel
theorem dX2_unite_36 : decode cX2_unite 36 = .ok (.aload_n 0, 1) := by decide +kernel
theorem dX2_unite_37 : decode cX2_unite 37 = .ok (.getfield 27, 3) := by decide +kernel
theorem dX2_unite_40 : decode cX2_unite 40 = .ok (.iload_n 1, 1) := by decide +kernel
theorem dX2_unite_41 : decode cX2_unite 41 = .ok (.iconst 1, 1) := by decide +kernel
theorem dX2_unite_42 : decode cX2_unite 42 = .ok (.aload_n 0, 1) := by decide +kernel
theorem dX2_unite_43 : decode cX2_unite 43 = .ok (.getfield 18, 3) := by decide +kernel
theorem dX2_unite_46 : decode cX2_unite 46 = .ok (.iload_n 1, 1) := by decide +kernel
theorem dX2_unite_47 : decode cX2_unite 47 = .ok (.iaload, 1) := by decide +kernel
theorem dX2_unite_48 : decode cX2_unite 48 = .ok (.ishl, 1) := by decide +kernel
theorem dX2_unite_49 : decode cX2_unite 49 = .ok (.iastore, 1) := by decide +kernel
theorem dX2_unite_50 : decode cX2_unite 50 = .ok (.return_, 1) := by decide +kernel
theorem dX2_setRequest_0 : decode cX2_setRequest 0 = .ok (.aload_n 0, 1) := by decide +kernel
theorem dX2_setRequest_1 : decode cX2_setRequest 1 = .ok (.getfield 24, 3) := by decide +kernel
