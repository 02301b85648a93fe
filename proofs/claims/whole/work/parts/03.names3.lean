theorem dX4_joinAll_52 : decode cX4_joinAll 52 = .ok (.isub, 1) := by decide +kernel
theorem dX4_joinAll_53 : decode cX4_joinAll 53 = .ok (.goto 4, 3) := by decide +kernel
theorem dX4_joinAll_56 : decode cX4_joinAll 56 = .ok (.iconst 0, 1) := by decide +kernel
theorem dX4_joinAll_57 : decode cX4_joinAll 57 = .ok (.istore_n 2, 1) := by decide +kernel
theorem dX4_joinAll_58 : decode cX4_joinAll 58 = .ok (.goto (-51), 3) := by decide +kernel
theorem dX4_joinAll_61 : decode cX4_joinAll 61 = .ok (.iinc 2 1, 3) := by decide +kernel
theorem dX4_joinAll_64 : decode cX4_joinAll 64 = .ok (.goto (-57), 3) := by decide +kernel
theorem dX4_joinAll_67 : decode cX4_joinAll 67 = .ok (.aload_n 0, 1) := by decide +kernel
theorem dX4_joinAll_68 : decode cX4_joinAll 68 = .ok (.getfield 106, 3) := by decide +kernel
theorem dX4_joinAll_71 : decode cX4_joinAll 71 = .ok (.iload_n 1, 1) := by decide +kernel
theorem dX4_joinAll_72 : decode cX4_joinAll 72 = .ok (.isub, 1) := by decide +kernel
theorem dX4_joinAll_73 : decode cX4_joinAll 73 = .ok (.ireturn, 1) := by decide +kernel
theorem dX4_freeOf_0 : decode cX4_freeOf 0 = .ok (.iconst 0, 1) := by decide +kernel
theorem dX4_freeOf_1 : decode cX4_freeOf 1 = .ok (.istore_n 2, 1) := by decide +kernel
theorem dX4_freeOf_2 : decode cX4_freeOf 2 = .ok (.iconst 0, 1) := by decide +kernel
theorem dX4_freeOf_3 : decode cX4_freeOf 3 = .ok (.istore_n 3, 1) := by decide +kernel
theorem dX4_freeOf_4 : decode cX4_freeOf 4 = .ok (.iload_n 3, 1) := by decide +kernel
theorem dX4_freeOf_5 : decode cX4_freeOf 5 = .ok (.aload_n 0, 1) := by decide +kernel
theorem dX4_freeOf_6 : decode cX4_freeOf 6 = .ok (.getfield 96, 3) := by decide +kernel
theorem dX4_freeOf_9 : decode cX4_freeOf 9 = .ok (.if_icmp .ge 29, 3) := by decide +kernel
theorem dX4_freeOf_12 : decode cX4_freeOf 12 = .ok (.aload_n 0, 1) := by decide +kernel
theorem dX4_freeOf_13 : decode cX4_freeOf 13 = .ok (.iload_n 3, 1) := by decide +kernel
theorem dX4_freeOf_14 : decode cX4_freeOf 14 = .ok (.invokevirtual 132, 3) := by decide +kernel
theorem dX4_freeOf_17 : decode cX4_freeOf 17 = .ok (.ifCond .ne 15, 3) := by decide +kernel
theorem dX4_freeOf_20 : decode cX4_freeOf 20 = .ok (.aload_n 0, 1) := by decide +kernel
theorem dX4_freeOf_21 : decode cX4_freeOf 21 = .ok (.iload_n 3, 1) := by decide +kernel
theorem dX4_freeOf_22 : decode cX4_freeOf 22 = .ok (.invokevirtual 139, 3) := by decide +kernel
theorem dX4_freeOf_25 : decode cX4_freeOf 25 = .ok (.iload_n 1, 1) := by decide +kernel
theorem dX4_freeOf_26 : decode cX4_freeOf 26 = .ok (.if_icmp .ne 6, 3) := by decide +kernel
theorem dX4_freeOf_29 : decode cX4_freeOf 29 = .ok (.iinc 2 1, 3) := by decide +kernel
theorem dX4_freeOf_32 : decode cX4_freeOf 32 = .ok (.iinc 3 1, 3) := by decide +kernel
theorem dX4_freeOf_35 : decode cX4_freeOf 35 = .ok (.goto (-31), 3) := by decide +kernel
theorem dX4_freeOf_38 : decode cX4_freeOf 38 = .ok (.iload_n 2, 1) := by decide +kernel
theorem dX4_freeOf_39 : decode cX4_freeOf 39 = .ok (.ireturn, 1) := by decide +kernel
theorem dX4_best_0 : decode cX4_best 0 = .ok (.iconst (-1), 1) := by decide +kernel
theorem dX4_best_1 : decode cX4_best 1 = .ok (.istore_n 2, 1) := by decide +kernel
theorem dX4_best_2 : decode cX4_best 2 = .ok (.iconst 0, 1) := by decide +kernel
theorem dX4_best_3 : decode cX4_best 3 = .ok (.istore_n 3, 1) := by decide +kernel
theorem dX4_best_4 : decode cX4_best 4 = .ok (.iload_n 3, 1) := by decide +kernel
theorem dX4_best_5 : decode cX4_best 5 = .ok (.aload_n 0, 1) := by decide +kernel
theorem dX4_best_6 : decode cX4_best 6 = .ok (.getfield 96, 3) := by decide +kernel
theorem dX4_best_9 : decode cX4_best 9 = .ok (.if_icmp .ge 63, 3) := by decide +kernel
theorem dX4_best_12 : decode cX4_best 12 = .ok (.aload_n 0, 1) := by decide +kernel
theorem dX4_best_13 : decode cX4_best 13 = .ok (.iload_n 3, 1) := by decide +kernel
theorem dX4_best_14 : decode cX4_best 14 = .ok (.invokevirtual 132, 3) := by decide +kernel
theorem dX4_best_17 : decode cX4_best 17 = .ok (.ifCond .ne 49, 3) := by decide +kernel
theorem dX4_best_20 : decode cX4_best 20 = .ok (.aload_n 0, 1) := by decide +kernel
theorem dX4_best_21 : decode cX4_best 21 = .ok (.getfield 19, 3) := by decide +kernel
theorem dX4_best_24 : decode cX4_best 24 = .ok (.aload_n 0, 1) := by decide +kernel
theorem dX4_best_25 : decode cX4_best 25 = .ok (.iload_n 3, 1) := by decide +kernel
theorem dX4_best_26 : decode cX4_best 26 = .ok (.invokevirtual 139, 3) := by decide +kernel
theorem dX4_best_29 : decode cX4_best 29 = .ok (.iaload, 1) := by decide +kernel
theorem dX4_best_30 : decode cX4_best 30 = .ok (.iload_n 1, 1) := by decide +kernel
theorem dX4_best_31 : decode cX4_best 31 = .ok (.if_icmp .ge 6, 3) := by decide +kernel
theorem dX4_best_34 : decode cX4_best 34 = .ok (.goto 32, 3) := by decide +kernel
theorem dX4_best_37 : decode cX4_best 37 = .ok (.iload_n 2, 1) := by decide +kernel
theorem dX4_best_38 : decode cX4_best 38 = .ok (.ifCond .lt 26, 3) := by decide +kernel
theorem dX4_best_41 : decode cX4_best 41 = .ok (.aload_n 0, 1) := by decide +kernel
theorem dX4_best_42 : decode cX4_best 42 = .ok (.getfield 19, 3) := by decide +kernel
theorem dX4_best_45 : decode cX4_best 45 = .ok (.aload_n 0, 1) := by decide +kernel
theorem dX4_best_46 : decode cX4_best 46 = .ok (.iload_n 3, 1) := by decide +kernel
theorem dX4_best_47 : decode cX4_best 47 = .ok (.invokevirtual 139, 3) := by decide +kernel
theorem dX4_best_50 : decode cX4_best 50 = .ok (.iaload, 1) := by decide +kernel
theorem dX4_best_51 : decode cX4_best 51 = .ok (.aload_n 0, 1) := by decide +kernel
theorem dX4_best_52 : decode cX4_best 52 = .ok (.getfield 19, 3) := by decide +kernel
theorem dX4_best_55 : decode cX4_best 55 = .ok (.aload_n 0, 1) := by decide +kernel
theorem dX4_best_56 : decode cX4_best 56 = .ok (.iload_n 2, 1) := by decide +kernel
theorem dX4_best_57 : decode cX4_best 57 = .ok (.invokevirtual 139, 3) := by decide +kernel
theorem dX4_best_60 : decode cX4_best 60 = .ok (.iaload, 1) := by decide +kernel
theorem dX4_best_61 : decode cX4_best 61 = .ok (.if_icmp .ge 5, 3) := by decide +kernel
theorem dX4_best_64 : decode cX4_best 64 = .ok (.iload_n 3, 1) := by decide +kernel
theorem dX4_best_65 : decode cX4_best 65 = .ok (.istore_n 2, 1) := by decide +kernel
theorem dX4_best_66 : decode cX4_best 66 = .ok (.iinc 3 1, 3) := by decide +kernel
theorem dX4_best_69 : decode cX4_best 69 = .ok (.goto (-65), 3) := by decide +kernel
theorem dX4_best_72 : decode cX4_best 72 = .ok (.iload_n 2, 1) := by decide +kernel
theorem dX4_best_73 : decode cX4_best 73 = .ok (.ireturn, 1) := by decide +kernel
theorem dX4_giveWords_0 : decode cX4_giveWords 0 = .ok (.aload_n 0, 1) := by decide +kernel
theorem dX4_giveWords_1 : decode cX4_giveWords 1 = .ok (.iload_n 1, 1) := by decide +kernel
theorem dX4_giveWords_2 : decode cX4_giveWords 2 = .ok (.invokevirtual 142, 3) := by decide +kernel
theorem dX4_giveWords_5 : decode cX4_giveWords 5 = .ok (.istore_n 2, 1) := by decide +kernel
theorem dX4_giveWords_6 : decode cX4_giveWords 6 = .ok (.iload_n 2, 1) := by decide +kernel
theorem dX4_giveWords_7 : decode cX4_giveWords 7 = .ok (.ifCond .ge 14, 3) := by decide +kernel
theorem dX4_giveWords_10 : decode cX4_giveWords 10 = .ok (.aload_n 0, 1) := by decide +kernel
theorem dX4_giveWords_11 : decode cX4_giveWords 11 = .ok (.invokevirtual 145, 3) := by decide +kernel
theorem dX4_giveWords_14 : decode cX4_giveWords 14 = .ok (.pop, 1) := by decide +kernel
theorem dX4_giveWords_15 : decode cX4_giveWords 15 = .ok (.aload_n 0, 1) := by decide +kernel
theorem dX4_giveWords_16 : decode cX4_giveWords 16 = .ok (.iload_n 1, 1) := by decide +kernel
theorem dX4_giveWords_17 : decode cX4_giveWords 17 = .ok (.invokevirtual 142, 3) := by decide +kernel
theorem dX4_giveWords_20 : decode cX4_giveWords 20 = .ok (.istore_n 2, 1) := by decide +kernel
theorem dX4_giveWords_21 : decode cX4_giveWords 21 = .ok (.iload_n 2, 1) := by decide +kernel
theorem dX4_giveWords_22 : decode cX4_giveWords 22 = .ok (.ifCond .ge 5, 3) := by decide +kernel
theorem dX4_giveWords_25 : decode cX4_giveWords 25 = .ok (.iconst (-1), 1) := by decide +kernel
theorem dX4_giveWords_26 : decode cX4_giveWords 26 = .ok (.ireturn, 1) := by decide +kernel
theorem dX4_giveWords_27 : decode cX4_giveWords 27 = .ok (.iconst 1, 1) := by decide +kernel
theorem dX4_giveWords_28 : decode cX4_giveWords 28 = .ok (.istore_n 3, 1) := by decide +kernel
theorem dX4_giveWords_29 : decode cX4_giveWords 29 = .ok (.iload_n 3, 1) := by decide +kernel
theorem dX4_giveWords_30 : decode cX4_giveWords 30 = .ok (.ifCond .eq 259, 3) := by decide +kernel
theorem dX4_giveWords_33 : decode cX4_giveWords 33 = .ok (.aload_n 0, 1) := by decide +kernel
theorem dX4_giveWords_34 : decode cX4_giveWords 34 = .ok (.iload_n 2, 1) := by decide +kernel
theorem dX4_giveWords_35 : decode cX4_giveWords 35 = .ok (.invokevirtual 139, 3) := by decide +kernel
theorem dX4_giveWords_38 : decode cX4_giveWords 38 = .ok (.istore 4, 2) := by decide +kernel
theorem dX4_giveWords_40 : decode cX4_giveWords 40 = .ok (.aload_n 0, 1) := by decide +kernel
theorem dX4_giveWords_41 : decode cX4_giveWords 41 = .ok (.getfield 22, 3) := by decide +kernel
theorem dX4_giveWords_44 : decode cX4_giveWords 44 = .ok (.iload 4, 2) := by decide +kernel
theorem dX4_giveWords_46 : decode cX4_giveWords 46 = .ok (.iaload, 1) := by decide +kernel
theorem dX4_giveWords_47 : decode cX4_giveWords 47 = .ok (.istore 5, 2) := by decide +kernel
theorem dX4_giveWords_49 : decode cX4_giveWords 49 = .ok (.aload_n 0, 1) := by decide +kernel
theorem dX4_giveWords_50 : decode cX4_giveWords 50 = .ok (.getfield 25, 3) := by decide +kernel
theorem dX4_giveWords_53 : decode cX4_giveWords 53 = .ok (.iload 4, 2) := by decide +kernel
theorem dX4_giveWords_55 : decode cX4_giveWords 55 = .ok (.iaload, 1) := by decide +kernel
theorem dX4_giveWords_56 : decode cX4_giveWords 56 = .ok (.istore 6, 2) := by decide +kernel
theorem dX4_giveWords_58 : decode cX4_giveWords 58 = .ok (.iload 5, 2) := by decide +kernel
theorem dX4_giveWords_60 : decode cX4_giveWords 60 = .ok (.ifCond .le 18, 3) := by decide +kernel
theorem dX4_giveWords_63 : decode cX4_giveWords 63 = .ok (.aload_n 0, 1) := by decide +kernel
theorem dX4_giveWords_64 : decode cX4_giveWords 64 = .ok (.getfield 19, 3) := by decide +kernel
theorem dX4_giveWords_67 : decode cX4_giveWords 67 = .ok (.iload 5, 2) := by decide +kernel
theorem dX4_giveWords_69 : decode cX4_giveWords 69 = .ok (.iaload, 1) := by decide +kernel
theorem dX4_giveWords_70 : decode cX4_giveWords 70 = .ok (.iload_n 1, 1) := by decide +kernel
theorem dX4_giveWords_71 : decode cX4_giveWords 71 = .ok (.if_icmp .lt 7, 3) := by decide +kernel
theorem dX4_giveWords_74 : decode cX4_giveWords 74 = .ok (.iconst 1, 1) := by decide +kernel
theorem dX4_giveWords_75 : decode cX4_giveWords 75 = .ok (.goto 4, 3) := by decide +kernel
theorem dX4_giveWords_78 : decode cX4_giveWords 78 = .ok (.iconst 0, 1) := by decide +kernel
theorem dX4_giveWords_79 : decode cX4_giveWords 79 = .ok (.istore 7, 2) := by decide +kernel
theorem dX4_giveWords_81 : decode cX4_giveWords 81 = .ok (.iload 5, 2) := by decide +kernel
theorem dX4_giveWords_83 : decode cX4_giveWords 83 = .ok (.ifCond .le 18, 3) := by decide +kernel
theorem dX4_giveWords_86 : decode cX4_giveWords 86 = .ok (.aload_n 0, 1) := by decide +kernel
theorem dX4_giveWords_87 : decode cX4_giveWords 87 = .ok (.getfield 19, 3) := by decide +kernel
theorem dX4_giveWords_90 : decode cX4_giveWords 90 = .ok (.iload 6, 2) := by decide +kernel
theorem dX4_giveWords_92 : decode cX4_giveWords 92 = .ok (.iaload, 1) := by decide +kernel
theorem dX4_giveWords_93 : decode cX4_giveWords 93 = .ok (.iload_n 1, 1) := by decide +kernel
theorem dX4_giveWords_94 : decode cX4_giveWords 94 = .ok (.if_icmp .lt 7, 3) := by decide +kernel
theorem dX4_giveWords_97 : decode cX4_giveWords 97 = .ok (.iconst 1, 1) := by decide +kernel
theorem dX4_giveWords_98 : decode cX4_giveWords 98 = .ok (.goto 4, 3) := by decide +kernel
theorem dX4_giveWords_101 : decode cX4_giveWords 101 = .ok (.iconst 0, 1) := by decide +kernel
theorem dX4_giveWords_102 : decode cX4_giveWords 102 = .ok (.istore 8, 2) := by decide +kernel
theorem dX4_giveWords_104 : decode cX4_giveWords 104 = .ok (.iload 7, 2) := by decide +kernel
theorem dX4_giveWords_106 : decode cX4_giveWords 106 = .ok (.ifCond .ne 8, 3) := by decide +kernel
theorem dX4_giveWords_109 : decode cX4_giveWords 109 = .ok (.iload 8, 2) := by decide +kernel
theorem dX4_giveWords_111 : decode cX4_giveWords 111 = .ok (.ifCond .eq 7, 3) := by decide +kernel
theorem dX4_giveWords_114 : decode cX4_giveWords 114 = .ok (.iconst 1, 1) := by decide +kernel
theorem dX4_giveWords_115 : decode cX4_giveWords 115 = .ok (.goto 4, 3) := by decide +kernel
theorem dX4_giveWords_118 : decode cX4_giveWords 118 = .ok (.iconst 0, 1) := by decide +kernel
theorem dX4_giveWords_119 : decode cX4_giveWords 119 = .ok (.istore_n 3, 1) := by decide +kernel
theorem dX4_giveWords_120 : decode cX4_giveWords 120 = .ok (.iload_n 3, 1) := by decide +kernel
theorem dX4_giveWords_121 : decode cX4_giveWords 121 = .ok (.ifCond .ne 6, 3) := by decide +kernel
theorem dX4_giveWords_124 : decode cX4_giveWords 124 = .ok (.goto (-95), 3) := by decide +kernel
theorem dX4_giveWords_127 : decode cX4_giveWords 127 = .ok (.aload_n 0, 1) := by decide +kernel
theorem dX4_giveWords_128 : decode cX4_giveWords 128 = .ok (.getfield 96, 3) := by decide +kernel
theorem dX4_giveWords_131 : decode cX4_giveWords 131 = .ok (.istore 9, 2) := by decide +kernel
theorem dX4_giveWords_133 : decode cX4_giveWords 133 = .ok (.iload 9, 2) := by decide +kernel
theorem dX4_giveWords_135 : decode cX4_giveWords 135 = .ok (.iload_n 2, 1) := by decide +kernel
theorem dX4_giveWords_136 : decode cX4_giveWords 136 = .ok (.iconst 1, 1) := by decide +kernel
theorem dX4_giveWords_137 : decode cX4_giveWords 137 = .ok (.iadd, 1) := by decide +kernel
theorem dX4_giveWords_138 : decode cX4_giveWords 138 = .ok (.if_icmp .le 25, 3) := by decide +kernel
theorem dX4_giveWords_141 : decode cX4_giveWords 141 = .ok (.aload_n 0, 1) := by decide +kernel
theorem dX4_giveWords_142 : decode cX4_giveWords 142 = .ok (.getfield 38, 3) := by decide +kernel
theorem dX4_giveWords_145 : decode cX4_giveWords 145 = .ok (.iload 9, 2) := by decide +kernel
theorem dX4_giveWords_147 : decode cX4_giveWords 147 = .ok (.aload_n 0, 1) := by decide +kernel
theorem dX4_giveWords_148 : decode cX4_giveWords 148 = .ok (.getfield 38, 3) := by decide +kernel
theorem dX4_giveWords_151 : decode cX4_giveWords 151 = .ok (.iload 9, 2) := by decide +kernel
theorem dX4_giveWords_153 : decode cX4_giveWords 153 = .ok (.iconst 1, 1) := by decide +kernel
theorem dX4_giveWords_154 : decode cX4_giveWords 154 = .ok (.isub, 1) := by decide +kernel
theorem dX4_giveWords_155 : decode cX4_giveWords 155 = .ok (.laload, 1) := by decide +kernel
theorem dX4_giveWords_156 : decode cX4_giveWords 156 = .ok (.lastore, 1) := by decide +kernel
theorem dX4_giveWords_157 : decode cX4_giveWords 157 = .ok (.iinc 9 (-1), 3) := by decide +kernel
theorem dX4_giveWords_160 : decode cX4_giveWords 160 = .ok (.goto (-27), 3) := by decide +kernel
theorem dX4_giveWords_163 : decode cX4_giveWords 163 = .ok (.aload_n 0, 1) := by decide +kernel
theorem dX4_giveWords_164 : decode cX4_giveWords 164 = .ok (.dup, 1) := by decide +kernel
theorem dX4_giveWords_165 : decode cX4_giveWords 165 = .ok (.getfield 96, 3) := by decide +kernel
theorem dX4_giveWords_168 : decode cX4_giveWords 168 = .ok (.iconst 1, 1) := by decide +kernel
theorem dX4_giveWords_169 : decode cX4_giveWords 169 = .ok (.iadd, 1) := by decide +kernel
theorem dX4_giveWords_170 : decode cX4_giveWords 170 = .ok (.putfield 96, 3) := by decide +kernel
theorem dX4_giveWords_173 : decode cX4_giveWords 173 = .ok (.aload_n 0, 1) := by decide +kernel
theorem dX4_giveWords_174 : decode cX4_giveWords 174 = .ok (.iload_n 2, 1) := by decide +kernel
theorem dX4_giveWords_175 : decode cX4_giveWords 175 = .ok (.invokevirtual 123, 3) := by decide +kernel
theorem dX4_giveWords_178 : decode cX4_giveWords 178 = .ok (.istore 9, 2) := by decide +kernel
theorem dX4_giveWords_180 : decode cX4_giveWords 180 = .ok (.aload_n 0, 1) := by decide +kernel
theorem dX4_giveWords_181 : decode cX4_giveWords 181 = .ok (.iload_n 2, 1) := by decide +kernel
theorem dX4_giveWords_182 : decode cX4_giveWords 182 = .ok (.invokevirtual 116, 3) := by decide +kernel
theorem dX4_giveWords_185 : decode cX4_giveWords 185 = .ok (.iconst 1, 1) := by decide +kernel
theorem dX4_giveWords_186 : decode cX4_giveWords 186 = .ok (.iadd, 1) := by decide +kernel
theorem dX4_giveWords_187 : decode cX4_giveWords 187 = .ok (.istore 10, 2) := by decide +kernel
theorem dX4_giveWords_189 : decode cX4_giveWords 189 = .ok (.iconst 2, 1) := by decide +kernel
theorem dX4_giveWords_190 : decode cX4_giveWords 190 = .ok (.aload_n 0, 1) := by decide +kernel
theorem dX4_giveWords_191 : decode cX4_giveWords 191 = .ok (.iload_n 2, 1) := by decide +kernel
theorem dX4_giveWords_192 : decode cX4_giveWords 192 = .ok (.invokevirtual 120, 3) := by decide +kernel
theorem dX4_giveWords_195 : decode cX4_giveWords 195 = .ok (.imul, 1) := by decide +kernel
theorem dX4_giveWords_196 : decode cX4_giveWords 196 = .ok (.istore 11, 2) := by decide +kernel
theorem dX4_giveWords_198 : decode cX4_giveWords 198 = .ok (.aload_n 0, 1) := by decide +kernel
theorem dX4_giveWords_199 : decode cX4_giveWords 199 = .ok (.getfield 38, 3) := by decide +kernel
theorem dX4_giveWords_202 : decode cX4_giveWords 202 = .ok (.iload_n 2, 1) := by decide +kernel
theorem dX4_giveWords_203 : decode cX4_giveWords 203 = .ok (.iload 9, 2) := by decide +kernel
theorem dX4_giveWords_205 : decode cX4_giveWords 205 = .ok (.iconst 0, 1) := by decide +kernel
theorem dX4_giveWords_206 : decode cX4_giveWords 206 = .ok (.iload 5, 2) := by decide +kernel
theorem dX4_giveWords_208 : decode cX4_giveWords 208 = .ok (.iload 10, 2) := by decide +kernel
theorem dX4_giveWords_210 : decode cX4_giveWords 210 = .ok (.iload 11, 2) := by decide +kernel
theorem dX4_giveWords_212 : decode cX4_giveWords 212 = .ok (.invokestatic 99, 3) := by decide +kernel
theorem dX4_giveWords_215 : decode cX4_giveWords 215 = .ok (.lastore, 1) := by decide +kernel
theorem dX4_giveWords_216 : decode cX4_giveWords 216 = .ok (.aload_n 0, 1) := by decide +kernel
theorem dX4_giveWords_217 : decode cX4_giveWords 217 = .ok (.getfield 38, 3) := by decide +kernel
theorem dX4_giveWords_220 : decode cX4_giveWords 220 = .ok (.iload_n 2, 1) := by decide +kernel
theorem dX4_giveWords_221 : decode cX4_giveWords 221 = .ok (.iconst 1, 1) := by decide +kernel
theorem dX4_giveWords_222 : decode cX4_giveWords 222 = .ok (.iadd, 1) := by decide +kernel
theorem dX4_giveWords_223 : decode cX4_giveWords 223 = .ok (.iload 9, 2) := by decide +kernel
theorem dX4_giveWords_225 : decode cX4_giveWords 225 = .ok (.aload_n 0, 1) := by decide +kernel
theorem dX4_giveWords_226 : decode cX4_giveWords 226 = .ok (.getfield 19, 3) := by decide +kernel
theorem dX4_giveWords_229 : decode cX4_giveWords 229 = .ok (.iload 5, 2) := by decide +kernel
theorem dX4_giveWords_231 : decode cX4_giveWords 231 = .ok (.iaload, 1) := by decide +kernel
theorem dX4_giveWords_232 : decode cX4_giveWords 232 = .ok (.iadd, 1) := by decide +kernel
theorem dX4_giveWords_233 : decode cX4_giveWords 233 = .ok (.iconst 0, 1) := by decide +kernel
theorem dX4_giveWords_234 : decode cX4_giveWords 234 = .ok (.iload 6, 2) := by decide +kernel
theorem dX4_giveWords_236 : decode cX4_giveWords 236 = .ok (.iload 10, 2) := by decide +kernel
theorem dX4_giveWords_238 : decode cX4_giveWords 238 = .ok (.iload 11, 2) := by decide +kernel
theorem dX4_giveWords_240 : decode cX4_giveWords 240 = .ok (.iconst 1, 1) := by decide +kernel
theorem dX4_giveWords_241 : decode cX4_giveWords 241 = .ok (.iadd, 1) := by decide +kernel
theorem dX4_giveWords_242 : decode cX4_giveWords 242 = .ok (.invokestatic 99, 3) := by decide +kernel
theorem dX4_giveWords_245 : decode cX4_giveWords 245 = .ok (.lastore, 1) := by decide +kernel
theorem dX4_giveWords_246 : decode cX4_giveWords 246 = .ok (.aload_n 0, 1) := by decide +kernel
theorem dX4_giveWords_247 : decode cX4_giveWords 247 = .ok (.dup, 1) := by decide +kernel
theorem dX4_giveWords_248 : decode cX4_giveWords 248 = .ok (.getfield 109, 3) := by decide +kernel
theorem dX4_giveWords_251 : decode cX4_giveWords 251 = .ok (.iconst 1, 1) := by decide +kernel
theorem dX4_giveWords_252 : decode cX4_giveWords 252 = .ok (.iadd, 1) := by decide +kernel
theorem dX4_giveWords_253 : decode cX4_giveWords 253 = .ok (.putfield 109, 3) := by decide +kernel
theorem dX4_giveWords_256 : decode cX4_giveWords 256 = .ok (.iload 7, 2) := by decide +kernel
theorem dX4_giveWords_258 : decode cX4_giveWords 258 = .ok (.ifCond .eq 25, 3) := by decide +kernel
theorem dX4_giveWords_261 : decode cX4_giveWords 261 = .ok (.iload 8, 2) := by decide +kernel
theorem dX4_giveWords_263 : decode cX4_giveWords 263 = .ok (.ifCond .eq 23, 3) := by decide +kernel
theorem dX4_giveWords_266 : decode cX4_giveWords 266 = .ok (.aload_n 0, 1) := by decide +kernel
theorem dX4_giveWords_267 : decode cX4_giveWords 267 = .ok (.getfield 19, 3) := by decide +kernel
theorem dX4_giveWords_270 : decode cX4_giveWords 270 = .ok (.iload 6, 2) := by decide +kernel
theorem dX4_giveWords_272 : decode cX4_giveWords 272 = .ok (.iaload, 1) := by decide +kernel
theorem dX4_giveWords_273 : decode cX4_giveWords 273 = .ok (.aload_n 0, 1) := by decide +kernel
theorem dX4_giveWords_274 : decode cX4_giveWords 274 = .ok (.getfield 19, 3) := by decide +kernel
theorem dX4_giveWords_277 : decode cX4_giveWords 277 = .ok (.iload 5, 2) := by decide +kernel
theorem dX4_giveWords_279 : decode cX4_giveWords 279 = .ok (.iaload, 1) := by decide +kernel
theorem dX4_giveWords_280 : decode cX4_giveWords 280 = .ok (.if_icmp .ge 6, 3) := by decide +kernel
theorem dX4_giveWords_283 : decode cX4_giveWords 283 = .ok (.iinc 2 1, 3) := by decide +kernel
theorem dX4_giveWords_286 : decode cX4_giveWords 286 = .ok (.goto (-257), 3) := by decide +kernel
theorem dX4_giveWords_289 : decode cX4_giveWords 289 = .ok (.aload_n 0, 1) := by decide +kernel
theorem dX4_giveWords_290 : decode cX4_giveWords 290 = .ok (.getfield 38, 3) := by decide +kernel
theorem dX4_giveWords_293 : decode cX4_giveWords 293 = .ok (.iload_n 2, 1) := by decide +kernel
theorem dX4_giveWords_294 : decode cX4_giveWords 294 = .ok (.dup2, 1) := by decide +kernel
theorem dX4_giveWords_295 : decode cX4_giveWords 295 = .ok (.laload, 1) := by decide +kernel
theorem dX4_giveWords_296 : decode cX4_giveWords 296 = .ok (.ldc2_w 149, 3) := by decide +kernel
theorem dX4_giveWords_299 : decode cX4_giveWords 299 = .ok (.lor, 1) := by decide +kernel
theorem dX4_giveWords_300 : decode cX4_giveWords 300 = .ok (.lastore, 1) := by decide +kernel
theorem dX4_giveWords_301 : decode cX4_giveWords 301 = .ok (.aload_n 0, 1) := by decide +kernel
theorem dX4_giveWords_302 : decode cX4_giveWords 302 = .ok (.getfield 42, 3) := by decide +kernel
theorem dX4_giveWords_305 : decode cX4_giveWords 305 = .ok (.aload_n 0, 1) := by decide +kernel
theorem dX4_giveWords_306 : decode cX4_giveWords 306 = .ok (.getfield 103, 3) := by decide +kernel
theorem dX4_giveWords_309 : decode cX4_giveWords 309 = .ok (.aload_n 0, 1) := by decide +kernel
theorem dX4_giveWords_310 : decode cX4_giveWords 310 = .ok (.iload_n 2, 1) := by decide +kernel
theorem dX4_giveWords_311 : decode cX4_giveWords 311 = .ok (.invokevirtual 123, 3) := by decide +kernel
theorem dX4_giveWords_314 : decode cX4_giveWords 314 = .ok (.iastore, 1) := by decide +kernel
theorem dX4_giveWords_315 : decode cX4_giveWords 315 = .ok (.aload_n 0, 1) := by decide +kernel
theorem dX4_giveWords_316 : decode cX4_giveWords 316 = .ok (.getfield 45, 3) := by decide +kernel
theorem dX4_giveWords_319 : decode cX4_giveWords 319 = .ok (.aload_n 0, 1) := by decide +kernel
theorem dX4_giveWords_320 : decode cX4_giveWords 320 = .ok (.getfield 103, 3) := by decide +kernel
theorem dX4_giveWords_323 : decode cX4_giveWords 323 = .ok (.iload_n 1, 1) := by decide +kernel
theorem dX4_giveWords_324 : decode cX4_giveWords 324 = .ok (.iastore, 1) := by decide +kernel
theorem dX4_giveWords_325 : decode cX4_giveWords 325 = .ok (.aload_n 0, 1) := by decide +kernel
theorem dX4_giveWords_326 : decode cX4_giveWords 326 = .ok (.dup, 1) := by decide +kernel
theorem dX4_giveWords_327 : decode cX4_giveWords 327 = .ok (.getfield 103, 3) := by decide +kernel
theorem dX4_giveWords_330 : decode cX4_giveWords 330 = .ok (.iconst 1, 1) := by decide +kernel
theorem dX4_giveWords_331 : decode cX4_giveWords 331 = .ok (.iadd, 1) := by decide +kernel
theorem dX4_giveWords_332 : decode cX4_giveWords 332 = .ok (.putfield 103, 3) := by decide +kernel
theorem dX4_giveWords_335 : decode cX4_giveWords 335 = .ok (.aload_n 0, 1) := by decide +kernel
theorem dX4_giveWords_336 : decode cX4_giveWords 336 = .ok (.iload_n 2, 1) := by decide +kernel
theorem dX4_giveWords_337 : decode cX4_giveWords 337 = .ok (.invokevirtual 123, 3) := by decide +kernel
theorem dX4_giveWords_340 : decode cX4_giveWords 340 = .ok (.ireturn, 1) := by decide +kernel
theorem dX4_blockOf_0 : decode cX4_blockOf 0 = .ok (.iconst 0, 1) := by decide +kernel
theorem dX4_blockOf_1 : decode cX4_blockOf 1 = .ok (.istore_n 2, 1) := by decide +kernel
theorem dX4_blockOf_2 : decode cX4_blockOf 2 = .ok (.iload_n 2, 1) := by decide +kernel
theorem dX4_blockOf_3 : decode cX4_blockOf 3 = .ok (.aload_n 0, 1) := by decide +kernel
theorem dX4_blockOf_4 : decode cX4_blockOf 4 = .ok (.getfield 103, 3) := by decide +kernel
theorem dX4_blockOf_7 : decode cX4_blockOf 7 = .ok (.if_icmp .ge 21, 3) := by decide +kernel
theorem dX4_blockOf_10 : decode cX4_blockOf 10 = .ok (.aload_n 0, 1) := by decide +kernel
theorem dX4_blockOf_11 : decode cX4_blockOf 11 = .ok (.getfield 42, 3) := by decide +kernel
theorem dX4_blockOf_14 : decode cX4_blockOf 14 = .ok (.iload_n 2, 1) := by decide +kernel
theorem dX4_blockOf_15 : decode cX4_blockOf 15 = .ok (.iaload, 1) := by decide +kernel
theorem dX4_blockOf_16 : decode cX4_blockOf 16 = .ok (.iload_n 1, 1) := by decide +kernel
theorem dX4_blockOf_17 : decode cX4_blockOf 17 = .ok (.if_icmp .ne 5, 3) := by decide +kernel
theorem dX4_blockOf_20 : decode cX4_blockOf 20 = .ok (.iload_n 2, 1) := by decide +kernel
theorem dX4_blockOf_21 : decode cX4_blockOf 21 = .ok (.ireturn, 1) := by decide +kernel
theorem dX4_blockOf_22 : decode cX4_blockOf 22 = .ok (.iinc 2 1, 3) := by decide +kernel
theorem dX4_blockOf_25 : decode cX4_blockOf 25 = .ok (.goto (-23), 3) := by decide +kernel
theorem dX4_blockOf_28 : decode cX4_blockOf 28 = .ok (.iconst (-1), 1) := by decide +kernel
theorem dX4_blockOf_29 : decode cX4_blockOf 29 = .ok (.ireturn, 1) := by decide +kernel
theorem dX4_nodeAt_0 : decode cX4_nodeAt 0 = .ok (.iconst 0, 1) := by decide +kernel
theorem dX4_nodeAt_1 : decode cX4_nodeAt 1 = .ok (.istore_n 2, 1) := by decide +kernel
theorem dX4_nodeAt_2 : decode cX4_nodeAt 2 = .ok (.aload_n 0, 1) := by decide +kernel
theorem dX4_nodeAt_3 : decode cX4_nodeAt 3 = .ok (.iload_n 2, 1) := by decide +kernel
theorem dX4_nodeAt_4 : decode cX4_nodeAt 4 = .ok (.invokevirtual 123, 3) := by decide +kernel
theorem dX4_nodeAt_7 : decode cX4_nodeAt 7 = .ok (.iload_n 1, 1) := by decide +kernel
theorem dX4_nodeAt_8 : decode cX4_nodeAt 8 = .ok (.if_icmp .eq 9, 3) := by decide +kernel
theorem dX4_nodeAt_11 : decode cX4_nodeAt 11 = .ok (.iinc 2 1, 3) := by decide +kernel
theorem dX4_nodeAt_14 : decode cX4_nodeAt 14 = .ok (.goto (-12), 3) := by decide +kernel
theorem dX4_nodeAt_17 : decode cX4_nodeAt 17 = .ok (.iload_n 2, 1) := by decide +kernel
theorem dX4_nodeAt_18 : decode cX4_nodeAt 18 = .ok (.ireturn, 1) := by decide +kernel
theorem dX4_freeBlock_0 : decode cX4_freeBlock 0 = .ok (.aload_n 0, 1) := by decide +kernel
theorem dX4_freeBlock_1 : decode cX4_freeBlock 1 = .ok (.aload_n 0, 1) := by decide +kernel
theorem dX4_freeBlock_2 : decode cX4_freeBlock 2 = .ok (.getfield 42, 3) := by decide +kernel
theorem dX4_freeBlock_5 : decode cX4_freeBlock 5 = .ok (.iload_n 1, 1) := by decide +kernel
theorem dX4_freeBlock_6 : decode cX4_freeBlock 6 = .ok (.iaload, 1) := by decide +kernel
theorem dX4_freeBlock_7 : decode cX4_freeBlock 7 = .ok (.invokevirtual 151, 3) := by decide +kernel
theorem dX4_freeBlock_10 : decode cX4_freeBlock 10 = .ok (.istore_n 2, 1) := by decide +kernel
theorem dX4_freeBlock_11 : decode cX4_freeBlock 11 = .ok (.aload_n 0, 1) := by decide +kernel
theorem dX4_freeBlock_12 : decode cX4_freeBlock 12 = .ok (.dup, 1) := by decide +kernel
theorem dX4_freeBlock_13 : decode cX4_freeBlock 13 = .ok (.getfield 103, 3) := by decide +kernel
theorem dX4_freeBlock_16 : decode cX4_freeBlock 16 = .ok (.iconst 1, 1) := by decide +kernel
theorem dX4_freeBlock_17 : decode cX4_freeBlock 17 = .ok (.isub, 1) := by decide +kernel
theorem dX4_freeBlock_18 : decode cX4_freeBlock 18 = .ok (.putfield 103, 3) := by decide +kernel
theorem dX4_freeBlock_21 : decode cX4_freeBlock 21 = .ok (.aload_n 0, 1) := by decide +kernel
theorem dX4_freeBlock_22 : decode cX4_freeBlock 22 = .ok (.getfield 42, 3) := by decide +kernel
theorem dX4_freeBlock_25 : decode cX4_freeBlock 25 = .ok (.iload_n 1, 1) := by decide +kernel
theorem dX4_freeBlock_26 : decode cX4_freeBlock 26 = .ok (.aload_n 0, 1) := by decide +kernel
theorem dX4_freeBlock_27 : decode cX4_freeBlock 27 = .ok (.getfield 42, 3) := by decide +kernel
theorem dX4_freeBlock_30 : decode cX4_freeBlock 30 = .ok (.aload_n 0, 1) := by decide +kernel
theorem dX4_freeBlock_31 : decode cX4_freeBlock 31 = .ok (.getfield 103, 3) := by decide +kernel
theorem dX4_freeBlock_34 : decode cX4_freeBlock 34 = .ok (.iaload, 1) := by decide +kernel
theorem dX4_freeBlock_35 : decode cX4_freeBlock 35 = .ok (.iastore, 1) := by decide +kernel
theorem dX4_freeBlock_36 : decode cX4_freeBlock 36 = .ok (.aload_n 0, 1) := by decide +kernel
theorem dX4_freeBlock_37 : decode cX4_freeBlock 37 = .ok (.getfield 45, 3) := by decide +kernel
theorem dX4_freeBlock_40 : decode cX4_freeBlock 40 = .ok (.iload_n 1, 1) := by decide +kernel
theorem dX4_freeBlock_41 : decode cX4_freeBlock 41 = .ok (.aload_n 0, 1) := by decide +kernel
theorem dX4_freeBlock_42 : decode cX4_freeBlock 42 = .ok (.getfield 45, 3) := by decide +kernel
theorem dX4_freeBlock_45 : decode cX4_freeBlock 45 = .ok (.aload_n 0, 1) := by decide +kernel
theorem dX4_freeBlock_46 : decode cX4_freeBlock 46 = .ok (.getfield 103, 3) := by decide +kernel
theorem dX4_freeBlock_49 : decode cX4_freeBlock 49 = .ok (.iaload, 1) := by decide +kernel
theorem dX4_freeBlock_50 : decode cX4_freeBlock 50 = .ok (.iastore, 1) := by decide +kernel
theorem dX4_freeBlock_51 : decode cX4_freeBlock 51 = .ok (.aload_n 0, 1) := by decide +kernel
theorem dX4_freeBlock_52 : decode cX4_freeBlock 52 = .ok (.getfield 38, 3) := by decide +kernel
theorem dX4_freeBlock_55 : decode cX4_freeBlock 55 = .ok (.iload_n 2, 1) := by decide +kernel
theorem dX4_freeBlock_56 : decode cX4_freeBlock 56 = .ok (.dup2, 1) := by decide +kernel
theorem dX4_freeBlock_57 : decode cX4_freeBlock 57 = .ok (.laload, 1) := by decide +kernel
theorem dX4_freeBlock_58 : decode cX4_freeBlock 58 = .ok (.ldc2_w 154, 3) := by decide +kernel
theorem dX4_freeBlock_61 : decode cX4_freeBlock 61 = .ok (.land, 1) := by decide +kernel
theorem dX4_freeBlock_62 : decode cX4_freeBlock 62 = .ok (.lastore, 1) := by decide +kernel
theorem dX4_freeBlock_63 : decode cX4_freeBlock 63 = .ok (.iconst 1, 1) := by decide +kernel
theorem dX4_freeBlock_64 : decode cX4_freeBlock 64 = .ok (.istore_n 3, 1) := by decide +kernel
theorem dX4_freeBlock_65 : decode cX4_freeBlock 65 = .ok (.iload_n 3, 1) := by decide +kernel
theorem dX4_freeBlock_66 : decode cX4_freeBlock 66 = .ok (.ifCond .eq 107, 3) := by decide +kernel
theorem dX4_freeBlock_69 : decode cX4_freeBlock 69 = .ok (.aload_n 0, 1) := by decide +kernel
theorem dX4_freeBlock_70 : decode cX4_freeBlock 70 = .ok (.iload_n 2, 1) := by decide +kernel
theorem dX4_freeBlock_71 : decode cX4_freeBlock 71 = .ok (.invokevirtual 139, 3) := by decide +kernel
theorem dX4_freeBlock_74 : decode cX4_freeBlock 74 = .ok (.istore 4, 2) := by decide +kernel
theorem dX4_freeBlock_76 : decode cX4_freeBlock 76 = .ok (.aload_n 0, 1) := by decide +kernel
theorem dX4_freeBlock_77 : decode cX4_freeBlock 77 = .ok (.iload_n 2, 1) := by decide +kernel
theorem dX4_freeBlock_78 : decode cX4_freeBlock 78 = .ok (.invokevirtual 129, 3) := by decide +kernel
theorem dX4_freeBlock_81 : decode cX4_freeBlock 81 = .ok (.ifCond .eq 7, 3) := by decide +kernel
theorem dX4_freeBlock_84 : decode cX4_freeBlock 84 = .ok (.iload_n 2, 1) := by decide +kernel
theorem dX4_freeBlock_85 : decode cX4_freeBlock 85 = .ok (.goto 20, 3) := by decide +kernel
theorem dX4_freeBlock_88 : decode cX4_freeBlock 88 = .ok (.aload_n 0, 1) := by decide +kernel
theorem dX4_freeBlock_89 : decode cX4_freeBlock 89 = .ok (.iload_n 2, 1) := by decide +kernel
theorem dX4_freeBlock_90 : decode cX4_freeBlock 90 = .ok (.iconst 1, 1) := by decide +kernel
theorem dX4_freeBlock_91 : decode cX4_freeBlock 91 = .ok (.isub, 1) := by decide +kernel
theorem dX4_freeBlock_92 : decode cX4_freeBlock 92 = .ok (.invokevirtual 129, 3) := by decide +kernel
theorem dX4_freeBlock_95 : decode cX4_freeBlock 95 = .ok (.ifCond .eq 9, 3) := by decide +kernel
theorem dX4_freeBlock_98 : decode cX4_freeBlock 98 = .ok (.iload_n 2, 1) := by decide +kernel
theorem dX4_freeBlock_99 : decode cX4_freeBlock 99 = .ok (.iconst 1, 1) := by decide +kernel
theorem dX4_freeBlock_100 : decode cX4_freeBlock 100 = .ok (.isub, 1) := by decide +kernel
theorem dX4_freeBlock_101 : decode cX4_freeBlock 101 = .ok (.goto 4, 3) := by decide +kernel
theorem dX4_freeBlock_104 : decode cX4_freeBlock 104 = .ok (.iconst (-1), 1) := by decide +kernel
theorem dX4_freeBlock_105 : decode cX4_freeBlock 105 = .ok (.istore 5, 2) := by decide +kernel
theorem dX4_freeBlock_107 : decode cX4_freeBlock 107 = .ok (.iload 5, 2) := by decide +kernel
theorem dX4_freeBlock_109 : decode cX4_freeBlock 109 = .ok (.ifCond .lt 43, 3) := by decide +kernel
theorem dX4_freeBlock_112 : decode cX4_freeBlock 112 = .ok (.aload_n 0, 1) := by decide +kernel
theorem dX4_freeBlock_113 : decode cX4_freeBlock 113 = .ok (.iload 5, 2) := by decide +kernel
theorem dX4_freeBlock_115 : decode cX4_freeBlock 115 = .ok (.invokevirtual 132, 3) := by decide +kernel
theorem dX4_freeBlock_118 : decode cX4_freeBlock 118 = .ok (.ifCond .ne 34, 3) := by decide +kernel
theorem dX4_freeBlock_121 : decode cX4_freeBlock 121 = .ok (.aload_n 0, 1) := by decide +kernel
theorem dX4_freeBlock_122 : decode cX4_freeBlock 122 = .ok (.iload 5, 2) := by decide +kernel
theorem dX4_freeBlock_124 : decode cX4_freeBlock 124 = .ok (.iconst 1, 1) := by decide +kernel
theorem dX4_freeBlock_125 : decode cX4_freeBlock 125 = .ok (.iadd, 1) := by decide +kernel
theorem dX4_freeBlock_126 : decode cX4_freeBlock 126 = .ok (.invokevirtual 132, 3) := by decide +kernel
theorem dX4_freeBlock_129 : decode cX4_freeBlock 129 = .ok (.ifCond .ne 23, 3) := by decide +kernel
theorem dX4_freeBlock_132 : decode cX4_freeBlock 132 = .ok (.aload_n 0, 1) := by decide +kernel
theorem dX4_freeBlock_133 : decode cX4_freeBlock 133 = .ok (.iload 4, 2) := by decide +kernel
theorem dX4_freeBlock_135 : decode cX4_freeBlock 135 = .ok (.invokevirtual 156, 3) := by decide +kernel
theorem dX4_freeBlock_138 : decode cX4_freeBlock 138 = .ok (.aload_n 0, 1) := by decide +kernel
theorem dX4_freeBlock_139 : decode cX4_freeBlock 139 = .ok (.getfield 35, 3) := by decide +kernel
theorem dX4_freeBlock_142 : decode cX4_freeBlock 142 = .ok (.iload 4, 2) := by decide +kernel
theorem dX4_freeBlock_144 : decode cX4_freeBlock 144 = .ok (.iaload, 1) := by decide +kernel
theorem dX4_freeBlock_145 : decode cX4_freeBlock 145 = .ok (.if_icmp .le 7, 3) := by decide +kernel
theorem dX4_freeBlock_148 : decode cX4_freeBlock 148 = .ok (.iconst 1, 1) := by decide +kernel
theorem dX4_freeBlock_149 : decode cX4_freeBlock 149 = .ok (.goto 4, 3) := by decide +kernel
theorem dX4_freeBlock_152 : decode cX4_freeBlock 152 = .ok (.iconst 0, 1) := by decide +kernel
theorem dX4_freeBlock_153 : decode cX4_freeBlock 153 = .ok (.istore_n 3, 1) := by decide +kernel
theorem dX4_freeBlock_154 : decode cX4_freeBlock 154 = .ok (.iload_n 3, 1) := by decide +kernel
theorem dX4_freeBlock_155 : decode cX4_freeBlock 155 = .ok (.ifCond .ne 6, 3) := by decide +kernel
theorem dX4_freeBlock_158 : decode cX4_freeBlock 158 = .ok (.goto (-93), 3) := by decide +kernel
theorem dX4_freeBlock_161 : decode cX4_freeBlock 161 = .ok (.aload_n 0, 1) := by decide +kernel
theorem dX4_freeBlock_162 : decode cX4_freeBlock 162 = .ok (.iload 5, 2) := by decide +kernel
theorem dX4_freeBlock_164 : decode cX4_freeBlock 164 = .ok (.invokevirtual 135, 3) := by decide +kernel
theorem dX4_freeBlock_167 : decode cX4_freeBlock 167 = .ok (.iload 5, 2) := by decide +kernel
theorem dX4_freeBlock_169 : decode cX4_freeBlock 169 = .ok (.istore_n 2, 1) := by decide +kernel
theorem dX4_freeBlock_170 : decode cX4_freeBlock 170 = .ok (.goto (-105), 3) := by decide +kernel
theorem dX4_freeBlock_173 : decode cX4_freeBlock 173 = .ok (.return_, 1) := by decide +kernel
theorem dX4_isThere_0 : decode cX4_isThere 0 = .ok (.aload_n 0, 1) := by decide +kernel
theorem dX4_isThere_1 : decode cX4_isThere 1 = .ok (.aload_n 0, 1) := by decide +kernel
theorem dX4_isThere_2 : decode cX4_isThere 2 = .ok (.getfield 93, 3) := by decide +kernel
theorem dX4_isThere_5 : decode cX4_isThere 5 = .ok (.ifCond .le 7, 3) := by decide +kernel
theorem dX4_isThere_8 : decode cX4_isThere 8 = .ok (.iconst 0, 1) := by decide +kernel
theorem dX4_isThere_9 : decode cX4_isThere 9 = .ok (.goto 4, 3) := by decide +kernel
theorem dX4_isThere_12 : decode cX4_isThere 12 = .ok (.iconst 1, 1) := by decide +kernel
theorem dX4_isThere_13 : decode cX4_isThere 13 = .ok (.putfield 66, 3) := by decide +kernel
theorem dX4_isThere_16 : decode cX4_isThere 16 = .ok (.aload_n 0, 1) := by decide +kernel
theorem dX4_isThere_17 : decode cX4_isThere 17 = .ok (.getfield 66, 3) := by decide +kernel
theorem dX4_isThere_20 : decode cX4_isThere 20 = .ok (.ifCond .ne 7, 3) := by decide +kernel
theorem dX4_isThere_23 : decode cX4_isThere 23 = .ok (.iconst 1, 1) := by decide +kernel
theorem dX4_isThere_24 : decode cX4_isThere 24 = .ok (.goto 4, 3) := by decide +kernel
theorem dX4_isThere_27 : decode cX4_isThere 27 = .ok (.iconst 0, 1) := by decide +kernel
theorem dX4_isThere_28 : decode cX4_isThere 28 = .ok (.ireturn, 1) := by decide +kernel
theorem dX4_give_0 : decode cX4_give 0 = .ok (.aload_n 0, 1) := by decide +kernel
theorem dX4_give_1 : decode cX4_give 1 = .ok (.invokevirtual 159, 3) := by decide +kernel
theorem dX4_give_4 : decode cX4_give 4 = .ok (.ifCond .ne 5, 3) := by decide +kernel
theorem dX4_give_7 : decode cX4_give 7 = .ok (.iconst 0, 1) := by decide +kernel
theorem dX4_give_8 : decode cX4_give 8 = .ok (.ireturn, 1) := by decide +kernel
theorem dX4_give_9 : decode cX4_give 9 = .ok (.aload_n 0, 1) := by decide +kernel
theorem dX4_give_10 : decode cX4_give 10 = .ok (.getfield 103, 3) := by decide +kernel
theorem dX4_give_13 : decode cX4_give 13 = .ok (.sipush 256, 3) := by decide +kernel
theorem dX4_give_16 : decode cX4_give 16 = .ok (.if_icmp .ne 9, 3) := by decide +kernel
theorem dX4_give_19 : decode cX4_give 19 = .ok (.aload_n 0, 1) := by decide +kernel
theorem dX4_give_20 : decode cX4_give 20 = .ok (.iconst 1, 1) := by decide +kernel
theorem dX4_give_21 : decode cX4_give 21 = .ok (.invokevirtual 163, 3) := by decide +kernel
theorem dX4_give_24 : decode cX4_give 24 = .ok (.ireturn, 1) := by decide +kernel
theorem dX4_give_25 : decode cX4_give 25 = .ok (.iload_n 1, 1) := by decide +kernel
theorem dX4_give_26 : decode cX4_give 26 = .ok (.iconst 1, 1) := by decide +kernel
theorem dX4_give_27 : decode cX4_give 27 = .ok (.if_icmp .ge 9, 3) := by decide +kernel
theorem dX4_give_30 : decode cX4_give 30 = .ok (.aload_n 0, 1) := by decide +kernel
theorem dX4_give_31 : decode cX4_give 31 = .ok (.iconst 2, 1) := by decide +kernel
theorem dX4_give_32 : decode cX4_give 32 = .ok (.invokevirtual 163, 3) := by decide +kernel
theorem dX4_give_35 : decode cX4_give 35 = .ok (.ireturn, 1) := by decide +kernel
theorem dX4_give_36 : decode cX4_give 36 = .ok (.aload_n 0, 1) := by decide +kernel
theorem dX4_give_37 : decode cX4_give 37 = .ok (.iload_n 1, 1) := by decide +kernel
theorem dX4_give_38 : decode cX4_give 38 = .ok (.invokevirtual 166, 3) := by decide +kernel
theorem dX4_give_41 : decode cX4_give 41 = .ok (.ireturn, 1) := by decide +kernel
theorem dX4_free_0 : decode cX4_free 0 = .ok (.aload_n 0, 1) := by decide +kernel
theorem dX4_free_1 : decode cX4_free 1 = .ok (.invokevirtual 159, 3) := by decide +kernel
theorem dX4_free_4 : decode cX4_free 4 = .ok (.ifCond .ne 4, 3) := by decide +kernel
theorem dX4_free_7 : decode cX4_free 7 = .ok (.return_, 1) := by decide +kernel
theorem dX4_free_8 : decode cX4_free 8 = .ok (.aload_n 0, 1) := by decide +kernel
theorem dX4_free_9 : decode cX4_free 9 = .ok (.iload_n 1, 1) := by decide +kernel
theorem dX4_free_10 : decode cX4_free 10 = .ok (.invokevirtual 169, 3) := by decide +kernel
theorem dX4_free_13 : decode cX4_free 13 = .ok (.istore_n 2, 1) := by decide +kernel
theorem dX4_free_14 : decode cX4_free 14 = .ok (.aload_n 0, 1) := by decide +kernel
theorem dX4_free_15 : decode cX4_free 15 = .ok (.iload_n 2, 1) := by decide +kernel
theorem dX4_free_16 : decode cX4_free 16 = .ok (.ifCond .ge 7, 3) := by decide +kernel
theorem dX4_free_19 : decode cX4_free 19 = .ok (.iconst 2, 1) := by decide +kernel
theorem dX4_free_20 : decode cX4_free 20 = .ok (.goto 4, 3) := by decide +kernel
theorem dX4_free_23 : decode cX4_free 23 = .ok (.iconst 0, 1) := by decide +kernel
theorem dX4_free_24 : decode cX4_free 24 = .ok (.putfield 66, 3) := by decide +kernel
theorem dX4_free_27 : decode cX4_free 27 = .ok (.iload_n 2, 1) := by decide +kernel
theorem dX4_free_28 : decode cX4_free 28 = .ok (.ifCond .lt 8, 3) := by decide +kernel
theorem dX4_free_31 : decode cX4_free 31 = .ok (.aload_n 0, 1) := by decide +kernel
theorem dX4_free_32 : decode cX4_free 32 = .ok (.iload_n 2, 1) := by decide +kernel
theorem dX4_free_33 : decode cX4_free 33 = .ok (.invokevirtual 172, 3) := by decide +kernel
theorem dX4_free_36 : decode cX4_free 36 = .ok (.return_, 1) := by decide +kernel
theorem dX4_change_0 : decode cX4_change 0 = .ok (.aload_n 0, 1) := by decide +kernel
theorem dX4_change_1 : decode cX4_change 1 = .ok (.invokevirtual 159, 3) := by decide +kernel
theorem dX4_change_4 : decode cX4_change 4 = .ok (.ifCond .ne 5, 3) := by decide +kernel
theorem dX4_change_7 : decode cX4_change 7 = .ok (.iconst 0, 1) := by decide +kernel
theorem dX4_change_8 : decode cX4_change 8 = .ok (.ireturn, 1) := by decide +kernel
theorem dX4_change_9 : decode cX4_change 9 = .ok (.aload_n 0, 1) := by decide +kernel
theorem dX4_change_10 : decode cX4_change 10 = .ok (.iload_n 1, 1) := by decide +kernel
theorem dX4_change_11 : decode cX4_change 11 = .ok (.invokevirtual 169, 3) := by decide +kernel
theorem dX4_change_14 : decode cX4_change 14 = .ok (.istore_n 3, 1) := by decide +kernel
theorem dX4_change_15 : decode cX4_change 15 = .ok (.iload_n 3, 1) := by decide +kernel
theorem dX4_change_16 : decode cX4_change 16 = .ok (.ifCond .lt 8, 3) := by decide +kernel
theorem dX4_change_19 : decode cX4_change 19 = .ok (.iload_n 2, 1) := by decide +kernel
theorem dX4_change_20 : decode cX4_change 20 = .ok (.iconst 1, 1) := by decide +kernel
theorem dX4_change_21 : decode cX4_change 21 = .ok (.if_icmp .ge 9, 3) := by decide +kernel
theorem dX4_change_24 : decode cX4_change 24 = .ok (.aload_n 0, 1) := by decide +kernel
theorem dX4_change_25 : decode cX4_change 25 = .ok (.iconst 2, 1) := by decide +kernel
theorem dX4_change_26 : decode cX4_change 26 = .ok (.invokevirtual 163, 3) := by decide +kernel
theorem dX4_change_29 : decode cX4_change 29 = .ok (.ireturn, 1) := by decide +kernel
theorem dX4_change_30 : decode cX4_change 30 = .ok (.aload_n 0, 1) := by decide +kernel
theorem dX4_change_31 : decode cX4_change 31 = .ok (.getfield 19, 3) := by decide +kernel
theorem dX4_change_34 : decode cX4_change 34 = .ok (.aload_n 0, 1) := by decide +kernel
theorem dX4_change_35 : decode cX4_change 35 = .ok (.aload_n 0, 1) := by decide +kernel
theorem dX4_change_36 : decode cX4_change 36 = .ok (.iload_n 1, 1) := by decide +kernel
theorem dX4_change_37 : decode cX4_change 37 = .ok (.invokevirtual 151, 3) := by decide +kernel
theorem dX4_change_40 : decode cX4_change 40 = .ok (.invokevirtual 139, 3) := by decide +kernel
theorem dX4_change_43 : decode cX4_change 43 = .ok (.iaload, 1) := by decide +kernel
theorem dX4_change_44 : decode cX4_change 44 = .ok (.iload_n 2, 1) := by decide +kernel
theorem dX4_change_45 : decode cX4_change 45 = .ok (.if_icmp .lt 12, 3) := by decide +kernel
theorem dX4_change_48 : decode cX4_change 48 = .ok (.aload_n 0, 1) := by decide +kernel
theorem dX4_change_49 : decode cX4_change 49 = .ok (.getfield 45, 3) := by decide +kernel
theorem dX4_change_52 : decode cX4_change 52 = .ok (.iload_n 3, 1) := by decide +kernel
theorem dX4_change_53 : decode cX4_change 53 = .ok (.iload_n 2, 1) := by decide +kernel
theorem dX4_change_54 : decode cX4_change 54 = .ok (.iastore, 1) := by decide +kernel
theorem dX4_change_55 : decode cX4_change 55 = .ok (.iload_n 1, 1) := by decide +kernel
theorem dX4_change_56 : decode cX4_change 56 = .ok (.ireturn, 1) := by decide +kernel
theorem dX4_change_57 : decode cX4_change 57 = .ok (.aload_n 0, 1) := by decide +kernel
theorem dX4_change_58 : decode cX4_change 58 = .ok (.getfield 103, 3) := by decide +kernel
theorem dX4_change_61 : decode cX4_change 61 = .ok (.sipush 256, 3) := by decide +kernel
theorem dX4_change_64 : decode cX4_change 64 = .ok (.if_icmp .ne 9, 3) := by decide +kernel
theorem dX4_change_67 : decode cX4_change 67 = .ok (.aload_n 0, 1) := by decide +kernel
theorem dX4_change_68 : decode cX4_change 68 = .ok (.iconst 1, 1) := by decide +kernel
theorem dX4_change_69 : decode cX4_change 69 = .ok (.invokevirtual 163, 3) := by decide +kernel
theorem dX4_change_72 : decode cX4_change 72 = .ok (.ireturn, 1) := by decide +kernel
theorem dX4_change_73 : decode cX4_change 73 = .ok (.aload_n 0, 1) := by decide +kernel
theorem dX4_change_74 : decode cX4_change 74 = .ok (.iload_n 2, 1) := by decide +kernel
theorem dX4_change_75 : decode cX4_change 75 = .ok (.invokevirtual 166, 3) := by decide +kernel
theorem dX4_change_78 : decode cX4_change 78 = .ok (.istore 4, 2) := by decide +kernel
theorem dX4_change_80 : decode cX4_change 80 = .ok (.iload 4, 2) := by decide +kernel
theorem dX4_change_82 : decode cX4_change 82 = .ok (.ifCond .lt 8, 3) := by decide +kernel
theorem dX4_change_85 : decode cX4_change 85 = .ok (.aload_n 0, 1) := by decide +kernel
theorem dX4_change_86 : decode cX4_change 86 = .ok (.iload_n 3, 1) := by decide +kernel
theorem dX4_change_87 : decode cX4_change 87 = .ok (.invokevirtual 172, 3) := by decide +kernel
theorem dX4_change_90 : decode cX4_change 90 = .ok (.iload 4, 2) := by decide +kernel
theorem dX4_change_92 : decode cX4_change 92 = .ok (.ireturn, 1) := by decide +kernel
theorem dX4_block_0 : decode cX4_block 0 = .ok (.aload_n 0, 1) := by decide +kernel
theorem dX4_block_1 : decode cX4_block 1 = .ok (.invokevirtual 159, 3) := by decide +kernel
theorem dX4_block_4 : decode cX4_block 4 = .ok (.ifCond .ne 5, 3) := by decide +kernel
theorem dX4_block_7 : decode cX4_block 7 = .ok (.iconst 0, 1) := by decide +kernel
theorem dX4_block_8 : decode cX4_block 8 = .ok (.ireturn, 1) := by decide +kernel
theorem dX4_block_9 : decode cX4_block 9 = .ok (.aload_n 0, 1) := by decide +kernel
theorem dX4_block_10 : decode cX4_block 10 = .ok (.iload_n 1, 1) := by decide +kernel
theorem dX4_block_11 : decode cX4_block 11 = .ok (.invokevirtual 169, 3) := by decide +kernel
theorem dX4_block_14 : decode cX4_block 14 = .ok (.istore_n 3, 1) := by decide +kernel
theorem dX4_block_15 : decode cX4_block 15 = .ok (.iload_n 3, 1) := by decide +kernel
theorem dX4_block_16 : decode cX4_block 16 = .ok (.ifCond .lt 15, 3) := by decide +kernel
theorem dX4_block_19 : decode cX4_block 19 = .ok (.iload_n 2, 1) := by decide +kernel
theorem dX4_block_20 : decode cX4_block 20 = .ok (.i2l, 1) := by decide +kernel
theorem dX4_block_21 : decode cX4_block 21 = .ok (.lconst 0, 1) := by decide +kernel
theorem dX4_block_22 : decode cX4_block 22 = .ok (.ldc2_w 76, 3) := by decide +kernel
theorem dX4_block_25 : decode cX4_block 25 = .ok (.invokestatic 72, 3) := by decide +kernel
theorem dX4_block_28 : decode cX4_block 28 = .ok (.ifCond .ne 9, 3) := by decide +kernel
theorem dX4_block_31 : decode cX4_block 31 = .ok (.aload_n 0, 1) := by decide +kernel
theorem dX4_block_32 : decode cX4_block 32 = .ok (.iconst 2, 1) := by decide +kernel
theorem dX4_block_33 : decode cX4_block 33 = .ok (.invokevirtual 163, 3) := by decide +kernel
theorem dX4_block_36 : decode cX4_block 36 = .ok (.ireturn, 1) := by decide +kernel
theorem dX4_block_37 : decode cX4_block 37 = .ok (.aload_n 0, 1) := by decide +kernel
theorem dX4_block_38 : decode cX4_block 38 = .ok (.iload_n 1, 1) := by decide +kernel
theorem dX4_block_39 : decode cX4_block 39 = .ok (.invokevirtual 151, 3) := by decide +kernel
theorem dX4_block_42 : decode cX4_block 42 = .ok (.istore 4, 2) := by decide +kernel
theorem dX4_block_44 : decode cX4_block 44 = .ok (.iload_n 2, 1) := by decide +kernel
theorem dX4_block_45 : decode cX4_block 45 = .ok (.ifCond .ne 12, 3) := by decide +kernel
theorem dX4_block_48 : decode cX4_block 48 = .ok (.aload_n 0, 1) := by decide +kernel
theorem dX4_block_49 : decode cX4_block 49 = .ok (.iload 4, 2) := by decide +kernel
theorem dX4_block_51 : decode cX4_block 51 = .ok (.invokevirtual 139, 3) := by decide +kernel
theorem dX4_block_54 : decode cX4_block 54 = .ok (.goto 23, 3) := by decide +kernel
theorem dX4_block_57 : decode cX4_block 57 = .ok (.iload_n 2, 1) := by decide +kernel
theorem dX4_block_58 : decode cX4_block 58 = .ok (.iconst 1, 1) := by decide +kernel
theorem dX4_block_59 : decode cX4_block 59 = .ok (.if_icmp .ne 12, 3) := by decide +kernel
theorem dX4_block_62 : decode cX4_block 62 = .ok (.aload_n 0, 1) := by decide +kernel
theorem dX4_block_63 : decode cX4_block 63 = .ok (.getfield 45, 3) := by decide +kernel
theorem dX4_block_66 : decode cX4_block 66 = .ok (.iload_n 3, 1) := by decide +kernel
theorem dX4_block_67 : decode cX4_block 67 = .ok (.iaload, 1) := by decide +kernel
theorem dX4_block_68 : decode cX4_block 68 = .ok (.goto 9, 3) := by decide +kernel
theorem dX4_block_71 : decode cX4_block 71 = .ok (.aload_n 0, 1) := by decide +kernel
theorem dX4_block_72 : decode cX4_block 72 = .ok (.iload 4, 2) := by decide +kernel
theorem dX4_block_74 : decode cX4_block 74 = .ok (.invokevirtual 116, 3) := by decide +kernel
theorem dX4_block_77 : decode cX4_block 77 = .ok (.ireturn, 1) := by decide +kernel
theorem dX4_path_0 : decode cX4_path 0 = .ok (.aload_n 0, 1) := by decide +kernel
theorem dX4_path_1 : decode cX4_path 1 = .ok (.invokevirtual 159, 3) := by decide +kernel
theorem dX4_path_4 : decode cX4_path 4 = .ok (.ifCond .ne 5, 3) := by decide +kernel
theorem dX4_path_7 : decode cX4_path 7 = .ok (.iconst 0, 1) := by decide +kernel
theorem dX4_path_8 : decode cX4_path 8 = .ok (.ireturn, 1) := by decide +kernel
theorem dX4_path_9 : decode cX4_path 9 = .ok (.aload_n 0, 1) := by decide +kernel
theorem dX4_path_10 : decode cX4_path 10 = .ok (.iload_n 1, 1) := by decide +kernel
theorem dX4_path_11 : decode cX4_path 11 = .ok (.invokevirtual 169, 3) := by decide +kernel
theorem dX4_path_14 : decode cX4_path 14 = .ok (.ifCond .lt 7, 3) := by decide +kernel
theorem dX4_path_17 : decode cX4_path 17 = .ok (.iload_n 2, 1) := by decide +kernel
theorem dX4_path_18 : decode cX4_path 18 = .ok (.ifCond .ge 9, 3) := by decide +kernel
theorem dX4_path_21 : decode cX4_path 21 = .ok (.aload_n 0, 1) := by decide +kernel
theorem dX4_path_22 : decode cX4_path 22 = .ok (.iconst 2, 1) := by decide +kernel
theorem dX4_path_23 : decode cX4_path 23 = .ok (.invokevirtual 163, 3) := by decide +kernel
theorem dX4_path_26 : decode cX4_path 26 = .ok (.ireturn, 1) := by decide +kernel
theorem dX4_path_27 : decode cX4_path 27 = .ok (.aload_n 0, 1) := by decide +kernel
theorem dX4_path_28 : decode cX4_path 28 = .ok (.iload_n 1, 1) := by decide +kernel
theorem dX4_path_29 : decode cX4_path 29 = .ok (.invokevirtual 151, 3) := by decide +kernel
theorem dX4_path_32 : decode cX4_path 32 = .ok (.istore_n 3, 1) := by decide +kernel
theorem dX4_path_33 : decode cX4_path 33 = .ok (.iload_n 2, 1) := by decide +kernel
theorem dX4_path_34 : decode cX4_path 34 = .ok (.aload_n 0, 1) := by decide +kernel
theorem dX4_path_35 : decode cX4_path 35 = .ok (.iload_n 3, 1) := by decide +kernel
theorem dX4_path_36 : decode cX4_path 36 = .ok (.invokevirtual 116, 3) := by decide +kernel
theorem dX4_path_39 : decode cX4_path 39 = .ok (.if_icmp .lt 7, 3) := by decide +kernel
theorem dX4_path_42 : decode cX4_path 42 = .ok (.iconst (-1), 1) := by decide +kernel
theorem dX4_path_43 : decode cX4_path 43 = .ok (.goto 20, 3) := by decide +kernel
theorem dX4_path_46 : decode cX4_path 46 = .ok (.aload_n 0, 1) := by decide +kernel
theorem dX4_path_47 : decode cX4_path 47 = .ok (.iload_n 3, 1) := by decide +kernel
theorem dX4_path_48 : decode cX4_path 48 = .ok (.invokevirtual 120, 3) := by decide +kernel
theorem dX4_path_51 : decode cX4_path 51 = .ok (.aload_n 0, 1) := by decide +kernel
theorem dX4_path_52 : decode cX4_path 52 = .ok (.iload_n 3, 1) := by decide +kernel
theorem dX4_path_53 : decode cX4_path 53 = .ok (.invokevirtual 116, 3) := by decide +kernel
theorem dX4_path_56 : decode cX4_path 56 = .ok (.iconst 1, 1) := by decide +kernel
theorem dX4_path_57 : decode cX4_path 57 = .ok (.isub, 1) := by decide +kernel
theorem dX4_path_58 : decode cX4_path 58 = .ok (.iload_n 2, 1) := by decide +kernel
theorem dX4_path_59 : decode cX4_path 59 = .ok (.isub, 1) := by decide +kernel
theorem dX4_path_60 : decode cX4_path 60 = .ok (.ishr, 1) := by decide +kernel
theorem dX4_path_61 : decode cX4_path 61 = .ok (.iconst 1, 1) := by decide +kernel
theorem dX4_path_62 : decode cX4_path 62 = .ok (.iand, 1) := by decide +kernel
theorem dX4_path_63 : decode cX4_path 63 = .ok (.ireturn, 1) := by decide +kernel
theorem dX4_keep_0 : decode cX4_keep 0 = .ok (.aload_n 0, 1) := by decide +kernel
theorem dX4_keep_1 : decode cX4_keep 1 = .ok (.invokevirtual 159, 3) := by decide +kernel
theorem dX4_keep_4 : decode cX4_keep 4 = .ok (.ifCond .ne 4, 3) := by decide +kernel
theorem dX4_keep_7 : decode cX4_keep 7 = .ok (.return_, 1) := by decide +kernel
theorem dX4_keep_8 : decode cX4_keep 8 = .ok (.aload_n 0, 1) := by decide +kernel
theorem dX4_keep_9 : decode cX4_keep 9 = .ok (.iload_n 1, 1) := by decide +kernel
theorem dX4_keep_10 : decode cX4_keep 10 = .ok (.i2l, 1) := by decide +kernel
theorem dX4_keep_11 : decode cX4_keep 11 = .ok (.lconst 1, 1) := by decide +kernel
theorem dX4_keep_12 : decode cX4_keep 12 = .ok (.ldc2_w 70, 3) := by decide +kernel
theorem dX4_keep_15 : decode cX4_keep 15 = .ok (.invokestatic 72, 3) := by decide +kernel
theorem dX4_keep_18 : decode cX4_keep 18 = .ok (.ifCond .eq 28, 3) := by decide +kernel
theorem dX4_keep_21 : decode cX4_keep 21 = .ok (.aload_n 0, 1) := by decide +kernel
theorem dX4_keep_22 : decode cX4_keep 22 = .ok (.getfield 28, 3) := by decide +kernel
theorem dX4_keep_25 : decode cX4_keep 25 = .ok (.iload_n 1, 1) := by decide +kernel
theorem dX4_keep_26 : decode cX4_keep 26 = .ok (.baload, 1) := by decide +kernel
theorem dX4_keep_27 : decode cX4_keep 27 = .ok (.ifCond .eq 19, 3) := by decide +kernel
theorem dX4_keep_30 : decode cX4_keep 30 = .ok (.iload_n 2, 1) := by decide +kernel
theorem dX4_keep_31 : decode cX4_keep 31 = .ok (.i2l, 1) := by decide +kernel
theorem dX4_keep_32 : decode cX4_keep 32 = .ok (.lconst 0, 1) := by decide +kernel
theorem dX4_keep_33 : decode cX4_keep 33 = .ok (.ldc2_w 175, 3) := by decide +kernel
theorem dX4_keep_36 : decode cX4_keep 36 = .ok (.invokestatic 72, 3) := by decide +kernel
theorem dX4_keep_39 : decode cX4_keep 39 = .ok (.ifCond .eq 7, 3) := by decide +kernel
theorem dX4_keep_42 : decode cX4_keep 42 = .ok (.iconst 0, 1) := by decide +kernel
theorem dX4_keep_43 : decode cX4_keep 43 = .ok (.goto 4, 3) := by decide +kernel
theorem dX4_keep_46 : decode cX4_keep 46 = .ok (.iconst 2, 1) := by decide +kernel
theorem dX4_keep_47 : decode cX4_keep 47 = .ok (.putfield 66, 3) := by decide +kernel
theorem dX4_keep_50 : decode cX4_keep 50 = .ok (.aload_n 0, 1) := by decide +kernel
theorem dX4_keep_51 : decode cX4_keep 51 = .ok (.getfield 66, 3) := by decide +kernel
theorem dX4_keep_54 : decode cX4_keep 54 = .ok (.ifCond .ne 10, 3) := by decide +kernel
theorem dX4_keep_57 : decode cX4_keep 57 = .ok (.aload_n 0, 1) := by decide +kernel
theorem dX4_keep_58 : decode cX4_keep 58 = .ok (.getfield 35, 3) := by decide +kernel
theorem dX4_keep_61 : decode cX4_keep 61 = .ok (.iload_n 1, 1) := by decide +kernel
theorem dX4_keep_62 : decode cX4_keep 62 = .ok (.iload_n 2, 1) := by decide +kernel
theorem dX4_keep_63 : decode cX4_keep 63 = .ok (.iastore, 1) := by decide +kernel
theorem dX4_keep_64 : decode cX4_keep 64 = .ok (.return_, 1) := by decide +kernel
theorem dX4_join_0 : decode cX4_join 0 = .ok (.aload_n 0, 1) := by decide +kernel
theorem dX4_join_1 : decode cX4_join 1 = .ok (.invokevirtual 159, 3) := by decide +kernel
theorem dX4_join_4 : decode cX4_join 4 = .ok (.ifCond .eq 10, 3) := by decide +kernel
theorem dX4_join_7 : decode cX4_join 7 = .ok (.aload_n 0, 1) := by decide +kernel
theorem dX4_join_8 : decode cX4_join 8 = .ok (.invokevirtual 145, 3) := by decide +kernel
theorem dX4_join_11 : decode cX4_join 11 = .ok (.goto 4, 3) := by decide +kernel
theorem dX4_join_14 : decode cX4_join 14 = .ok (.iconst 0, 1) := by decide +kernel
theorem dX4_join_15 : decode cX4_join 15 = .ok (.ireturn, 1) := by decide +kernel
theorem dX4_nodes_0 : decode cX4_nodes 0 = .ok (.aload_n 0, 1) := by decide +kernel
theorem dX4_nodes_1 : decode cX4_nodes 1 = .ok (.invokevirtual 159, 3) := by decide +kernel
theorem dX4_nodes_4 : decode cX4_nodes 4 = .ok (.ifCond .ne 5, 3) := by decide +kernel
theorem dX4_nodes_7 : decode cX4_nodes 7 = .ok (.iconst 0, 1) := by decide +kernel
theorem dX4_nodes_8 : decode cX4_nodes 8 = .ok (.ireturn, 1) := by decide +kernel
theorem dX4_nodes_9 : decode cX4_nodes 9 = .ok (.iload_n 1, 1) := by decide +kernel
theorem dX4_nodes_10 : decode cX4_nodes 10 = .ok (.i2l, 1) := by decide +kernel
theorem dX4_nodes_11 : decode cX4_nodes 11 = .ok (.lconst 1, 1) := by decide +kernel
theorem dX4_nodes_12 : decode cX4_nodes 12 = .ok (.ldc2_w 70, 3) := by decide +kernel
theorem dX4_nodes_15 : decode cX4_nodes 15 = .ok (.invokestatic 72, 3) := by decide +kernel
theorem dX4_nodes_18 : decode cX4_nodes 18 = .ok (.ifCond .eq 24, 3) := by decide +kernel
theorem dX4_nodes_21 : decode cX4_nodes 21 = .ok (.aload_n 0, 1) := by decide +kernel
theorem dX4_nodes_22 : decode cX4_nodes 22 = .ok (.getfield 28, 3) := by decide +kernel
theorem dX4_nodes_25 : decode cX4_nodes 25 = .ok (.iload_n 1, 1) := by decide +kernel
theorem dX4_nodes_26 : decode cX4_nodes 26 = .ok (.baload, 1) := by decide +kernel
theorem dX4_nodes_27 : decode cX4_nodes 27 = .ok (.ifCond .eq 15, 3) := by decide +kernel
theorem dX4_nodes_30 : decode cX4_nodes 30 = .ok (.iload_n 2, 1) := by decide +kernel
theorem dX4_nodes_31 : decode cX4_nodes 31 = .ok (.i2l, 1) := by decide +kernel
theorem dX4_nodes_32 : decode cX4_nodes 32 = .ok (.lconst 0, 1) := by decide +kernel
theorem dX4_nodes_33 : decode cX4_nodes 33 = .ok (.ldc2_w 76, 3) := by decide +kernel
theorem dX4_nodes_36 : decode cX4_nodes 36 = .ok (.invokestatic 72, 3) := by decide +kernel
theorem dX4_nodes_39 : decode cX4_nodes 39 = .ok (.ifCond .ne 9, 3) := by decide +kernel
theorem dX4_nodes_42 : decode cX4_nodes 42 = .ok (.aload_n 0, 1) := by decide +kernel
theorem dX4_nodes_43 : decode cX4_nodes 43 = .ok (.iconst 2, 1) := by decide +kernel
theorem dX4_nodes_44 : decode cX4_nodes 44 = .ok (.invokevirtual 163, 3) := by decide +kernel
theorem dX4_nodes_47 : decode cX4_nodes 47 = .ok (.ireturn, 1) := by decide +kernel
theorem dX4_nodes_48 : decode cX4_nodes 48 = .ok (.iconst (-1), 1) := by decide +kernel
theorem dX4_nodes_49 : decode cX4_nodes 49 = .ok (.istore_n 3, 1) := by decide +kernel
theorem dX4_nodes_50 : decode cX4_nodes 50 = .ok (.iconst (-1), 1) := by decide +kernel
theorem dX4_nodes_51 : decode cX4_nodes 51 = .ok (.istore 4, 2) := by decide +kernel
theorem dX4_nodes_53 : decode cX4_nodes 53 = .ok (.iconst 0, 1) := by decide +kernel
theorem dX4_nodes_54 : decode cX4_nodes 54 = .ok (.istore 5, 2) := by decide +kernel
theorem dX4_nodes_56 : decode cX4_nodes 56 = .ok (.iload 5, 2) := by decide +kernel
theorem dX4_nodes_58 : decode cX4_nodes 58 = .ok (.aload_n 0, 1) := by decide +kernel
theorem dX4_nodes_59 : decode cX4_nodes 59 = .ok (.getfield 96, 3) := by decide +kernel
theorem dX4_nodes_62 : decode cX4_nodes 62 = .ok (.if_icmp .ge 46, 3) := by decide +kernel
theorem dX4_nodes_65 : decode cX4_nodes 65 = .ok (.aload_n 0, 1) := by decide +kernel
theorem dX4_nodes_66 : decode cX4_nodes 66 = .ok (.iload 5, 2) := by decide +kernel
theorem dX4_nodes_68 : decode cX4_nodes 68 = .ok (.invokevirtual 132, 3) := by decide +kernel
theorem dX4_nodes_71 : decode cX4_nodes 71 = .ok (.ifCond .ne 31, 3) := by decide +kernel
theorem dX4_nodes_74 : decode cX4_nodes 74 = .ok (.aload_n 0, 1) := by decide +kernel
theorem dX4_nodes_75 : decode cX4_nodes 75 = .ok (.iload 5, 2) := by decide +kernel
theorem dX4_nodes_77 : decode cX4_nodes 77 = .ok (.invokevirtual 139, 3) := by decide +kernel
theorem dX4_nodes_80 : decode cX4_nodes 80 = .ok (.iload_n 1, 1) := by decide +kernel
theorem dX4_nodes_81 : decode cX4_nodes 81 = .ok (.if_icmp .eq 6, 3) := by decide +kernel
theorem dX4_nodes_84 : decode cX4_nodes 84 = .ok (.goto 18, 3) := by decide +kernel
theorem dX4_nodes_87 : decode cX4_nodes 87 = .ok (.aload_n 0, 1) := by decide +kernel
theorem dX4_nodes_88 : decode cX4_nodes 88 = .ok (.iload 5, 2) := by decide +kernel
theorem dX4_nodes_90 : decode cX4_nodes 90 = .ok (.invokevirtual 123, 3) := by decide +kernel
theorem dX4_nodes_93 : decode cX4_nodes 93 = .ok (.istore 4, 2) := by decide +kernel
theorem dX4_nodes_95 : decode cX4_nodes 95 = .ok (.iload_n 3, 1) := by decide +kernel
theorem dX4_nodes_96 : decode cX4_nodes 96 = .ok (.ifCond .ge 6, 3) := by decide +kernel
theorem dX4_nodes_99 : decode cX4_nodes 99 = .ok (.iload 4, 2) := by decide +kernel
theorem dX4_nodes_101 : decode cX4_nodes 101 = .ok (.istore_n 3, 1) := by decide +kernel
theorem dX4_nodes_102 : decode cX4_nodes 102 = .ok (.iinc 5 1, 3) := by decide +kernel
theorem dX4_nodes_105 : decode cX4_nodes 105 = .ok (.goto (-49), 3) := by decide +kernel
theorem dX4_nodes_108 : decode cX4_nodes 108 = .ok (.iload_n 2, 1) := by decide +kernel
theorem dX4_nodes_109 : decode cX4_nodes 109 = .ok (.ifCond .ne 11, 3) := by decide +kernel
theorem dX4_nodes_112 : decode cX4_nodes 112 = .ok (.aload_n 0, 1) := by decide +kernel
theorem dX4_nodes_113 : decode cX4_nodes 113 = .ok (.iload_n 1, 1) := by decide +kernel
theorem dX4_nodes_114 : decode cX4_nodes 114 = .ok (.invokevirtual 156, 3) := by decide +kernel
theorem dX4_nodes_117 : decode cX4_nodes 117 = .ok (.goto 14, 3) := by decide +kernel
theorem dX4_nodes_120 : decode cX4_nodes 120 = .ok (.iload_n 2, 1) := by decide +kernel
theorem dX4_nodes_121 : decode cX4_nodes 121 = .ok (.iconst 1, 1) := by decide +kernel
theorem dX4_nodes_122 : decode cX4_nodes 122 = .ok (.if_icmp .ne 7, 3) := by decide +kernel
theorem dX4_nodes_125 : decode cX4_nodes 125 = .ok (.iload_n 3, 1) := by decide +kernel
theorem dX4_nodes_126 : decode cX4_nodes 126 = .ok (.goto 5, 3) := by decide +kernel
theorem dX4_nodes_129 : decode cX4_nodes 129 = .ok (.iload 4, 2) := by decide +kernel
theorem dX4_nodes_131 : decode cX4_nodes 131 = .ok (.ireturn, 1) := by decide +kernel
theorem dX4_leaf_0 : decode cX4_leaf 0 = .ok (.aload_n 0, 1) := by decide +kernel
theorem dX4_leaf_1 : decode cX4_leaf 1 = .ok (.invokevirtual 159, 3) := by decide +kernel
theorem dX4_leaf_4 : decode cX4_leaf 4 = .ok (.ifCond .ne 5, 3) := by decide +kernel
theorem dX4_leaf_7 : decode cX4_leaf 7 = .ok (.iconst 0, 1) := by decide +kernel
theorem dX4_leaf_8 : decode cX4_leaf 8 = .ok (.ireturn, 1) := by decide +kernel
theorem dX4_leaf_9 : decode cX4_leaf 9 = .ok (.iload_n 1, 1) := by decide +kernel
theorem dX4_leaf_10 : decode cX4_leaf 10 = .ok (.i2l, 1) := by decide +kernel
theorem dX4_leaf_11 : decode cX4_leaf 11 = .ok (.lconst 0, 1) := by decide +kernel
theorem dX4_leaf_12 : decode cX4_leaf 12 = .ok (.aload_n 0, 1) := by decide +kernel
theorem dX4_leaf_13 : decode cX4_leaf 13 = .ok (.getfield 96, 3) := by decide +kernel
theorem dX4_leaf_16 : decode cX4_leaf 16 = .ok (.iconst 1, 1) := by decide +kernel
theorem dX4_leaf_17 : decode cX4_leaf 17 = .ok (.isub, 1) := by decide +kernel
theorem dX4_leaf_18 : decode cX4_leaf 18 = .ok (.i2l, 1) := by decide +kernel
theorem dX4_leaf_19 : decode cX4_leaf 19 = .ok (.invokestatic 72, 3) := by decide +kernel
theorem dX4_leaf_22 : decode cX4_leaf 22 = .ok (.ifCond .eq 15, 3) := by decide +kernel
theorem dX4_leaf_25 : decode cX4_leaf 25 = .ok (.iload_n 2, 1) := by decide +kernel
theorem dX4_leaf_26 : decode cX4_leaf 26 = .ok (.i2l, 1) := by decide +kernel
theorem dX4_leaf_27 : decode cX4_leaf 27 = .ok (.lconst 0, 1) := by decide +kernel
theorem dX4_leaf_28 : decode cX4_leaf 28 = .ok (.ldc2_w 76, 3) := by decide +kernel
theorem dX4_leaf_31 : decode cX4_leaf 31 = .ok (.invokestatic 72, 3) := by decide +kernel
theorem dX4_leaf_34 : decode cX4_leaf 34 = .ok (.ifCond .ne 5, 3) := by decide +kernel
theorem dX4_leaf_37 : decode cX4_leaf 37 = .ok (.iconst (-1), 1) := by decide +kernel
theorem dX4_leaf_38 : decode cX4_leaf 38 = .ok (.ireturn, 1) := by decide +kernel
theorem dX4_leaf_39 : decode cX4_leaf 39 = .ok (.iload_n 2, 1) := by decide +kernel
theorem dX4_leaf_40 : decode cX4_leaf 40 = .ok (.ifCond .ne 9, 3) := by decide +kernel
theorem dX4_leaf_43 : decode cX4_leaf 43 = .ok (.aload_n 0, 1) := by decide +kernel
theorem dX4_leaf_44 : decode cX4_leaf 44 = .ok (.iload_n 1, 1) := by decide +kernel
theorem dX4_leaf_45 : decode cX4_leaf 45 = .ok (.invokevirtual 123, 3) := by decide +kernel
theorem dX4_leaf_48 : decode cX4_leaf 48 = .ok (.ireturn, 1) := by decide +kernel
theorem dX4_leaf_49 : decode cX4_leaf 49 = .ok (.iload_n 2, 1) := by decide +kernel
theorem dX4_leaf_50 : decode cX4_leaf 50 = .ok (.iconst 1, 1) := by decide +kernel
theorem dX4_leaf_51 : decode cX4_leaf 51 = .ok (.if_icmp .ne 9, 3) := by decide +kernel
theorem dX4_leaf_54 : decode cX4_leaf 54 = .ok (.aload_n 0, 1) := by decide +kernel
theorem dX4_leaf_55 : decode cX4_leaf 55 = .ok (.iload_n 1, 1) := by decide +kernel
theorem dX4_leaf_56 : decode cX4_leaf 56 = .ok (.invokevirtual 139, 3) := by decide +kernel
theorem dX4_leaf_59 : decode cX4_leaf 59 = .ok (.ireturn, 1) := by decide +kernel
theorem dX4_leaf_60 : decode cX4_leaf 60 = .ok (.aload_n 0, 1) := by decide +kernel
theorem dX4_leaf_61 : decode cX4_leaf 61 = .ok (.iload_n 1, 1) := by decide +kernel
theorem dX4_leaf_62 : decode cX4_leaf 62 = .ok (.invokevirtual 132, 3) := by decide +kernel
theorem dX4_leaf_65 : decode cX4_leaf 65 = .ok (.ifCond .eq 20, 3) := by decide +kernel
theorem dX4_leaf_68 : decode cX4_leaf 68 = .ok (.aload_n 0, 1) := by decide +kernel
theorem dX4_leaf_69 : decode cX4_leaf 69 = .ok (.getfield 45, 3) := by decide +kernel
theorem dX4_leaf_72 : decode cX4_leaf 72 = .ok (.aload_n 0, 1) := by decide +kernel
theorem dX4_leaf_73 : decode cX4_leaf 73 = .ok (.aload_n 0, 1) := by decide +kernel
theorem dX4_leaf_74 : decode cX4_leaf 74 = .ok (.iload_n 1, 1) := by decide +kernel
theorem dX4_leaf_75 : decode cX4_leaf 75 = .ok (.invokevirtual 123, 3) := by decide +kernel
theorem dX4_leaf_78 : decode cX4_leaf 78 = .ok (.invokevirtual 169, 3) := by decide +kernel
theorem dX4_leaf_81 : decode cX4_leaf 81 = .ok (.iaload, 1) := by decide +kernel
theorem dX4_leaf_82 : decode cX4_leaf 82 = .ok (.goto 4, 3) := by decide +kernel
theorem dX4_leaf_85 : decode cX4_leaf 85 = .ok (.iconst 0, 1) := by decide +kernel
theorem dX4_leaf_86 : decode cX4_leaf 86 = .ok (.ireturn, 1) := by decide +kernel
theorem dX4_reckonTimes_0 : decode cX4_reckonTimes 0 = .ok (.iconst 1, 1) := by decide +kernel
theorem dX4_reckonTimes_1 : decode cX4_reckonTimes 1 = .ok (.istore_n 1, 1) := by decide +kernel
theorem dX4_reckonTimes_2 : decode cX4_reckonTimes 2 = .ok (.iload_n 1, 1) := by decide +kernel
theorem dX4_reckonTimes_3 : decode cX4_reckonTimes 3 = .ok (.bipush 25, 2) := by decide +kernel
theorem dX4_reckonTimes_5 : decode cX4_reckonTimes 5 = .ok (.if_icmp .ge 16, 3) := by decide +kernel
theorem dX4_reckonTimes_8 : decode cX4_reckonTimes 8 = .ok (.aload_n 0, 1) := by decide +kernel
theorem dX4_reckonTimes_9 : decode cX4_reckonTimes 9 = .ok (.getfield 63, 3) := by decide +kernel
theorem dX4_reckonTimes_12 : decode cX4_reckonTimes 12 = .ok (.iload_n 1, 1) := by decide +kernel
theorem dX4_reckonTimes_13 : decode cX4_reckonTimes 13 = .ok (.iconst (-1), 1) := by decide +kernel
theorem dX4_reckonTimes_14 : decode cX4_reckonTimes 14 = .ok (.iastore, 1) := by decide +kernel
theorem dX4_reckonTimes_15 : decode cX4_reckonTimes 15 = .ok (.iinc 1 1, 3) := by decide +kernel
theorem dX4_reckonTimes_18 : decode cX4_reckonTimes 18 = .ok (.goto (-16), 3) := by decide +kernel
theorem dX4_reckonTimes_21 : decode cX4_reckonTimes 21 = .ok (.iconst 1, 1) := by decide +kernel
theorem dX4_reckonTimes_22 : decode cX4_reckonTimes 22 = .ok (.istore_n 1, 1) := by decide +kernel
theorem dX4_reckonTimes_23 : decode cX4_reckonTimes 23 = .ok (.iload_n 1, 1) := by decide +kernel
theorem dX4_reckonTimes_24 : decode cX4_reckonTimes 24 = .ok (.ifCond .eq 140, 3) := by decide +kernel
theorem dX4_reckonTimes_27 : decode cX4_reckonTimes 27 = .ok (.iconst 0, 1) := by decide +kernel
theorem dX4_reckonTimes_28 : decode cX4_reckonTimes 28 = .ok (.istore_n 1, 1) := by decide +kernel
theorem dX4_reckonTimes_29 : decode cX4_reckonTimes 29 = .ok (.iconst 1, 1) := by decide +kernel
theorem dX4_reckonTimes_30 : decode cX4_reckonTimes 30 = .ok (.istore_n 2, 1) := by decide +kernel
theorem dX4_reckonTimes_31 : decode cX4_reckonTimes 31 = .ok (.iload_n 2, 1) := by decide +kernel
theorem dX4_reckonTimes_32 : decode cX4_reckonTimes 32 = .ok (.bipush 25, 2) := by decide +kernel
theorem dX4_reckonTimes_34 : decode cX4_reckonTimes 34 = .ok (.if_icmp .ge 127, 3) := by decide +kernel
theorem dX4_reckonTimes_37 : decode cX4_reckonTimes 37 = .ok (.aload_n 0, 1) := by decide +kernel
theorem dX4_reckonTimes_38 : decode cX4_reckonTimes 38 = .ok (.getfield 28, 3) := by decide +kernel
theorem dX4_reckonTimes_41 : decode cX4_reckonTimes 41 = .ok (.iload_n 2, 1) := by decide +kernel
theorem dX4_reckonTimes_42 : decode cX4_reckonTimes 42 = .ok (.baload, 1) := by decide +kernel
theorem dX4_reckonTimes_43 : decode cX4_reckonTimes 43 = .ok (.ifCond .eq 112, 3) := by decide +kernel
theorem dX4_reckonTimes_46 : decode cX4_reckonTimes 46 = .ok (.aload_n 0, 1) := by decide +kernel
theorem dX4_reckonTimes_47 : decode cX4_reckonTimes 47 = .ok (.getfield 63, 3) := by decide +kernel
theorem dX4_reckonTimes_50 : decode cX4_reckonTimes 50 = .ok (.iload_n 2, 1) := by decide +kernel
theorem dX4_reckonTimes_51 : decode cX4_reckonTimes 51 = .ok (.iaload, 1) := by decide +kernel
theorem dX4_reckonTimes_52 : decode cX4_reckonTimes 52 = .ok (.ifCond .lt 6, 3) := by decide +kernel
theorem dX4_reckonTimes_55 : decode cX4_reckonTimes 55 = .ok (.goto 100, 3) := by decide +kernel
theorem dX4_reckonTimes_58 : decode cX4_reckonTimes 58 = .ok (.aload_n 0, 1) := by decide +kernel
theorem dX4_reckonTimes_59 : decode cX4_reckonTimes 59 = .ok (.getfield 22, 3) := by decide +kernel
theorem dX4_reckonTimes_62 : decode cX4_reckonTimes 62 = .ok (.iload_n 2, 1) := by decide +kernel
theorem dX4_reckonTimes_63 : decode cX4_reckonTimes 63 = .ok (.iaload, 1) := by decide +kernel
theorem dX4_reckonTimes_64 : decode cX4_reckonTimes 64 = .ok (.istore_n 3, 1) := by decide +kernel
theorem dX4_reckonTimes_65 : decode cX4_reckonTimes 65 = .ok (.aload_n 0, 1) := by decide +kernel
theorem dX4_reckonTimes_66 : decode cX4_reckonTimes 66 = .ok (.getfield 25, 3) := by decide +kernel
theorem dX4_reckonTimes_69 : decode cX4_reckonTimes 69 = .ok (.iload_n 2, 1) := by decide +kernel
theorem dX4_reckonTimes_70 : decode cX4_reckonTimes 70 = .ok (.iaload, 1) := by decide +kernel
theorem dX4_reckonTimes_71 : decode cX4_reckonTimes 71 = .ok (.istore 4, 2) := by decide +kernel
theorem dX4_reckonTimes_73 : decode cX4_reckonTimes 73 = .ok (.iload_n 3, 1) := by decide +kernel
theorem dX4_reckonTimes_74 : decode cX4_reckonTimes 74 = .ok (.ifCond .le 25, 3) := by decide +kernel
theorem dX4_reckonTimes_77 : decode cX4_reckonTimes 77 = .ok (.aload_n 0, 1) := by decide +kernel
theorem dX4_reckonTimes_78 : decode cX4_reckonTimes 78 = .ok (.getfield 63, 3) := by decide +kernel
theorem dX4_reckonTimes_81 : decode cX4_reckonTimes 81 = .ok (.iload_n 3, 1) := by decide +kernel
theorem dX4_reckonTimes_82 : decode cX4_reckonTimes 82 = .ok (.iaload, 1) := by decide +kernel
theorem dX4_reckonTimes_83 : decode cX4_reckonTimes 83 = .ok (.ifCond .lt 72, 3) := by decide +kernel
theorem dX4_reckonTimes_86 : decode cX4_reckonTimes 86 = .ok (.aload_n 0, 1) := by decide +kernel
theorem dX4_reckonTimes_87 : decode cX4_reckonTimes 87 = .ok (.getfield 63, 3) := by decide +kernel
theorem dX4_reckonTimes_90 : decode cX4_reckonTimes 90 = .ok (.iload 4, 2) := by decide +kernel
theorem dX4_reckonTimes_92 : decode cX4_reckonTimes 92 = .ok (.iaload, 1) := by decide +kernel
theorem dX4_reckonTimes_93 : decode cX4_reckonTimes 93 = .ok (.ifCond .ge 6, 3) := by decide +kernel
theorem dX4_reckonTimes_96 : decode cX4_reckonTimes 96 = .ok (.goto 59, 3) := by decide +kernel
theorem dX4_reckonTimes_99 : decode cX4_reckonTimes 99 = .ok (.iload_n 3, 1) := by decide +kernel
theorem dX4_reckonTimes_100 : decode cX4_reckonTimes 100 = .ok (.ifCond .le 20, 3) := by decide +kernel
theorem dX4_reckonTimes_103 : decode cX4_reckonTimes 103 = .ok (.aload_n 0, 1) := by decide +kernel
theorem dX4_reckonTimes_104 : decode cX4_reckonTimes 104 = .ok (.getfield 63, 3) := by decide +kernel
theorem dX4_reckonTimes_107 : decode cX4_reckonTimes 107 = .ok (.iload_n 3, 1) := by decide +kernel
theorem dX4_reckonTimes_108 : decode cX4_reckonTimes 108 = .ok (.iaload, 1) := by decide +kernel
theorem dX4_reckonTimes_109 : decode cX4_reckonTimes 109 = .ok (.aload_n 0, 1) := by decide +kernel
theorem dX4_reckonTimes_110 : decode cX4_reckonTimes 110 = .ok (.getfield 63, 3) := by decide +kernel
theorem dX4_reckonTimes_113 : decode cX4_reckonTimes 113 = .ok (.iload 4, 2) := by decide +kernel
theorem dX4_reckonTimes_115 : decode cX4_reckonTimes 115 = .ok (.iaload, 1) := by decide +kernel
theorem dX4_reckonTimes_116 : decode cX4_reckonTimes 116 = .ok (.iadd, 1) := by decide +kernel
theorem dX4_reckonTimes_117 : decode cX4_reckonTimes 117 = .ok (.goto 4, 3) := by decide +kernel
theorem dX4_reckonTimes_120 : decode cX4_reckonTimes 120 = .ok (.iconst 0, 1) := by decide +kernel
theorem dX4_reckonTimes_121 : decode cX4_reckonTimes 121 = .ok (.istore 5, 2) := by decide +kernel
theorem dX4_reckonTimes_123 : decode cX4_reckonTimes 123 = .ok (.aload_n 0, 1) := by decide +kernel
theorem dX4_reckonTimes_124 : decode cX4_reckonTimes 124 = .ok (.getfield 63, 3) := by decide +kernel
theorem dX4_reckonTimes_127 : decode cX4_reckonTimes 127 = .ok (.iload_n 2, 1) := by decide +kernel
theorem dX4_reckonTimes_128 : decode cX4_reckonTimes 128 = .ok (.iload 5, 2) := by decide +kernel
theorem dX4_reckonTimes_130 : decode cX4_reckonTimes 130 = .ok (.ifCond .ne 20, 3) := by decide +kernel
theorem dX4_reckonTimes_133 : decode cX4_reckonTimes 133 = .ok (.aload_n 0, 1) := by decide +kernel
theorem dX4_reckonTimes_134 : decode cX4_reckonTimes 134 = .ok (.getfield 19, 3) := by decide +kernel
theorem dX4_reckonTimes_137 : decode cX4_reckonTimes 137 = .ok (.iload_n 2, 1) := by decide +kernel
theorem dX4_reckonTimes_138 : decode cX4_reckonTimes 138 = .ok (.iaload, 1) := by decide +kernel
theorem dX4_reckonTimes_139 : decode cX4_reckonTimes 139 = .ok (.aload_n 0, 1) := by decide +kernel
theorem dX4_reckonTimes_140 : decode cX4_reckonTimes 140 = .ok (.getfield 177, 3) := by decide +kernel
theorem dX4_reckonTimes_143 : decode cX4_reckonTimes 143 = .ok (.if_icmp .lt 7, 3) := by decide +kernel
theorem dX4_reckonTimes_146 : decode cX4_reckonTimes 146 = .ok (.iconst 1, 1) := by decide +kernel
theorem dX4_reckonTimes_147 : decode cX4_reckonTimes 147 = .ok (.goto 5, 3) := by decide +kernel
theorem dX4_reckonTimes_150 : decode cX4_reckonTimes 150 = .ok (.iload 5, 2) := by decide +kernel
theorem dX4_reckonTimes_152 : decode cX4_reckonTimes 152 = .ok (.iastore, 1) := by decide +kernel
theorem dX4_reckonTimes_153 : decode cX4_reckonTimes 153 = .ok (.iconst 1, 1) := by decide +kernel
theorem dX4_reckonTimes_154 : decode cX4_reckonTimes 154 = .ok (.istore_n 1, 1) := by decide +kernel
theorem dX4_reckonTimes_155 : decode cX4_reckonTimes 155 = .ok (.iinc 2 1, 3) := by decide +kernel
theorem dX4_reckonTimes_158 : decode cX4_reckonTimes 158 = .ok (.goto (-127), 3) := by decide +kernel
theorem dX4_reckonTimes_161 : decode cX4_reckonTimes 161 = .ok (.goto (-138), 3) := by decide +kernel
theorem dX4_reckonTimes_164 : decode cX4_reckonTimes 164 = .ok (.return_, 1) := by decide +kernel
theorem dX4_tellWaiting_0 : decode cX4_tellWaiting 0 = .ok (.iconst 0, 1) := by decide +kernel
theorem dX4_tellWaiting_1 : decode cX4_tellWaiting 1 = .ok (.istore_n 1, 1) := by decide +kernel
theorem dX4_tellWaiting_2 : decode cX4_tellWaiting 2 = .ok (.iload_n 1, 1) := by decide +kernel
theorem dX4_tellWaiting_3 : decode cX4_tellWaiting 3 = .ok (.aload_n 0, 1) := by decide +kernel
theorem dX4_tellWaiting_4 : decode cX4_tellWaiting 4 = .ok (.getfield 180, 3) := by decide +kernel
theorem dX4_tellWaiting_7 : decode cX4_tellWaiting 7 = .ok (.if_icmp .ge 82, 3) := by decide +kernel
theorem dX4_tellWaiting_10 : decode cX4_tellWaiting 10 = .ok (.aload_n 0, 1) := by decide +kernel
theorem dX4_tellWaiting_11 : decode cX4_tellWaiting 11 = .ok (.aload_n 0, 1) := by decide +kernel
theorem dX4_tellWaiting_12 : decode cX4_tellWaiting 12 = .ok (.getfield 57, 3) := by decide +kernel
theorem dX4_tellWaiting_15 : decode cX4_tellWaiting 15 = .ok (.iload_n 1, 1) := by decide +kernel
theorem dX4_tellWaiting_16 : decode cX4_tellWaiting 16 = .ok (.iaload, 1) := by decide +kernel
theorem dX4_tellWaiting_17 : decode cX4_tellWaiting 17 = .ok (.aload_n 0, 1) := by decide +kernel
theorem dX4_tellWaiting_18 : decode cX4_tellWaiting 18 = .ok (.getfield 60, 3) := by decide +kernel
theorem dX4_tellWaiting_21 : decode cX4_tellWaiting 21 = .ok (.iload_n 1, 1) := by decide +kernel
theorem dX4_tellWaiting_22 : decode cX4_tellWaiting 22 = .ok (.iaload, 1) := by decide +kernel
theorem dX4_tellWaiting_23 : decode cX4_tellWaiting 23 = .ok (.invokevirtual 126, 3) := by decide +kernel
theorem dX4_tellWaiting_26 : decode cX4_tellWaiting 26 = .ok (.istore_n 2, 1) := by decide +kernel
theorem dX4_tellWaiting_27 : decode cX4_tellWaiting 27 = .ok (.aload_n 0, 1) := by decide +kernel
theorem dX4_tellWaiting_28 : decode cX4_tellWaiting 28 = .ok (.dup, 1) := by decide +kernel
theorem dX4_tellWaiting_29 : decode cX4_tellWaiting 29 = .ok (.getfield 183, 3) := by decide +kernel
theorem dX4_tellWaiting_32 : decode cX4_tellWaiting 32 = .ok (.iconst 1, 1) := by decide +kernel
theorem dX4_tellWaiting_33 : decode cX4_tellWaiting 33 = .ok (.iadd, 1) := by decide +kernel
theorem dX4_tellWaiting_34 : decode cX4_tellWaiting 34 = .ok (.putfield 183, 3) := by decide +kernel
theorem dX4_tellWaiting_37 : decode cX4_tellWaiting 37 = .ok (.aload_n 0, 1) := by decide +kernel
theorem dX4_tellWaiting_38 : decode cX4_tellWaiting 38 = .ok (.getfield 19, 3) := by decide +kernel
theorem dX4_tellWaiting_41 : decode cX4_tellWaiting 41 = .ok (.iload_n 2, 1) := by decide +kernel
theorem dX4_tellWaiting_42 : decode cX4_tellWaiting 42 = .ok (.iaload, 1) := by decide +kernel
theorem dX4_tellWaiting_43 : decode cX4_tellWaiting 43 = .ok (.aload_n 0, 1) := by decide +kernel
theorem dX4_tellWaiting_44 : decode cX4_tellWaiting 44 = .ok (.getfield 186, 3) := by decide +kernel
theorem dX4_tellWaiting_47 : decode cX4_tellWaiting 47 = .ok (.if_icmp .le 13, 3) := by decide +kernel
theorem dX4_tellWaiting_50 : decode cX4_tellWaiting 50 = .ok (.aload_n 0, 1) := by decide +kernel
theorem dX4_tellWaiting_51 : decode cX4_tellWaiting 51 = .ok (.aload_n 0, 1) := by decide +kernel
theorem dX4_tellWaiting_52 : decode cX4_tellWaiting 52 = .ok (.getfield 19, 3) := by decide +kernel
theorem dX4_tellWaiting_55 : decode cX4_tellWaiting 55 = .ok (.iload_n 2, 1) := by decide +kernel
theorem dX4_tellWaiting_56 : decode cX4_tellWaiting 56 = .ok (.iaload, 1) := by decide +kernel
theorem dX4_tellWaiting_57 : decode cX4_tellWaiting 57 = .ok (.putfield 186, 3) := by decide +kernel
theorem dX4_tellWaiting_60 : decode cX4_tellWaiting 60 = .ok (.aload_n 0, 1) := by decide +kernel
theorem dX4_tellWaiting_61 : decode cX4_tellWaiting 61 = .ok (.getfield 177, 3) := by decide +kernel
theorem dX4_tellWaiting_64 : decode cX4_tellWaiting 64 = .ok (.ifCond .le 19, 3) := by decide +kernel
theorem dX4_tellWaiting_67 : decode cX4_tellWaiting 67 = .ok (.aload_n 0, 1) := by decide +kernel
theorem dX4_tellWaiting_68 : decode cX4_tellWaiting 68 = .ok (.dup, 1) := by decide +kernel
theorem dX4_tellWaiting_69 : decode cX4_tellWaiting 69 = .ok (.getfield 189, 3) := by decide +kernel
theorem dX4_tellWaiting_72 : decode cX4_tellWaiting 72 = .ok (.aload_n 0, 1) := by decide +kernel
theorem dX4_tellWaiting_73 : decode cX4_tellWaiting 73 = .ok (.getfield 63, 3) := by decide +kernel
theorem dX4_tellWaiting_76 : decode cX4_tellWaiting 76 = .ok (.iload_n 2, 1) := by decide +kernel
theorem dX4_tellWaiting_77 : decode cX4_tellWaiting 77 = .ok (.iaload, 1) := by decide +kernel
theorem dX4_tellWaiting_78 : decode cX4_tellWaiting 78 = .ok (.i2l, 1) := by decide +kernel
theorem dX4_tellWaiting_79 : decode cX4_tellWaiting 79 = .ok (.ladd, 1) := by decide +kernel
theorem dX4_tellWaiting_80 : decode cX4_tellWaiting 80 = .ok (.putfield 189, 3) := by decide +kernel
theorem dX4_tellWaiting_83 : decode cX4_tellWaiting 83 = .ok (.iinc 1 1, 3) := by decide +kernel
theorem dX4_tellWaiting_86 : decode cX4_tellWaiting 86 = .ok (.goto (-84), 3) := by decide +kernel
theorem dX4_tellWaiting_89 : decode cX4_tellWaiting 89 = .ok (.aload_n 0, 1) := by decide +kernel
theorem dX4_tellWaiting_90 : decode cX4_tellWaiting 90 = .ok (.iconst 0, 1) := by decide +kernel
theorem dX4_tellWaiting_91 : decode cX4_tellWaiting 91 = .ok (.putfield 180, 3) := by decide +kernel
theorem dX4_tellWaiting_94 : decode cX4_tellWaiting 94 = .ok (.return_, 1) := by decide +kernel
theorem dX4_goAlong_0 : decode cX4_goAlong 0 = .ok (.aload_n 0, 1) := by decide +kernel
theorem dX4_goAlong_1 : decode cX4_goAlong 1 = .ok (.iload_n 1, 1) := by decide +kernel
theorem dX4_goAlong_2 : decode cX4_goAlong 2 = .ok (.putfield 177, 3) := by decide +kernel
theorem dX4_goAlong_5 : decode cX4_goAlong 5 = .ok (.aload_n 0, 1) := by decide +kernel
theorem dX4_goAlong_6 : decode cX4_goAlong 6 = .ok (.invokevirtual 193, 3) := by decide +kernel
theorem dX4_goAlong_9 : decode cX4_goAlong 9 = .ok (.aload_n 0, 1) := by decide +kernel
theorem dX4_goAlong_10 : decode cX4_goAlong 10 = .ok (.iconst 0, 1) := by decide +kernel
theorem dX4_goAlong_11 : decode cX4_goAlong 11 = .ok (.putfield 180, 3) := by decide +kernel
theorem dX4_goAlong_14 : decode cX4_goAlong 14 = .ok (.aload_n 0, 1) := by decide +kernel
theorem dX4_goAlong_15 : decode cX4_goAlong 15 = .ok (.iconst 0, 1) := by decide +kernel
theorem dX4_goAlong_16 : decode cX4_goAlong 16 = .ok (.putfield 183, 3) := by decide +kernel
theorem dX4_goAlong_19 : decode cX4_goAlong 19 = .ok (.aload_n 0, 1) := by decide +kernel
theorem dX4_goAlong_20 : decode cX4_goAlong 20 = .ok (.iconst 0, 1) := by decide +kernel
theorem dX4_goAlong_21 : decode cX4_goAlong 21 = .ok (.putfield 186, 3) := by decide +kernel
theorem dX4_goAlong_24 : decode cX4_goAlong 24 = .ok (.aload_n 0, 1) := by decide +kernel
theorem dX4_goAlong_25 : decode cX4_goAlong 25 = .ok (.lconst 0, 1) := by decide +kernel
theorem dX4_goAlong_26 : decode cX4_goAlong 26 = .ok (.putfield 189, 3) := by decide +kernel
theorem dX4_goAlong_29 : decode cX4_goAlong 29 = .ok (.iconst 0, 1) := by decide +kernel
theorem dX4_goAlong_30 : decode cX4_goAlong 30 = .ok (.istore_n 2, 1) := by decide +kernel
theorem dX4_goAlong_31 : decode cX4_goAlong 31 = .ok (.iload_n 2, 1) := by decide +kernel
theorem dX4_goAlong_32 : decode cX4_goAlong 32 = .ok (.aload_n 0, 1) := by decide +kernel
theorem dX4_goAlong_33 : decode cX4_goAlong 33 = .ok (.getfield 96, 3) := by decide +kernel
theorem dX4_goAlong_36 : decode cX4_goAlong 36 = .ok (.if_icmp .ge 230, 3) := by decide +kernel
theorem dX4_goAlong_39 : decode cX4_goAlong 39 = .ok (.aload_n 0, 1) := by decide +kernel
theorem dX4_goAlong_40 : decode cX4_goAlong 40 = .ok (.iload_n 2, 1) := by decide +kernel
theorem dX4_goAlong_41 : decode cX4_goAlong 41 = .ok (.invokevirtual 132, 3) := by decide +kernel
theorem dX4_goAlong_44 : decode cX4_goAlong 44 = .ok (.ifCond .ne 21, 3) := by decide +kernel
theorem dX4_goAlong_47 : decode cX4_goAlong 47 = .ok (.iload_n 1, 1) := by decide +kernel
theorem dX4_goAlong_48 : decode cX4_goAlong 48 = .ok (.ifCond .le 21, 3) := by decide +kernel
theorem dX4_goAlong_51 : decode cX4_goAlong 51 = .ok (.aload_n 0, 1) := by decide +kernel
theorem dX4_goAlong_52 : decode cX4_goAlong 52 = .ok (.getfield 19, 3) := by decide +kernel
theorem dX4_goAlong_55 : decode cX4_goAlong 55 = .ok (.aload_n 0, 1) := by decide +kernel
theorem dX4_goAlong_56 : decode cX4_goAlong 56 = .ok (.iload_n 2, 1) := by decide +kernel
theorem dX4_goAlong_57 : decode cX4_goAlong 57 = .ok (.invokevirtual 139, 3) := by decide +kernel
theorem dX4_goAlong_60 : decode cX4_goAlong 60 = .ok (.iaload, 1) := by decide +kernel
theorem dX4_goAlong_61 : decode cX4_goAlong 61 = .ok (.iload_n 1, 1) := by decide +kernel
theorem dX4_goAlong_62 : decode cX4_goAlong 62 = .ok (.if_icmp .lt 7, 3) := by decide +kernel
theorem dX4_goAlong_65 : decode cX4_goAlong 65 = .ok (.iconst 1, 1) := by decide +kernel
theorem dX4_goAlong_66 : decode cX4_goAlong 66 = .ok (.goto 4, 3) := by decide +kernel
theorem dX4_goAlong_69 : decode cX4_goAlong 69 = .ok (.iconst 0, 1) := by decide +kernel
theorem dX4_goAlong_70 : decode cX4_goAlong 70 = .ok (.istore_n 3, 1) := by decide +kernel
theorem dX4_goAlong_71 : decode cX4_goAlong 71 = .ok (.iload_n 3, 1) := by decide +kernel
theorem dX4_goAlong_72 : decode cX4_goAlong 72 = .ok (.ifCond .eq 38, 3) := by decide +kernel
theorem dX4_goAlong_75 : decode cX4_goAlong 75 = .ok (.aload_n 0, 1) := by decide +kernel
theorem dX4_goAlong_76 : decode cX4_goAlong 76 = .ok (.invokevirtual 196, 3) := by decide +kernel
theorem dX4_goAlong_79 : decode cX4_goAlong 79 = .ok (.aload_n 0, 1) := by decide +kernel
theorem dX4_goAlong_80 : decode cX4_goAlong 80 = .ok (.iload_n 2, 1) := by decide +kernel
theorem dX4_goAlong_81 : decode cX4_goAlong 81 = .ok (.invokevirtual 132, 3) := by decide +kernel
theorem dX4_goAlong_84 : decode cX4_goAlong 84 = .ok (.ifCond .ne 176, 3) := by decide +kernel
theorem dX4_goAlong_87 : decode cX4_goAlong 87 = .ok (.aload_n 0, 1) := by decide +kernel
theorem dX4_goAlong_88 : decode cX4_goAlong 88 = .ok (.dup, 1) := by decide +kernel
theorem dX4_goAlong_89 : decode cX4_goAlong 89 = .ok (.getfield 189, 3) := by decide +kernel
theorem dX4_goAlong_92 : decode cX4_goAlong 92 = .ok (.aload_n 0, 1) := by decide +kernel
theorem dX4_goAlong_93 : decode cX4_goAlong 93 = .ok (.getfield 63, 3) := by decide +kernel
theorem dX4_goAlong_96 : decode cX4_goAlong 96 = .ok (.aload_n 0, 1) := by decide +kernel
theorem dX4_goAlong_97 : decode cX4_goAlong 97 = .ok (.iload_n 2, 1) := by decide +kernel
theorem dX4_goAlong_98 : decode cX4_goAlong 98 = .ok (.invokevirtual 139, 3) := by decide +kernel
theorem dX4_goAlong_101 : decode cX4_goAlong 101 = .ok (.iaload, 1) := by decide +kernel
theorem dX4_goAlong_102 : decode cX4_goAlong 102 = .ok (.i2l, 1) := by decide +kernel
theorem dX4_goAlong_103 : decode cX4_goAlong 103 = .ok (.ladd, 1) := by decide +kernel
theorem dX4_goAlong_104 : decode cX4_goAlong 104 = .ok (.putfield 189, 3) := by decide +kernel
theorem dX4_goAlong_107 : decode cX4_goAlong 107 = .ok (.goto 153, 3) := by decide +kernel
theorem dX4_goAlong_110 : decode cX4_goAlong 110 = .ok (.aload_n 0, 1) := by decide +kernel
theorem dX4_goAlong_111 : decode cX4_goAlong 111 = .ok (.iload_n 2, 1) := by decide +kernel
theorem dX4_goAlong_112 : decode cX4_goAlong 112 = .ok (.invokevirtual 116, 3) := by decide +kernel
theorem dX4_goAlong_115 : decode cX4_goAlong 115 = .ok (.istore 4, 2) := by decide +kernel
theorem dX4_goAlong_117 : decode cX4_goAlong 117 = .ok (.aload_n 0, 1) := by decide +kernel
theorem dX4_goAlong_118 : decode cX4_goAlong 118 = .ok (.iload_n 2, 1) := by decide +kernel
theorem dX4_goAlong_119 : decode cX4_goAlong 119 = .ok (.invokevirtual 120, 3) := by decide +kernel
theorem dX4_goAlong_122 : decode cX4_goAlong 122 = .ok (.istore 5, 2) := by decide +kernel
theorem dX4_goAlong_124 : decode cX4_goAlong 124 = .ok (.iload 5, 2) := by decide +kernel
theorem dX4_goAlong_126 : decode cX4_goAlong 126 = .ok (.iconst 2, 1) := by decide +kernel
theorem dX4_goAlong_127 : decode cX4_goAlong 127 = .ok (.irem, 1) := by decide +kernel
theorem dX4_goAlong_128 : decode cX4_goAlong 128 = .ok (.iconst 1, 1) := by decide +kernel
theorem dX4_goAlong_129 : decode cX4_goAlong 129 = .ok (.if_icmp .ne 66, 3) := by decide +kernel
theorem dX4_goAlong_132 : decode cX4_goAlong 132 = .ok (.aload_n 0, 1) := by decide +kernel
theorem dX4_goAlong_133 : decode cX4_goAlong 133 = .ok (.getfield 180, 3) := by decide +kernel
theorem dX4_goAlong_136 : decode cX4_goAlong 136 = .ok (.ifCond .le 59, 3) := by decide +kernel
theorem dX4_goAlong_139 : decode cX4_goAlong 139 = .ok (.aload_n 0, 1) := by decide +kernel
theorem dX4_goAlong_140 : decode cX4_goAlong 140 = .ok (.getfield 57, 3) := by decide +kernel
theorem dX4_goAlong_143 : decode cX4_goAlong 143 = .ok (.aload_n 0, 1) := by decide +kernel
theorem dX4_goAlong_144 : decode cX4_goAlong 144 = .ok (.getfield 180, 3) := by decide +kernel
theorem dX4_goAlong_147 : decode cX4_goAlong 147 = .ok (.iconst 1, 1) := by decide +kernel
theorem dX4_goAlong_148 : decode cX4_goAlong 148 = .ok (.isub, 1) := by decide +kernel
theorem dX4_goAlong_149 : decode cX4_goAlong 149 = .ok (.iaload, 1) := by decide +kernel
theorem dX4_goAlong_150 : decode cX4_goAlong 150 = .ok (.iload 4, 2) := by decide +kernel
theorem dX4_goAlong_152 : decode cX4_goAlong 152 = .ok (.if_icmp .ne 43, 3) := by decide +kernel
theorem dX4_goAlong_155 : decode cX4_goAlong 155 = .ok (.aload_n 0, 1) := by decide +kernel
theorem dX4_goAlong_156 : decode cX4_goAlong 156 = .ok (.getfield 60, 3) := by decide +kernel
theorem dX4_goAlong_159 : decode cX4_goAlong 159 = .ok (.aload_n 0, 1) := by decide +kernel
theorem dX4_goAlong_160 : decode cX4_goAlong 160 = .ok (.getfield 180, 3) := by decide +kernel
theorem dX4_goAlong_163 : decode cX4_goAlong 163 = .ok (.iconst 1, 1) := by decide +kernel
theorem dX4_goAlong_164 : decode cX4_goAlong 164 = .ok (.isub, 1) := by decide +kernel
theorem dX4_goAlong_165 : decode cX4_goAlong 165 = .ok (.iaload, 1) := by decide +kernel
theorem dX4_goAlong_166 : decode cX4_goAlong 166 = .ok (.iload 5, 2) := by decide +kernel
theorem dX4_goAlong_168 : decode cX4_goAlong 168 = .ok (.iconst 1, 1) := by decide +kernel
theorem dX4_goAlong_169 : decode cX4_goAlong 169 = .ok (.isub, 1) := by decide +kernel
theorem dX4_goAlong_170 : decode cX4_goAlong 170 = .ok (.if_icmp .ne 25, 3) := by decide +kernel
theorem dX4_goAlong_173 : decode cX4_goAlong 173 = .ok (.aload_n 0, 1) := by decide +kernel
theorem dX4_goAlong_174 : decode cX4_goAlong 174 = .ok (.dup, 1) := by decide +kernel
theorem dX4_goAlong_175 : decode cX4_goAlong 175 = .ok (.getfield 180, 3) := by decide +kernel
theorem dX4_goAlong_178 : decode cX4_goAlong 178 = .ok (.iconst 1, 1) := by decide +kernel
theorem dX4_goAlong_179 : decode cX4_goAlong 179 = .ok (.isub, 1) := by decide +kernel
theorem dX4_goAlong_180 : decode cX4_goAlong 180 = .ok (.putfield 180, 3) := by decide +kernel
theorem dX4_goAlong_183 : decode cX4_goAlong 183 = .ok (.iinc 4 (-1), 3) := by decide +kernel
theorem dX4_goAlong_186 : decode cX4_goAlong 186 = .ok (.iload 5, 2) := by decide +kernel
theorem dX4_goAlong_188 : decode cX4_goAlong 188 = .ok (.iconst 2, 1) := by decide +kernel
theorem dX4_goAlong_189 : decode cX4_goAlong 189 = .ok (.idiv, 1) := by decide +kernel
theorem dX4_goAlong_190 : decode cX4_goAlong 190 = .ok (.istore 5, 2) := by decide +kernel
theorem dX4_goAlong_192 : decode cX4_goAlong 192 = .ok (.goto (-68), 3) := by decide +kernel
theorem dX4_goAlong_195 : decode cX4_goAlong 195 = .ok (.iload 5, 2) := by decide +kernel
theorem dX4_goAlong_197 : decode cX4_goAlong 197 = .ok (.iconst 2, 1) := by decide +kernel
theorem dX4_goAlong_198 : decode cX4_goAlong 198 = .ok (.irem, 1) := by decide +kernel
theorem dX4_goAlong_199 : decode cX4_goAlong 199 = .ok (.iconst 1, 1) := by decide +kernel
theorem dX4_goAlong_200 : decode cX4_goAlong 200 = .ok (.if_icmp .ne 7, 3) := by decide +kernel
theorem dX4_goAlong_203 : decode cX4_goAlong 203 = .ok (.iconst 1, 1) := by decide +kernel
theorem dX4_goAlong_204 : decode cX4_goAlong 204 = .ok (.goto 4, 3) := by decide +kernel
theorem dX4_goAlong_207 : decode cX4_goAlong 207 = .ok (.iconst 0, 1) := by decide +kernel
theorem dX4_goAlong_208 : decode cX4_goAlong 208 = .ok (.istore 6, 2) := by decide +kernel
theorem dX4_goAlong_210 : decode cX4_goAlong 210 = .ok (.iload 6, 2) := by decide +kernel
theorem dX4_goAlong_212 : decode cX4_goAlong 212 = .ok (.ifCond .eq 7, 3) := by decide +kernel
theorem dX4_goAlong_215 : decode cX4_goAlong 215 = .ok (.aload_n 0, 1) := by decide +kernel
theorem dX4_goAlong_216 : decode cX4_goAlong 216 = .ok (.invokevirtual 196, 3) := by decide +kernel
theorem dX4_goAlong_219 : decode cX4_goAlong 219 = .ok (.aload_n 0, 1) := by decide +kernel
theorem dX4_goAlong_220 : decode cX4_goAlong 220 = .ok (.getfield 57, 3) := by decide +kernel
theorem dX4_goAlong_223 : decode cX4_goAlong 223 = .ok (.aload_n 0, 1) := by decide +kernel
theorem dX4_goAlong_224 : decode cX4_goAlong 224 = .ok (.getfield 180, 3) := by decide +kernel
theorem dX4_goAlong_227 : decode cX4_goAlong 227 = .ok (.iload 4, 2) := by decide +kernel
theorem dX4_goAlong_229 : decode cX4_goAlong 229 = .ok (.iastore, 1) := by decide +kernel
theorem dX4_goAlong_230 : decode cX4_goAlong 230 = .ok (.aload_n 0, 1) := by decide +kernel
theorem dX4_goAlong_231 : decode cX4_goAlong 231 = .ok (.getfield 60, 3) := by decide +kernel
theorem dX4_goAlong_234 : decode cX4_goAlong 234 = .ok (.aload_n 0, 1) := by decide +kernel
theorem dX4_goAlong_235 : decode cX4_goAlong 235 = .ok (.getfield 180, 3) := by decide +kernel
theorem dX4_goAlong_238 : decode cX4_goAlong 238 = .ok (.iload 5, 2) := by decide +kernel
theorem dX4_goAlong_240 : decode cX4_goAlong 240 = .ok (.iastore, 1) := by decide +kernel
theorem dX4_goAlong_241 : decode cX4_goAlong 241 = .ok (.aload_n 0, 1) := by decide +kernel
theorem dX4_goAlong_242 : decode cX4_goAlong 242 = .ok (.dup, 1) := by decide +kernel
theorem dX4_goAlong_243 : decode cX4_goAlong 243 = .ok (.getfield 180, 3) := by decide +kernel
theorem dX4_goAlong_246 : decode cX4_goAlong 246 = .ok (.iconst 1, 1) := by decide +kernel
theorem dX4_goAlong_247 : decode cX4_goAlong 247 = .ok (.iadd, 1) := by decide +kernel
theorem dX4_goAlong_248 : decode cX4_goAlong 248 = .ok (.putfield 180, 3) := by decide +kernel
theorem dX4_goAlong_251 : decode cX4_goAlong 251 = .ok (.iload 6, 2) := by decide +kernel
theorem dX4_goAlong_253 : decode cX4_goAlong 253 = .ok (.ifCond .eq 7, 3) := by decide +kernel
theorem dX4_goAlong_256 : decode cX4_goAlong 256 = .ok (.aload_n 0, 1) := by decide +kernel
theorem dX4_goAlong_257 : decode cX4_goAlong 257 = .ok (.invokevirtual 196, 3) := by decide +kernel
theorem dX4_goAlong_260 : decode cX4_goAlong 260 = .ok (.iinc 2 1, 3) := by decide +kernel
theorem dX4_goAlong_263 : decode cX4_goAlong 263 = .ok (.goto (-232), 3) := by decide +kernel
theorem dX4_goAlong_266 : decode cX4_goAlong 266 = .ok (.aload_n 0, 1) := by decide +kernel
theorem dX4_goAlong_267 : decode cX4_goAlong 267 = .ok (.invokevirtual 196, 3) := by decide +kernel
theorem dX4_goAlong_270 : decode cX4_goAlong 270 = .ok (.return_, 1) := by decide +kernel
theorem dX4_count_0 : decode cX4_count 0 = .ok (.aload_n 0, 1) := by decide +kernel
theorem dX4_count_1 : decode cX4_count 1 = .ok (.invokevirtual 159, 3) := by decide +kernel
theorem dX4_count_4 : decode cX4_count 4 = .ok (.ifCond .ne 5, 3) := by decide +kernel
theorem dX4_count_7 : decode cX4_count 7 = .ok (.iconst 0, 1) := by decide +kernel
theorem dX4_count_8 : decode cX4_count 8 = .ok (.ireturn, 1) := by decide +kernel
theorem dX4_count_9 : decode cX4_count 9 = .ok (.iconst 0, 1) := by decide +kernel
theorem dX4_count_10 : decode cX4_count 10 = .ok (.istore_n 2, 1) := by decide +kernel
theorem dX4_count_11 : decode cX4_count 11 = .ok (.iconst 0, 1) := by decide +kernel
theorem dX4_count_12 : decode cX4_count 12 = .ok (.istore_n 3, 1) := by decide +kernel
theorem dX4_count_13 : decode cX4_count 13 = .ok (.iconst 0, 1) := by decide +kernel
theorem dX4_count_14 : decode cX4_count 14 = .ok (.istore 4, 2) := by decide +kernel
theorem dX4_count_16 : decode cX4_count 16 = .ok (.iload 4, 2) := by decide +kernel
theorem dX4_count_18 : decode cX4_count 18 = .ok (.aload_n 0, 1) := by decide +kernel
theorem dX4_count_19 : decode cX4_count 19 = .ok (.getfield 96, 3) := by decide +kernel
theorem dX4_count_22 : decode cX4_count 22 = .ok (.if_icmp .ge 32, 3) := by decide +kernel
theorem dX4_count_25 : decode cX4_count 25 = .ok (.aload_n 0, 1) := by decide +kernel
theorem dX4_count_26 : decode cX4_count 26 = .ok (.iload 4, 2) := by decide +kernel
theorem dX4_count_28 : decode cX4_count 28 = .ok (.invokevirtual 132, 3) := by decide +kernel
theorem dX4_count_31 : decode cX4_count 31 = .ok (.ifCond .eq 17, 3) := by decide +kernel
theorem dX4_count_34 : decode cX4_count 34 = .ok (.iload_n 2, 1) := by decide +kernel
theorem dX4_count_35 : decode cX4_count 35 = .ok (.aload_n 0, 1) := by decide +kernel
theorem dX4_count_36 : decode cX4_count 36 = .ok (.getfield 19, 3) := by decide +kernel
theorem dX4_count_39 : decode cX4_count 39 = .ok (.aload_n 0, 1) := by decide +kernel
theorem dX4_count_40 : decode cX4_count 40 = .ok (.iload 4, 2) := by decide +kernel
theorem dX4_count_42 : decode cX4_count 42 = .ok (.invokevirtual 139, 3) := by decide +kernel
theorem dX4_count_45 : decode cX4_count 45 = .ok (.iaload, 1) := by decide +kernel
theorem dX4_count_46 : decode cX4_count 46 = .ok (.iadd, 1) := by decide +kernel
theorem dX4_count_47 : decode cX4_count 47 = .ok (.istore_n 2, 1) := by decide +kernel
theorem dX4_count_48 : decode cX4_count 48 = .ok (.iinc 4 1, 3) := by decide +kernel
theorem dX4_count_51 : decode cX4_count 51 = .ok (.goto (-35), 3) := by decide +kernel
theorem dX4_count_54 : decode cX4_count 54 = .ok (.iconst 0, 1) := by decide +kernel
theorem dX4_count_55 : decode cX4_count 55 = .ok (.istore 4, 2) := by decide +kernel
theorem dX4_count_57 : decode cX4_count 57 = .ok (.iload 4, 2) := by decide +kernel
theorem dX4_count_59 : decode cX4_count 59 = .ok (.aload_n 0, 1) := by decide +kernel
theorem dX4_count_60 : decode cX4_count 60 = .ok (.getfield 103, 3) := by decide +kernel
theorem dX4_count_63 : decode cX4_count 63 = .ok (.if_icmp .ge 19, 3) := by decide +kernel
theorem dX4_count_66 : decode cX4_count 66 = .ok (.iload_n 3, 1) := by decide +kernel
theorem dX4_count_67 : decode cX4_count 67 = .ok (.aload_n 0, 1) := by decide +kernel
theorem dX4_count_68 : decode cX4_count 68 = .ok (.getfield 45, 3) := by decide +kernel
theorem dX4_count_71 : decode cX4_count 71 = .ok (.iload 4, 2) := by decide +kernel
theorem dX4_count_73 : decode cX4_count 73 = .ok (.iaload, 1) := by decide +kernel
theorem dX4_count_74 : decode cX4_count 74 = .ok (.iadd, 1) := by decide +kernel
theorem dX4_count_75 : decode cX4_count 75 = .ok (.istore_n 3, 1) := by decide +kernel
theorem dX4_count_76 : decode cX4_count 76 = .ok (.iinc 4 1, 3) := by decide +kernel
theorem dX4_count_79 : decode cX4_count 79 = .ok (.goto (-22), 3) := by decide +kernel
theorem dX4_count_82 : decode cX4_count 82 = .ok (.aload_n 0, 1) := by decide +kernel
theorem dX4_count_83 : decode cX4_count 83 = .ok (.iconst 0, 1) := by decide +kernel
theorem dX4_count_84 : decode cX4_count 84 = .ok (.invokevirtual 199, 3) := by decide +kernel
theorem dX4_count_87 : decode cX4_count 87 = .ok (.iload_n 1, 1) := by decide +kernel
theorem dX4_count_88 : decode cX4_count 88 = .ok (.tableswitch 119 0 9 #[56, 66, 68, 72, 84, 89, 99, 104, 109, 114], 56) := by decide +kernel
theorem dX4_count_144 : decode cX4_count 144 = .ok (.aload_n 0, 1) := by decide +kernel
theorem dX4_count_145 : decode cX4_count 145 = .ok (.getfield 19, 3) := by decide +kernel
theorem dX4_count_148 : decode cX4_count 148 = .ok (.aload_n 0, 1) := by decide +kernel
theorem dX4_count_149 : decode cX4_count 149 = .ok (.getfield 93, 3) := by decide +kernel
theorem dX4_count_152 : decode cX4_count 152 = .ok (.iaload, 1) := by decide +kernel
theorem dX4_count_153 : decode cX4_count 153 = .ok (.ireturn, 1) := by decide +kernel
theorem dX4_count_154 : decode cX4_count 154 = .ok (.iload_n 3, 1) := by decide +kernel
theorem dX4_count_155 : decode cX4_count 155 = .ok (.ireturn, 1) := by decide +kernel
theorem dX4_count_156 : decode cX4_count 156 = .ok (.iload_n 2, 1) := by decide +kernel
theorem dX4_count_157 : decode cX4_count 157 = .ok (.iload_n 3, 1) := by decide +kernel
theorem dX4_count_158 : decode cX4_count 158 = .ok (.isub, 1) := by decide +kernel
theorem dX4_count_159 : decode cX4_count 159 = .ok (.ireturn, 1) := by decide +kernel
theorem dX4_count_160 : decode cX4_count 160 = .ok (.aload_n 0, 1) := by decide +kernel
theorem dX4_count_161 : decode cX4_count 161 = .ok (.getfield 19, 3) := by decide +kernel
theorem dX4_count_164 : decode cX4_count 164 = .ok (.aload_n 0, 1) := by decide +kernel
theorem dX4_count_165 : decode cX4_count 165 = .ok (.getfield 93, 3) := by decide +kernel
theorem dX4_count_168 : decode cX4_count 168 = .ok (.iaload, 1) := by decide +kernel
theorem dX4_count_169 : decode cX4_count 169 = .ok (.iload_n 2, 1) := by decide +kernel
theorem dX4_count_170 : decode cX4_count 170 = .ok (.isub, 1) := by decide +kernel
theorem dX4_count_171 : decode cX4_count 171 = .ok (.ireturn, 1) := by decide +kernel
theorem dX4_count_172 : decode cX4_count 172 = .ok (.aload_n 0, 1) := by decide +kernel
theorem dX4_count_173 : decode cX4_count 173 = .ok (.getfield 103, 3) := by decide +kernel
theorem dX4_count_176 : decode cX4_count 176 = .ok (.ireturn, 1) := by decide +kernel
theorem dX4_count_177 : decode cX4_count 177 = .ok (.aload_n 0, 1) := by decide +kernel
theorem dX4_count_178 : decode cX4_count 178 = .ok (.getfield 96, 3) := by decide +kernel
theorem dX4_count_181 : decode cX4_count 181 = .ok (.aload_n 0, 1) := by decide +kernel
theorem dX4_count_182 : decode cX4_count 182 = .ok (.getfield 103, 3) := by decide +kernel
theorem dX4_count_185 : decode cX4_count 185 = .ok (.isub, 1) := by decide +kernel
theorem dX4_count_186 : decode cX4_count 186 = .ok (.ireturn, 1) := by decide +kernel
theorem dX4_count_187 : decode cX4_count 187 = .ok (.aload_n 0, 1) := by decide +kernel
theorem dX4_count_188 : decode cX4_count 188 = .ok (.getfield 186, 3) := by decide +kernel
theorem dX4_count_191 : decode cX4_count 191 = .ok (.ireturn, 1) := by decide +kernel
theorem dX4_count_192 : decode cX4_count 192 = .ok (.aload_n 0, 1) := by decide +kernel
theorem dX4_count_193 : decode cX4_count 193 = .ok (.getfield 106, 3) := by decide +kernel
theorem dX4_count_196 : decode cX4_count 196 = .ok (.ireturn, 1) := by decide +kernel
theorem dX4_count_197 : decode cX4_count 197 = .ok (.aload_n 0, 1) := by decide +kernel
theorem dX4_count_198 : decode cX4_count 198 = .ok (.getfield 109, 3) := by decide +kernel
theorem dX4_count_201 : decode cX4_count 201 = .ok (.ireturn, 1) := by decide +kernel
theorem dX4_count_202 : decode cX4_count 202 = .ok (.aload_n 0, 1) := by decide +kernel
theorem dX4_count_203 : decode cX4_count 203 = .ok (.getfield 183, 3) := by decide +kernel
theorem dX4_count_206 : decode cX4_count 206 = .ok (.ireturn, 1) := by decide +kernel
theorem dX4_count_207 : decode cX4_count 207 = .ok (.iconst (-1), 1) := by decide +kernel
theorem dX4_count_208 : decode cX4_count 208 = .ok (.ireturn, 1) := by decide +kernel
theorem dX4_room_0 : decode cX4_room 0 = .ok (.aload_n 0, 1) := by decide +kernel
theorem dX4_room_1 : decode cX4_room 1 = .ok (.invokevirtual 159, 3) := by decide +kernel
theorem dX4_room_4 : decode cX4_room 4 = .ok (.ifCond .ne 5, 3) := by decide +kernel
theorem dX4_room_7 : decode cX4_room 7 = .ok (.iconst 0, 1) := by decide +kernel
theorem dX4_room_8 : decode cX4_room 8 = .ok (.ireturn, 1) := by decide +kernel
theorem dX4_room_9 : decode cX4_room 9 = .ok (.iload_n 1, 1) := by decide +kernel
theorem dX4_room_10 : decode cX4_room 10 = .ok (.iconst 1, 1) := by decide +kernel
theorem dX4_room_11 : decode cX4_room 11 = .ok (.if_icmp .ge 9, 3) := by decide +kernel
theorem dX4_room_14 : decode cX4_room 14 = .ok (.aload_n 0, 1) := by decide +kernel
theorem dX4_room_15 : decode cX4_room 15 = .ok (.iconst 2, 1) := by decide +kernel
theorem dX4_room_16 : decode cX4_room 16 = .ok (.invokevirtual 163, 3) := by decide +kernel
theorem dX4_room_19 : decode cX4_room 19 = .ok (.ireturn, 1) := by decide +kernel
theorem dX4_room_20 : decode cX4_room 20 = .ok (.aload_n 0, 1) := by decide +kernel
theorem dX4_room_21 : decode cX4_room 21 = .ok (.iload_n 1, 1) := by decide +kernel
theorem dX4_room_22 : decode cX4_room 22 = .ok (.invokevirtual 199, 3) := by decide +kernel
theorem dX4_room_25 : decode cX4_room 25 = .ok (.aload_n 0, 1) := by decide +kernel
theorem dX4_room_26 : decode cX4_room 26 = .ok (.getfield 189, 3) := by decide +kernel
theorem dX4_room_29 : decode cX4_room 29 = .ok (.l2i, 1) := by decide +kernel
theorem dX4_room_30 : decode cX4_room 30 = .ok (.ireturn, 1) := by decide +kernel
theorem dX4_load_0 : decode cX4_load 0 = .ok (.aload_n 0, 1) := by decide +kernel
theorem dX4_load_1 : decode cX4_load 1 = .ok (.iload_n 1, 1) := by decide +kernel
theorem dX4_load_2 : decode cX4_load 2 = .ok (.i2l, 1) := by decide +kernel
theorem dX4_load_3 : decode cX4_load 3 = .ok (.lconst 0, 1) := by decide +kernel
theorem dX4_load_4 : decode cX4_load 4 = .ok (.ldc2_w 175, 3) := by decide +kernel
theorem dX4_load_7 : decode cX4_load 7 = .ok (.invokestatic 72, 3) := by decide +kernel
theorem dX4_load_10 : decode cX4_load 10 = .ok (.ifCond .eq 7, 3) := by decide +kernel
theorem dX4_load_13 : decode cX4_load 13 = .ok (.iconst 0, 1) := by decide +kernel
theorem dX4_load_14 : decode cX4_load 14 = .ok (.goto 4, 3) := by decide +kernel
theorem dX4_load_17 : decode cX4_load 17 = .ok (.iconst 1, 1) := by decide +kernel
theorem dX4_load_18 : decode cX4_load 18 = .ok (.putfield 66, 3) := by decide +kernel
theorem dX4_load_21 : decode cX4_load 21 = .ok (.aload_n 0, 1) := by decide +kernel
theorem dX4_load_22 : decode cX4_load 22 = .ok (.getfield 66, 3) := by decide +kernel
theorem dX4_load_25 : decode cX4_load 25 = .ok (.ifCond .ne 10, 3) := by decide +kernel
theorem dX4_load_28 : decode cX4_load 28 = .ok (.aload_n 0, 1) := by decide +kernel
theorem dX4_load_29 : decode cX4_load 29 = .ok (.getfield 48, 3) := by decide +kernel
theorem dX4_load_32 : decode cX4_load 32 = .ok (.iload_n 1, 1) := by decide +kernel
theorem dX4_load_33 : decode cX4_load 33 = .ok (.iload_n 2, 1) := by decide +kernel
theorem dX4_load_34 : decode cX4_load 34 = .ok (.iastore, 1) := by decide +kernel
theorem dX4_load_35 : decode cX4_load 35 = .ok (.return_, 1) := by decide +kernel
theorem dX4_replay_0 : decode cX4_replay 0 = .ok (.aload_n 0, 1) := by decide +kernel
theorem dX4_replay_1 : decode cX4_replay 1 = .ok (.invokevirtual 159, 3) := by decide +kernel
theorem dX4_replay_4 : decode cX4_replay 4 = .ok (.ifCond .ne 5, 3) := by decide +kernel
theorem dX4_replay_7 : decode cX4_replay 7 = .ok (.iconst 0, 1) := by decide +kernel
theorem dX4_replay_8 : decode cX4_replay 8 = .ok (.ireturn, 1) := by decide +kernel
theorem dX4_replay_9 : decode cX4_replay 9 = .ok (.iload_n 1, 1) := by decide +kernel
theorem dX4_replay_10 : decode cX4_replay 10 = .ok (.i2l, 1) := by decide +kernel
theorem dX4_replay_11 : decode cX4_replay 11 = .ok (.lconst 0, 1) := by decide +kernel
theorem dX4_replay_12 : decode cX4_replay 12 = .ok (.ldc2_w 202, 3) := by decide +kernel
theorem dX4_replay_15 : decode cX4_replay 15 = .ok (.invokestatic 72, 3) := by decide +kernel
theorem dX4_replay_18 : decode cX4_replay 18 = .ok (.ifCond .ne 9, 3) := by decide +kernel
theorem dX4_replay_21 : decode cX4_replay 21 = .ok (.aload_n 0, 1) := by decide +kernel
theorem dX4_replay_22 : decode cX4_replay 22 = .ok (.iconst 2, 1) := by decide +kernel
theorem dX4_replay_23 : decode cX4_replay 23 = .ok (.invokevirtual 163, 3) := by decide +kernel
theorem dX4_replay_26 : decode cX4_replay 26 = .ok (.ireturn, 1) := by decide +kernel
theorem dX4_replay_27 : decode cX4_replay 27 = .ok (.iconst 0, 1) := by decide +kernel
theorem dX4_replay_28 : decode cX4_replay 28 = .ok (.istore_n 2, 1) := by decide +kernel
theorem dX4_replay_29 : decode cX4_replay 29 = .ok (.iload_n 2, 1) := by decide +kernel
theorem dX4_replay_30 : decode cX4_replay 30 = .ok (.iload_n 1, 1) := by decide +kernel
theorem dX4_replay_31 : decode cX4_replay 31 = .ok (.if_icmp .ge 125, 3) := by decide +kernel
theorem dX4_replay_34 : decode cX4_replay 34 = .ok (.aload_n 0, 1) := by decide +kernel
theorem dX4_replay_35 : decode cX4_replay 35 = .ok (.getfield 51, 3) := by decide +kernel
theorem dX4_replay_38 : decode cX4_replay 38 = .ok (.iload_n 2, 1) := by decide +kernel
theorem dX4_replay_39 : decode cX4_replay 39 = .ok (.iconst (-1), 1) := by decide +kernel
theorem dX4_replay_40 : decode cX4_replay 40 = .ok (.iastore, 1) := by decide +kernel
theorem dX4_replay_41 : decode cX4_replay 41 = .ok (.aload_n 0, 1) := by decide +kernel
theorem dX4_replay_42 : decode cX4_replay 42 = .ok (.getfield 48, 3) := by decide +kernel
theorem dX4_replay_45 : decode cX4_replay 45 = .ok (.iload_n 2, 1) := by decide +kernel
theorem dX4_replay_46 : decode cX4_replay 46 = .ok (.iaload, 1) := by decide +kernel
theorem dX4_replay_47 : decode cX4_replay 47 = .ok (.istore_n 3, 1) := by decide +kernel
theorem dX4_replay_48 : decode cX4_replay 48 = .ok (.iload_n 3, 1) := by decide +kernel
theorem dX4_replay_49 : decode cX4_replay 49 = .ok (.ifCond .ne 11, 3) := by decide +kernel
theorem dX4_replay_52 : decode cX4_replay 52 = .ok (.aload_n 0, 1) := by decide +kernel
theorem dX4_replay_53 : decode cX4_replay 53 = .ok (.invokevirtual 145, 3) := by decide +kernel
theorem dX4_replay_56 : decode cX4_replay 56 = .ok (.pop, 1) := by decide +kernel
theorem dX4_replay_57 : decode cX4_replay 57 = .ok (.goto 93, 3) := by decide +kernel
theorem dX4_replay_60 : decode cX4_replay 60 = .ok (.iload_n 3, 1) := by decide +kernel
theorem dX4_replay_61 : decode cX4_replay 61 = .ok (.ifCond .le 41, 3) := by decide +kernel
theorem dX4_replay_64 : decode cX4_replay 64 = .ok (.aload_n 0, 1) := by decide +kernel
theorem dX4_replay_65 : decode cX4_replay 65 = .ok (.getfield 103, 3) := by decide +kernel
theorem dX4_replay_68 : decode cX4_replay 68 = .ok (.sipush 256, 3) := by decide +kernel
theorem dX4_replay_71 : decode cX4_replay 71 = .ok (.if_icmp .ne 7, 3) := by decide +kernel
theorem dX4_replay_74 : decode cX4_replay 74 = .ok (.iconst 1, 1) := by decide +kernel
theorem dX4_replay_75 : decode cX4_replay 75 = .ok (.iload_n 2, 1) := by decide +kernel
theorem dX4_replay_76 : decode cX4_replay 76 = .ok (.iadd, 1) := by decide +kernel
theorem dX4_replay_77 : decode cX4_replay 77 = .ok (.ireturn, 1) := by decide +kernel
theorem dX4_replay_78 : decode cX4_replay 78 = .ok (.aload_n 0, 1) := by decide +kernel
theorem dX4_replay_79 : decode cX4_replay 79 = .ok (.getfield 51, 3) := by decide +kernel
theorem dX4_replay_82 : decode cX4_replay 82 = .ok (.iload_n 2, 1) := by decide +kernel
theorem dX4_replay_83 : decode cX4_replay 83 = .ok (.aload_n 0, 1) := by decide +kernel
theorem dX4_replay_84 : decode cX4_replay 84 = .ok (.iload_n 3, 1) := by decide +kernel
theorem dX4_replay_85 : decode cX4_replay 85 = .ok (.invokevirtual 166, 3) := by decide +kernel
theorem dX4_replay_88 : decode cX4_replay 88 = .ok (.iastore, 1) := by decide +kernel
theorem dX4_replay_89 : decode cX4_replay 89 = .ok (.aload_n 0, 1) := by decide +kernel
theorem dX4_replay_90 : decode cX4_replay 90 = .ok (.getfield 51, 3) := by decide +kernel
theorem dX4_replay_93 : decode cX4_replay 93 = .ok (.iload_n 2, 1) := by decide +kernel
theorem dX4_replay_94 : decode cX4_replay 94 = .ok (.iaload, 1) := by decide +kernel
theorem dX4_replay_95 : decode cX4_replay 95 = .ok (.ifCond .ge 55, 3) := by decide +kernel
theorem dX4_replay_98 : decode cX4_replay 98 = .ok (.iconst 1, 1) := by decide +kernel
theorem dX4_replay_99 : decode cX4_replay 99 = .ok (.iload_n 2, 1) := by decide +kernel
theorem dX4_replay_100 : decode cX4_replay 100 = .ok (.iadd, 1) := by decide +kernel
theorem dX4_replay_101 : decode cX4_replay 101 = .ok (.ireturn, 1) := by decide +kernel
theorem dX4_replay_102 : decode cX4_replay 102 = .ok (.iconst (-1), 1) := by decide +kernel
theorem dX4_replay_103 : decode cX4_replay 103 = .ok (.iload_n 3, 1) := by decide +kernel
theorem dX4_replay_104 : decode cX4_replay 104 = .ok (.isub, 1) := by decide +kernel
theorem dX4_replay_105 : decode cX4_replay 105 = .ok (.istore 4, 2) := by decide +kernel
theorem dX4_replay_107 : decode cX4_replay 107 = .ok (.iload 4, 2) := by decide +kernel
theorem dX4_replay_109 : decode cX4_replay 109 = .ok (.iload_n 2, 1) := by decide +kernel
theorem dX4_replay_110 : decode cX4_replay 110 = .ok (.if_icmp .ge 13, 3) := by decide +kernel
theorem dX4_replay_113 : decode cX4_replay 113 = .ok (.aload_n 0, 1) := by decide +kernel
theorem dX4_replay_114 : decode cX4_replay 114 = .ok (.getfield 51, 3) := by decide +kernel
theorem dX4_replay_117 : decode cX4_replay 117 = .ok (.iload 4, 2) := by decide +kernel
theorem dX4_replay_119 : decode cX4_replay 119 = .ok (.iaload, 1) := by decide +kernel
theorem dX4_replay_120 : decode cX4_replay 120 = .ok (.ifCond .ge 7, 3) := by decide +kernel
theorem dX4_replay_123 : decode cX4_replay 123 = .ok (.iconst 1, 1) := by decide +kernel
theorem dX4_replay_124 : decode cX4_replay 124 = .ok (.iload_n 2, 1) := by decide +kernel
theorem dX4_replay_125 : decode cX4_replay 125 = .ok (.iadd, 1) := by decide +kernel
theorem dX4_replay_126 : decode cX4_replay 126 = .ok (.ireturn, 1) := by decide +kernel
theorem dX4_replay_127 : decode cX4_replay 127 = .ok (.aload_n 0, 1) := by decide +kernel
theorem dX4_replay_128 : decode cX4_replay 128 = .ok (.aload_n 0, 1) := by decide +kernel
theorem dX4_replay_129 : decode cX4_replay 129 = .ok (.aload_n 0, 1) := by decide +kernel
theorem dX4_replay_130 : decode cX4_replay 130 = .ok (.getfield 51, 3) := by decide +kernel
theorem dX4_replay_133 : decode cX4_replay 133 = .ok (.iload 4, 2) := by decide +kernel
theorem dX4_replay_135 : decode cX4_replay 135 = .ok (.iaload, 1) := by decide +kernel
theorem dX4_replay_136 : decode cX4_replay 136 = .ok (.invokevirtual 169, 3) := by decide +kernel
theorem dX4_replay_139 : decode cX4_replay 139 = .ok (.invokevirtual 172, 3) := by decide +kernel
theorem dX4_replay_142 : decode cX4_replay 142 = .ok (.aload_n 0, 1) := by decide +kernel
theorem dX4_replay_143 : decode cX4_replay 143 = .ok (.getfield 51, 3) := by decide +kernel
theorem dX4_replay_146 : decode cX4_replay 146 = .ok (.iload 4, 2) := by decide +kernel
theorem dX4_replay_148 : decode cX4_replay 148 = .ok (.iconst (-1), 1) := by decide +kernel
theorem dX4_replay_149 : decode cX4_replay 149 = .ok (.iastore, 1) := by decide +kernel
theorem dX4_replay_150 : decode cX4_replay 150 = .ok (.iinc 2 1, 3) := by decide +kernel
theorem dX4_replay_153 : decode cX4_replay 153 = .ok (.goto (-124), 3) := by decide +kernel
theorem dX4_replay_156 : decode cX4_replay 156 = .ok (.iconst 0, 1) := by decide +kernel
theorem dX4_replay_157 : decode cX4_replay 157 = .ok (.ireturn, 1) := by decide +kernel
theorem dJ6_numberOfTrailingZeros_0f7a4_0 : decode cJ6_numberOfTrailingZeros_0f7a4 0 = .ok (.iload_n 0, 1) := by decide +kernel
theorem dJ6_numberOfTrailingZeros_0f7a4_1 : decode cJ6_numberOfTrailingZeros_0f7a4 1 = .ok (.iconst (-1), 1) := by decide +kernel
theorem dJ6_numberOfTrailingZeros_0f7a4_2 : decode cJ6_numberOfTrailingZeros_0f7a4 2 = .ok (.ixor, 1) := by decide +kernel
theorem dJ6_numberOfTrailingZeros_0f7a4_3 : decode cJ6_numberOfTrailingZeros_0f7a4 3 = .ok (.iload_n 0, 1) := by decide +kernel
theorem dJ6_numberOfTrailingZeros_0f7a4_4 : decode cJ6_numberOfTrailingZeros_0f7a4 4 = .ok (.iconst 1, 1) := by decide +kernel
theorem dJ6_numberOfTrailingZeros_0f7a4_5 : decode cJ6_numberOfTrailingZeros_0f7a4 5 = .ok (.isub, 1) := by decide +kernel
theorem dJ6_numberOfTrailingZeros_0f7a4_6 : decode cJ6_numberOfTrailingZeros_0f7a4 6 = .ok (.iand, 1) := by decide +kernel
theorem dJ6_numberOfTrailingZeros_0f7a4_7 : decode cJ6_numberOfTrailingZeros_0f7a4 7 = .ok (.istore_n 0, 1) := by decide +kernel
theorem dJ6_numberOfTrailingZeros_0f7a4_8 : decode cJ6_numberOfTrailingZeros_0f7a4 8 = .ok (.iload_n 0, 1) := by decide +kernel
theorem dJ6_numberOfTrailingZeros_0f7a4_9 : decode cJ6_numberOfTrailingZeros_0f7a4 9 = .ok (.ifCond .gt 8, 3) := by decide +kernel
theorem dJ6_numberOfTrailingZeros_0f7a4_12 : decode cJ6_numberOfTrailingZeros_0f7a4 12 = .ok (.iload_n 0, 1) := by decide +kernel
theorem dJ6_numberOfTrailingZeros_0f7a4_13 : decode cJ6_numberOfTrailingZeros_0f7a4 13 = .ok (.bipush 32, 2) := by decide +kernel
theorem dJ6_numberOfTrailingZeros_0f7a4_15 : decode cJ6_numberOfTrailingZeros_0f7a4 15 = .ok (.iand, 1) := by decide +kernel
theorem dJ6_numberOfTrailingZeros_0f7a4_16 : decode cJ6_numberOfTrailingZeros_0f7a4 16 = .ok (.ireturn, 1) := by decide +kernel
theorem dJ6_numberOfTrailingZeros_0f7a4_17 : decode cJ6_numberOfTrailingZeros_0f7a4 17 = .ok (.iconst 1, 1) := by decide +kernel
theorem dJ6_numberOfTrailingZeros_0f7a4_18 : decode cJ6_numberOfTrailingZeros_0f7a4 18 = .ok (.istore_n 1, 1) := by decide +kernel
theorem dJ6_numberOfTrailingZeros_0f7a4_19 : decode cJ6_numberOfTrailingZeros_0f7a4 19 = .ok (.iload_n 0, 1) := by decide +kernel
theorem dJ6_numberOfTrailingZeros_0f7a4_20 : decode cJ6_numberOfTrailingZeros_0f7a4 20 = .ok (.ldc_w 264, 3) := by decide +kernel
theorem dJ6_numberOfTrailingZeros_0f7a4_23 : decode cJ6_numberOfTrailingZeros_0f7a4 23 = .ok (.if_icmp .le 11, 3) := by decide +kernel
theorem dJ6_numberOfTrailingZeros_0f7a4_26 : decode cJ6_numberOfTrailingZeros_0f7a4 26 = .ok (.iinc 1 16, 3) := by decide +kernel
theorem dJ6_numberOfTrailingZeros_0f7a4_29 : decode cJ6_numberOfTrailingZeros_0f7a4 29 = .ok (.iload_n 0, 1) := by decide +kernel
theorem dJ6_numberOfTrailingZeros_0f7a4_30 : decode cJ6_numberOfTrailingZeros_0f7a4 30 = .ok (.bipush 16, 2) := by decide +kernel
theorem dJ6_numberOfTrailingZeros_0f7a4_32 : decode cJ6_numberOfTrailingZeros_0f7a4 32 = .ok (.iushr, 1) := by decide +kernel
theorem dJ6_numberOfTrailingZeros_0f7a4_33 : decode cJ6_numberOfTrailingZeros_0f7a4 33 = .ok (.istore_n 0, 1) := by decide +kernel
theorem dJ6_numberOfTrailingZeros_0f7a4_34 : decode cJ6_numberOfTrailingZeros_0f7a4 34 = .ok (.iload_n 0, 1) := by decide +kernel
theorem dJ6_numberOfTrailingZeros_0f7a4_35 : decode cJ6_numberOfTrailingZeros_0f7a4 35 = .ok (.sipush 256, 3) := by decide +kernel
theorem dJ6_numberOfTrailingZeros_0f7a4_38 : decode cJ6_numberOfTrailingZeros_0f7a4 38 = .ok (.if_icmp .le 11, 3) := by decide +kernel
theorem dJ6_numberOfTrailingZeros_0f7a4_41 : decode cJ6_numberOfTrailingZeros_0f7a4 41 = .ok (.iinc 1 8, 3) := by decide +kernel
theorem dJ6_numberOfTrailingZeros_0f7a4_44 : decode cJ6_numberOfTrailingZeros_0f7a4 44 = .ok (.iload_n 0, 1) := by decide +kernel
theorem dJ6_numberOfTrailingZeros_0f7a4_45 : decode cJ6_numberOfTrailingZeros_0f7a4 45 = .ok (.bipush 8, 2) := by decide +kernel
theorem dJ6_numberOfTrailingZeros_0f7a4_47 : decode cJ6_numberOfTrailingZeros_0f7a4 47 = .ok (.iushr, 1) := by decide +kernel
theorem dJ6_numberOfTrailingZeros_0f7a4_48 : decode cJ6_numberOfTrailingZeros_0f7a4 48 = .ok (.istore_n 0, 1) := by decide +kernel
theorem dJ6_numberOfTrailingZeros_0f7a4_49 : decode cJ6_numberOfTrailingZeros_0f7a4 49 = .ok (.iload_n 0, 1) := by decide +kernel
theorem dJ6_numberOfTrailingZeros_0f7a4_50 : decode cJ6_numberOfTrailingZeros_0f7a4 50 = .ok (.bipush 16, 2) := by decide +kernel
theorem dJ6_numberOfTrailingZeros_0f7a4_52 : decode cJ6_numberOfTrailingZeros_0f7a4 52 = .ok (.if_icmp .le 10, 3) := by decide +kernel
theorem dJ6_numberOfTrailingZeros_0f7a4_55 : decode cJ6_numberOfTrailingZeros_0f7a4 55 = .ok (.iinc 1 4, 3) := by decide +kernel
theorem dJ6_numberOfTrailingZeros_0f7a4_58 : decode cJ6_numberOfTrailingZeros_0f7a4 58 = .ok (.iload_n 0, 1) := by decide +kernel
theorem dJ6_numberOfTrailingZeros_0f7a4_59 : decode cJ6_numberOfTrailingZeros_0f7a4 59 = .ok (.iconst 4, 1) := by decide +kernel
theorem dJ6_numberOfTrailingZeros_0f7a4_60 : decode cJ6_numberOfTrailingZeros_0f7a4 60 = .ok (.iushr, 1) := by decide +kernel
theorem dJ6_numberOfTrailingZeros_0f7a4_61 : decode cJ6_numberOfTrailingZeros_0f7a4 61 = .ok (.istore_n 0, 1) := by decide +kernel
theorem dJ6_numberOfTrailingZeros_0f7a4_62 : decode cJ6_numberOfTrailingZeros_0f7a4 62 = .ok (.iload_n 0, 1) := by decide +kernel
theorem dJ6_numberOfTrailingZeros_0f7a4_63 : decode cJ6_numberOfTrailingZeros_0f7a4 63 = .ok (.iconst 4, 1) := by decide +kernel
theorem dJ6_numberOfTrailingZeros_0f7a4_64 : decode cJ6_numberOfTrailingZeros_0f7a4 64 = .ok (.if_icmp .le 10, 3) := by decide +kernel
theorem dJ6_numberOfTrailingZeros_0f7a4_67 : decode cJ6_numberOfTrailingZeros_0f7a4 67 = .ok (.iinc 1 2, 3) := by decide +kernel
theorem dJ6_numberOfTrailingZeros_0f7a4_70 : decode cJ6_numberOfTrailingZeros_0f7a4 70 = .ok (.iload_n 0, 1) := by decide +kernel
theorem dJ6_numberOfTrailingZeros_0f7a4_71 : decode cJ6_numberOfTrailingZeros_0f7a4 71 = .ok (.iconst 2, 1) := by decide +kernel
theorem dJ6_numberOfTrailingZeros_0f7a4_72 : decode cJ6_numberOfTrailingZeros_0f7a4 72 = .ok (.iushr, 1) := by decide +kernel
theorem dJ6_numberOfTrailingZeros_0f7a4_73 : decode cJ6_numberOfTrailingZeros_0f7a4 73 = .ok (.istore_n 0, 1) := by decide +kernel
theorem dJ6_numberOfTrailingZeros_0f7a4_74 : decode cJ6_numberOfTrailingZeros_0f7a4 74 = .ok (.iload_n 1, 1) := by decide +kernel
theorem dJ6_numberOfTrailingZeros_0f7a4_75 : decode cJ6_numberOfTrailingZeros_0f7a4 75 = .ok (.iload_n 0, 1) := by decide +kernel
theorem dJ6_numberOfTrailingZeros_0f7a4_76 : decode cJ6_numberOfTrailingZeros_0f7a4 76 = .ok (.iconst 1, 1) := by decide +kernel
theorem dJ6_numberOfTrailingZeros_0f7a4_77 : decode cJ6_numberOfTrailingZeros_0f7a4 77 = .ok (.iushr, 1) := by decide +kernel
theorem dJ6_numberOfTrailingZeros_0f7a4_78 : decode cJ6_numberOfTrailingZeros_0f7a4 78 = .ok (.iadd, 1) := by decide +kernel
theorem dJ6_numberOfTrailingZeros_0f7a4_79 : decode cJ6_numberOfTrailingZeros_0f7a4 79 = .ok (.ireturn, 1) := by decide +kernel
theorem dJ6_bitCount_0f7a4_0 : decode cJ6_bitCount_0f7a4 0 = .ok (.iload_n 0, 1) := by decide +kernel
theorem dJ6_bitCount_0f7a4_1 : decode cJ6_bitCount_0f7a4 1 = .ok (.iload_n 0, 1) := by decide +kernel
theorem dJ6_bitCount_0f7a4_2 : decode cJ6_bitCount_0f7a4 2 = .ok (.iconst 1, 1) := by decide +kernel
theorem dJ6_bitCount_0f7a4_3 : decode cJ6_bitCount_0f7a4 3 = .ok (.iushr, 1) := by decide +kernel
theorem dJ6_bitCount_0f7a4_4 : decode cJ6_bitCount_0f7a4 4 = .ok (.ldc_w 265, 3) := by decide +kernel
theorem dJ6_bitCount_0f7a4_7 : decode cJ6_bitCount_0f7a4 7 = .ok (.iand, 1) := by decide +kernel
theorem dJ6_bitCount_0f7a4_8 : decode cJ6_bitCount_0f7a4 8 = .ok (.isub, 1) := by decide +kernel
theorem dJ6_bitCount_0f7a4_9 : decode cJ6_bitCount_0f7a4 9 = .ok (.istore_n 0, 1) := by decide +kernel
theorem dJ6_bitCount_0f7a4_10 : decode cJ6_bitCount_0f7a4 10 = .ok (.iload_n 0, 1) := by decide +kernel
theorem dJ6_bitCount_0f7a4_11 : decode cJ6_bitCount_0f7a4 11 = .ok (.ldc_w 266, 3) := by decide +kernel
theorem dJ6_bitCount_0f7a4_14 : decode cJ6_bitCount_0f7a4 14 = .ok (.iand, 1) := by decide +kernel
theorem dJ6_bitCount_0f7a4_15 : decode cJ6_bitCount_0f7a4 15 = .ok (.iload_n 0, 1) := by decide +kernel
theorem dJ6_bitCount_0f7a4_16 : decode cJ6_bitCount_0f7a4 16 = .ok (.iconst 2, 1) := by decide +kernel
theorem dJ6_bitCount_0f7a4_17 : decode cJ6_bitCount_0f7a4 17 = .ok (.iushr, 1) := by decide +kernel
theorem dJ6_bitCount_0f7a4_18 : decode cJ6_bitCount_0f7a4 18 = .ok (.ldc_w 266, 3) := by decide +kernel
theorem dJ6_bitCount_0f7a4_21 : decode cJ6_bitCount_0f7a4 21 = .ok (.iand, 1) := by decide +kernel
theorem dJ6_bitCount_0f7a4_22 : decode cJ6_bitCount_0f7a4 22 = .ok (.iadd, 1) := by decide +kernel
theorem dJ6_bitCount_0f7a4_23 : decode cJ6_bitCount_0f7a4 23 = .ok (.istore_n 0, 1) := by decide +kernel
theorem dJ6_bitCount_0f7a4_24 : decode cJ6_bitCount_0f7a4 24 = .ok (.iload_n 0, 1) := by decide +kernel
theorem dJ6_bitCount_0f7a4_25 : decode cJ6_bitCount_0f7a4 25 = .ok (.iload_n 0, 1) := by decide +kernel
theorem dJ6_bitCount_0f7a4_26 : decode cJ6_bitCount_0f7a4 26 = .ok (.iconst 4, 1) := by decide +kernel
theorem dJ6_bitCount_0f7a4_27 : decode cJ6_bitCount_0f7a4 27 = .ok (.iushr, 1) := by decide +kernel
theorem dJ6_bitCount_0f7a4_28 : decode cJ6_bitCount_0f7a4 28 = .ok (.iadd, 1) := by decide +kernel
theorem dJ6_bitCount_0f7a4_29 : decode cJ6_bitCount_0f7a4 29 = .ok (.ldc_w 267, 3) := by decide +kernel
theorem dJ6_bitCount_0f7a4_32 : decode cJ6_bitCount_0f7a4 32 = .ok (.iand, 1) := by decide +kernel
theorem dJ6_bitCount_0f7a4_33 : decode cJ6_bitCount_0f7a4 33 = .ok (.istore_n 0, 1) := by decide +kernel
theorem dJ6_bitCount_0f7a4_34 : decode cJ6_bitCount_0f7a4 34 = .ok (.iload_n 0, 1) := by decide +kernel
theorem dJ6_bitCount_0f7a4_35 : decode cJ6_bitCount_0f7a4 35 = .ok (.iload_n 0, 1) := by decide +kernel
theorem dJ6_bitCount_0f7a4_36 : decode cJ6_bitCount_0f7a4 36 = .ok (.bipush 8, 2) := by decide +kernel
theorem dJ6_bitCount_0f7a4_38 : decode cJ6_bitCount_0f7a4 38 = .ok (.iushr, 1) := by decide +kernel
theorem dJ6_bitCount_0f7a4_39 : decode cJ6_bitCount_0f7a4 39 = .ok (.iadd, 1) := by decide +kernel
theorem dJ6_bitCount_0f7a4_40 : decode cJ6_bitCount_0f7a4 40 = .ok (.istore_n 0, 1) := by decide +kernel
theorem dJ6_bitCount_0f7a4_41 : decode cJ6_bitCount_0f7a4 41 = .ok (.iload_n 0, 1) := by decide +kernel
theorem dJ6_bitCount_0f7a4_42 : decode cJ6_bitCount_0f7a4 42 = .ok (.iload_n 0, 1) := by decide +kernel
theorem dJ6_bitCount_0f7a4_43 : decode cJ6_bitCount_0f7a4 43 = .ok (.bipush 16, 2) := by decide +kernel
theorem dJ6_bitCount_0f7a4_45 : decode cJ6_bitCount_0f7a4 45 = .ok (.iushr, 1) := by decide +kernel
theorem dJ6_bitCount_0f7a4_46 : decode cJ6_bitCount_0f7a4 46 = .ok (.iadd, 1) := by decide +kernel
theorem dJ6_bitCount_0f7a4_47 : decode cJ6_bitCount_0f7a4 47 = .ok (.istore_n 0, 1) := by decide +kernel
theorem dJ6_bitCount_0f7a4_48 : decode cJ6_bitCount_0f7a4 48 = .ok (.iload_n 0, 1) := by decide +kernel
theorem dJ6_bitCount_0f7a4_49 : decode cJ6_bitCount_0f7a4 49 = .ok (.bipush 63, 2) := by decide +kernel
theorem dJ6_bitCount_0f7a4_51 : decode cJ6_bitCount_0f7a4 51 = .ok (.iand, 1) := by decide +kernel
theorem dJ6_bitCount_0f7a4_52 : decode cJ6_bitCount_0f7a4 52 = .ok (.ireturn, 1) := by decide +kernel
theorem dJ9_max_7cf53_0 : decode cJ9_max_7cf53 0 = .ok (.iload_n 0, 1) := by decide +kernel
theorem dJ9_max_7cf53_1 : decode cJ9_max_7cf53 1 = .ok (.iload_n 1, 1) := by decide +kernel
theorem dJ9_max_7cf53_2 : decode cJ9_max_7cf53 2 = .ok (.if_icmp .lt 7, 3) := by decide +kernel
theorem dJ9_max_7cf53_5 : decode cJ9_max_7cf53 5 = .ok (.iload_n 0, 1) := by decide +kernel
theorem dJ9_max_7cf53_6 : decode cJ9_max_7cf53 6 = .ok (.goto 4, 3) := by decide +kernel
theorem dJ9_max_7cf53_9 : decode cJ9_max_7cf53 9 = .ok (.iload_n 1, 1) := by decide +kernel
theorem dJ9_max_7cf53_10 : decode cJ9_max_7cf53 10 = .ok (.ireturn, 1) := by decide +kernel
theorem dJ9_min_7cf53_0 : decode cJ9_min_7cf53 0 = .ok (.iload_n 0, 1) := by decide +kernel
theorem dJ9_min_7cf53_1 : decode cJ9_min_7cf53 1 = .ok (.iload_n 1, 1) := by decide +kernel
theorem dJ9_min_7cf53_2 : decode cJ9_min_7cf53 2 = .ok (.if_icmp .gt 7, 3) := by decide +kernel
theorem dJ9_min_7cf53_5 : decode cJ9_min_7cf53 5 = .ok (.iload_n 0, 1) := by decide +kernel
theorem dJ9_min_7cf53_6 : decode cJ9_min_7cf53 6 = .ok (.goto 4, 3) := by decide +kernel
theorem dJ9_min_7cf53_9 : decode cJ9_min_7cf53 9 = .ok (.iload_n 1, 1) := by decide +kernel
theorem dJ9_min_7cf53_10 : decode cJ9_min_7cf53 10 = .ok (.ireturn, 1) := by decide +kernel
theorem dJ7_fill_53178_0 : decode cJ7_fill_53178 0 = .ok (.iconst 0, 1) := by decide +kernel
theorem dJ7_fill_53178_1 : decode cJ7_fill_53178 1 = .ok (.istore_n 2, 1) := by decide +kernel
theorem dJ7_fill_53178_2 : decode cJ7_fill_53178 2 = .ok (.aload_n 0, 1) := by decide +kernel
theorem dJ7_fill_53178_3 : decode cJ7_fill_53178 3 = .ok (.arraylength, 1) := by decide +kernel
theorem dJ7_fill_53178_4 : decode cJ7_fill_53178 4 = .ok (.istore_n 3, 1) := by decide +kernel
theorem dJ7_fill_53178_5 : decode cJ7_fill_53178 5 = .ok (.iload_n 2, 1) := by decide +kernel
theorem dJ7_fill_53178_6 : decode cJ7_fill_53178 6 = .ok (.iload_n 3, 1) := by decide +kernel
theorem dJ7_fill_53178_7 : decode cJ7_fill_53178 7 = .ok (.if_icmp .ge 13, 3) := by decide +kernel
theorem dJ7_fill_53178_10 : decode cJ7_fill_53178 10 = .ok (.aload_n 0, 1) := by decide +kernel
theorem dJ7_fill_53178_11 : decode cJ7_fill_53178 11 = .ok (.iload_n 2, 1) := by decide +kernel
theorem dJ7_fill_53178_12 : decode cJ7_fill_53178 12 = .ok (.iload_n 1, 1) := by decide +kernel
theorem dJ7_fill_53178_13 : decode cJ7_fill_53178 13 = .ok (.iastore, 1) := by decide +kernel
theorem dJ7_fill_53178_14 : decode cJ7_fill_53178 14 = .ok (.iinc 2 1, 3) := by decide +kernel
theorem dJ7_fill_53178_17 : decode cJ7_fill_53178 17 = .ok (.goto (-12), 3) := by decide +kernel
theorem dJ7_fill_53178_20 : decode cJ7_fill_53178 20 = .ok (.return_, 1) := by decide +kernel
theorem dJ7_copyOf_59c91_0 : decode cJ7_copyOf_59c91 0 = .ok (.iload_n 1, 1) := by decide +kernel
theorem dJ7_copyOf_59c91_1 : decode cJ7_copyOf_59c91 1 = .ok (.aload_n 0, 1) := by decide +kernel
theorem dJ7_copyOf_59c91_2 : decode cJ7_copyOf_59c91 2 = .ok (.arraylength, 1) := by decide +kernel
theorem dJ7_copyOf_59c91_3 : decode cJ7_copyOf_59c91 3 = .ok (.if_icmp .ne 11, 3) := by decide +kernel
theorem dJ7_copyOf_59c91_6 : decode cJ7_copyOf_59c91 6 = .ok (.aload_n 0, 1) := by decide +kernel
theorem dJ7_copyOf_59c91_7 : decode cJ7_copyOf_59c91 7 = .ok (.invokevirtual 316, 3) := by decide +kernel
theorem dJ7_copyOf_59c91_10 : decode cJ7_copyOf_59c91 10 = .ok (.checkcast 317, 3) := by decide +kernel
theorem dJ7_copyOf_59c91_13 : decode cJ7_copyOf_59c91 13 = .ok (.areturn, 1) := by decide +kernel
theorem dJ7_copyOf_59c91_14 : decode cJ7_copyOf_59c91 14 = .ok (.iload_n 1, 1) := by decide +kernel
theorem dJ7_copyOf_59c91_15 : decode cJ7_copyOf_59c91 15 = .ok (.newarray .int, 2) := by decide +kernel
theorem dJ7_copyOf_59c91_17 : decode cJ7_copyOf_59c91 17 = .ok (.astore_n 2, 1) := by decide +kernel
theorem dJ7_copyOf_59c91_18 : decode cJ7_copyOf_59c91 18 = .ok (.aload_n 0, 1) := by decide +kernel
theorem dJ7_copyOf_59c91_19 : decode cJ7_copyOf_59c91 19 = .ok (.iconst 0, 1) := by decide +kernel
theorem dJ7_copyOf_59c91_20 : decode cJ7_copyOf_59c91 20 = .ok (.aload_n 2, 1) := by decide +kernel
theorem dJ7_copyOf_59c91_21 : decode cJ7_copyOf_59c91 21 = .ok (.iconst 0, 1) := by decide +kernel
theorem dJ7_copyOf_59c91_22 : decode cJ7_copyOf_59c91 22 = .ok (.aload_n 0, 1) := by decide +kernel
theorem dJ7_copyOf_59c91_23 : decode cJ7_copyOf_59c91 23 = .ok (.arraylength, 1) := by decide +kernel
theorem dJ7_copyOf_59c91_24 : decode cJ7_copyOf_59c91 24 = .ok (.iload_n 1, 1) := by decide +kernel
theorem dJ7_copyOf_59c91_25 : decode cJ7_copyOf_59c91 25 = .ok (.invokestatic 304, 3) := by decide +kernel
theorem dJ7_copyOf_59c91_28 : decode cJ7_copyOf_59c91 28 = .ok (.invokestatic 150, 3) := by decide +kernel
theorem dJ7_copyOf_59c91_31 : decode cJ7_copyOf_59c91 31 = .ok (.aload_n 2, 1) := by decide +kernel
theorem dJ7_copyOf_59c91_32 : decode cJ7_copyOf_59c91 32 = .ok (.areturn, 1) := by decide +kernel
theorem dL_row_0 : decode cL_row 0 = .ok (.aload_n 0, 1) := by decide +kernel
theorem dL_row_1 : decode cL_row 1 = .ok (.iload_n 1, 1) := by decide +kernel
theorem dL_row_2 : decode cL_row 2 = .ok (.iload_n 2, 1) := by decide +kernel
theorem dL_row_3 : decode cL_row 3 = .ok (.iload_n 3, 1) := by decide +kernel
theorem dL_row_4 : decode cL_row 4 = .ok (.iload 4, 2) := by decide +kernel
theorem dL_row_6 : decode cL_row 6 = .ok (.invokevirtual 7, 3) := by decide +kernel
theorem dL_row_9 : decode cL_row 9 = .ok (.goto 7, 3) := by decide +kernel
theorem dL_row_12 : decode cL_row 12 = .ok (.astore 5, 2) := by decide +kernel
theorem dL_row_14 : decode cL_row 14 = .ok (.iconst 1, 1) := by decide +kernel
theorem dL_row_15 : decode cL_row 15 = .ok (.ireturn, 1) := by decide +kernel
theorem dL_row_16 : decode cL_row 16 = .ok (.iconst 0, 1) := by decide +kernel
theorem dL_row_17 : decode cL_row 17 = .ok (.ireturn, 1) := by decide +kernel
theorem dL_family_0 : decode cL_family 0 = .ok (.aload_n 0, 1) := by decide +kernel
theorem dL_family_1 : decode cL_family 1 = .ok (.iload_n 1, 1) := by decide +kernel
theorem dL_family_2 : decode cL_family 2 = .ok (.iload_n 2, 1) := by decide +kernel
theorem dL_family_3 : decode cL_family 3 = .ok (.iload_n 3, 1) := by decide +kernel
theorem dL_family_4 : decode cL_family 4 = .ok (.iload 4, 2) := by decide +kernel
theorem dL_family_6 : decode cL_family 6 = .ok (.invokevirtual 15, 3) := by decide +kernel
theorem dL_family_9 : decode cL_family 9 = .ok (.goto 7, 3) := by decide +kernel
theorem dL_family_12 : decode cL_family 12 = .ok (.astore 5, 2) := by decide +kernel
theorem dL_family_14 : decode cL_family 14 = .ok (.iconst 1, 1) := by decide +kernel
theorem dL_family_15 : decode cL_family 15 = .ok (.ireturn, 1) := by decide +kernel
theorem dL_family_16 : decode cL_family 16 = .ok (.iconst 0, 1) := by decide +kernel
theorem dL_family_17 : decode cL_family 17 = .ok (.ireturn, 1) := by decide +kernel
theorem dL_build_0 : decode cL_build 0 = .ok (.aload_n 2, 1) := by decide +kernel
theorem dL_build_1 : decode cL_build 1 = .ok (.iconst 0, 1) := by decide +kernel
theorem dL_build_2 : decode cL_build 2 = .ok (.aload_n 0, 1) := by decide +kernel
theorem dL_build_3 : decode cL_build 3 = .ok (.iload_n 1, 1) := by decide +kernel
theorem dL_build_4 : decode cL_build 4 = .ok (.invokevirtual 18, 3) := by decide +kernel
theorem dL_build_7 : decode cL_build 7 = .ok (.i2l, 1) := by decide +kernel
theorem dL_build_8 : decode cL_build 8 = .ok (.lastore, 1) := by decide +kernel
theorem dL_build_9 : decode cL_build 9 = .ok (.goto 6, 3) := by decide +kernel
theorem dL_build_12 : decode cL_build 12 = .ok (.astore_n 3, 1) := by decide +kernel
theorem dL_build_13 : decode cL_build 13 = .ok (.iconst 1, 1) := by decide +kernel
theorem dL_build_14 : decode cL_build 14 = .ok (.ireturn, 1) := by decide +kernel
theorem dL_build_15 : decode cL_build 15 = .ok (.iconst 0, 1) := by decide +kernel
theorem dL_build_16 : decode cL_build 16 = .ok (.ireturn, 1) := by decide +kernel
theorem dL_give_0 : decode cL_give 0 = .ok (.aload_n 2, 1) := by decide +kernel
theorem dL_give_1 : decode cL_give 1 = .ok (.iconst 0, 1) := by decide +kernel
theorem dL_give_2 : decode cL_give 2 = .ok (.aload_n 0, 1) := by decide +kernel
theorem dL_give_3 : decode cL_give 3 = .ok (.iload_n 1, 1) := by decide +kernel
theorem dL_give_4 : decode cL_give 4 = .ok (.invokevirtual 22, 3) := by decide +kernel
theorem dL_give_7 : decode cL_give 7 = .ok (.i2l, 1) := by decide +kernel
theorem dL_give_8 : decode cL_give 8 = .ok (.lastore, 1) := by decide +kernel
theorem dL_give_9 : decode cL_give 9 = .ok (.goto 9, 3) := by decide +kernel
theorem dL_give_12 : decode cL_give 12 = .ok (.astore_n 3, 1) := by decide +kernel
theorem dL_give_13 : decode cL_give 13 = .ok (.iconst 1, 1) := by decide +kernel
theorem dL_give_14 : decode cL_give 14 = .ok (.ireturn, 1) := by decide +kernel
theorem dL_give_15 : decode cL_give 15 = .ok (.astore_n 3, 1) := by decide +kernel
theorem dL_give_16 : decode cL_give 16 = .ok (.iconst 2, 1) := by decide +kernel
theorem dL_give_17 : decode cL_give 17 = .ok (.ireturn, 1) := by decide +kernel
theorem dL_give_18 : decode cL_give 18 = .ok (.iconst 0, 1) := by decide +kernel
theorem dL_give_19 : decode cL_give 19 = .ok (.ireturn, 1) := by decide +kernel
theorem dL_free_0 : decode cL_free 0 = .ok (.aload_n 0, 1) := by decide +kernel
theorem dL_free_1 : decode cL_free 1 = .ok (.iload_n 1, 1) := by decide +kernel
theorem dL_free_2 : decode cL_free 2 = .ok (.invokevirtual 27, 3) := by decide +kernel
theorem dL_free_5 : decode cL_free 5 = .ok (.goto 9, 3) := by decide +kernel
theorem dL_free_8 : decode cL_free 8 = .ok (.astore_n 2, 1) := by decide +kernel
theorem dL_free_9 : decode cL_free 9 = .ok (.iconst 1, 1) := by decide +kernel
theorem dL_free_10 : decode cL_free 10 = .ok (.ireturn, 1) := by decide +kernel
theorem dL_free_11 : decode cL_free 11 = .ok (.astore_n 2, 1) := by decide +kernel
theorem dL_free_12 : decode cL_free 12 = .ok (.iconst 2, 1) := by decide +kernel
theorem dL_free_13 : decode cL_free 13 = .ok (.ireturn, 1) := by decide +kernel
theorem dL_free_14 : decode cL_free 14 = .ok (.iconst 0, 1) := by decide +kernel
theorem dL_free_15 : decode cL_free 15 = .ok (.ireturn, 1) := by decide +kernel
theorem dL_change_0 : decode cL_change 0 = .ok (.aload_n 3, 1) := by decide +kernel
theorem dL_change_1 : decode cL_change 1 = .ok (.iconst 0, 1) := by decide +kernel
theorem dL_change_2 : decode cL_change 2 = .ok (.aload_n 0, 1) := by decide +kernel
theorem dL_change_3 : decode cL_change 3 = .ok (.iload_n 1, 1) := by decide +kernel
theorem dL_change_4 : decode cL_change 4 = .ok (.iload_n 2, 1) := by decide +kernel
theorem dL_change_5 : decode cL_change 5 = .ok (.invokevirtual 31, 3) := by decide +kernel
theorem dL_change_8 : decode cL_change 8 = .ok (.i2l, 1) := by decide +kernel
theorem dL_change_9 : decode cL_change 9 = .ok (.lastore, 1) := by decide +kernel
theorem dL_change_10 : decode cL_change 10 = .ok (.goto 11, 3) := by decide +kernel
theorem dL_change_13 : decode cL_change 13 = .ok (.astore 4, 2) := by decide +kernel
theorem dL_change_15 : decode cL_change 15 = .ok (.iconst 1, 1) := by decide +kernel
theorem dL_change_16 : decode cL_change 16 = .ok (.ireturn, 1) := by decide +kernel
theorem dL_change_17 : decode cL_change 17 = .ok (.astore 4, 2) := by decide +kernel
theorem dL_change_19 : decode cL_change 19 = .ok (.iconst 2, 1) := by decide +kernel
theorem dL_change_20 : decode cL_change 20 = .ok (.ireturn, 1) := by decide +kernel
theorem dL_change_21 : decode cL_change 21 = .ok (.iconst 0, 1) := by decide +kernel
theorem dL_change_22 : decode cL_change 22 = .ok (.ireturn, 1) := by decide +kernel
theorem dL_block_0 : decode cL_block 0 = .ok (.aload_n 3, 1) := by decide +kernel
theorem dL_block_1 : decode cL_block 1 = .ok (.iconst 0, 1) := by decide +kernel
theorem dL_block_2 : decode cL_block 2 = .ok (.aload_n 0, 1) := by decide +kernel
theorem dL_block_3 : decode cL_block 3 = .ok (.iload_n 1, 1) := by decide +kernel
theorem dL_block_4 : decode cL_block 4 = .ok (.iload_n 2, 1) := by decide +kernel
theorem dL_block_5 : decode cL_block 5 = .ok (.invokevirtual 35, 3) := by decide +kernel
theorem dL_block_8 : decode cL_block 8 = .ok (.i2l, 1) := by decide +kernel
theorem dL_block_9 : decode cL_block 9 = .ok (.lastore, 1) := by decide +kernel
theorem dL_block_10 : decode cL_block 10 = .ok (.goto 11, 3) := by decide +kernel
theorem dL_block_13 : decode cL_block 13 = .ok (.astore 4, 2) := by decide +kernel
theorem dL_block_15 : decode cL_block 15 = .ok (.iconst 1, 1) := by decide +kernel
theorem dL_block_16 : decode cL_block 16 = .ok (.ireturn, 1) := by decide +kernel
theorem dL_block_17 : decode cL_block 17 = .ok (.astore 4, 2) := by decide +kernel
theorem dL_block_19 : decode cL_block 19 = .ok (.iconst 2, 1) := by decide +kernel
theorem dL_block_20 : decode cL_block 20 = .ok (.ireturn, 1) := by decide +kernel
theorem dL_block_21 : decode cL_block 21 = .ok (.iconst 0, 1) := by decide +kernel
theorem dL_block_22 : decode cL_block 22 = .ok (.ireturn, 1) := by decide +kernel
theorem dL_path_0 : decode cL_path 0 = .ok (.aload_n 3, 1) := by decide +kernel
theorem dL_path_1 : decode cL_path 1 = .ok (.iconst 0, 1) := by decide +kernel
theorem dL_path_2 : decode cL_path 2 = .ok (.aload_n 0, 1) := by decide +kernel
theorem dL_path_3 : decode cL_path 3 = .ok (.iload_n 1, 1) := by decide +kernel
theorem dL_path_4 : decode cL_path 4 = .ok (.iload_n 2, 1) := by decide +kernel
theorem dL_path_5 : decode cL_path 5 = .ok (.invokevirtual 38, 3) := by decide +kernel
theorem dL_path_8 : decode cL_path 8 = .ok (.i2l, 1) := by decide +kernel
theorem dL_path_9 : decode cL_path 9 = .ok (.lastore, 1) := by decide +kernel
theorem dL_path_10 : decode cL_path 10 = .ok (.goto 11, 3) := by decide +kernel
theorem dL_path_13 : decode cL_path 13 = .ok (.astore 4, 2) := by decide +kernel
theorem dL_path_15 : decode cL_path 15 = .ok (.iconst 1, 1) := by decide +kernel
theorem dL_path_16 : decode cL_path 16 = .ok (.ireturn, 1) := by decide +kernel
theorem dL_path_17 : decode cL_path 17 = .ok (.astore 4, 2) := by decide +kernel
theorem dL_path_19 : decode cL_path 19 = .ok (.iconst 2, 1) := by decide +kernel
theorem dL_path_20 : decode cL_path 20 = .ok (.ireturn, 1) := by decide +kernel
theorem dL_path_21 : decode cL_path 21 = .ok (.iconst 0, 1) := by decide +kernel
theorem dL_path_22 : decode cL_path 22 = .ok (.ireturn, 1) := by decide +kernel
theorem dL_keep_0 : decode cL_keep 0 = .ok (.aload_n 0, 1) := by decide +kernel
theorem dL_keep_1 : decode cL_keep 1 = .ok (.iload_n 1, 1) := by decide +kernel
theorem dL_keep_2 : decode cL_keep 2 = .ok (.iload_n 2, 1) := by decide +kernel
theorem dL_keep_3 : decode cL_keep 3 = .ok (.invokevirtual 41, 3) := by decide +kernel
theorem dL_keep_6 : decode cL_keep 6 = .ok (.goto 9, 3) := by decide +kernel
theorem dL_keep_9 : decode cL_keep 9 = .ok (.astore_n 3, 1) := by decide +kernel
theorem dL_keep_10 : decode cL_keep 10 = .ok (.iconst 1, 1) := by decide +kernel
theorem dL_keep_11 : decode cL_keep 11 = .ok (.ireturn, 1) := by decide +kernel
theorem dL_keep_12 : decode cL_keep 12 = .ok (.astore_n 3, 1) := by decide +kernel
theorem dL_keep_13 : decode cL_keep 13 = .ok (.iconst 2, 1) := by decide +kernel
theorem dL_keep_14 : decode cL_keep 14 = .ok (.ireturn, 1) := by decide +kernel
theorem dL_keep_15 : decode cL_keep 15 = .ok (.iconst 0, 1) := by decide +kernel
theorem dL_keep_16 : decode cL_keep 16 = .ok (.ireturn, 1) := by decide +kernel
theorem dL_join_0 : decode cL_join 0 = .ok (.aload_n 1, 1) := by decide +kernel
theorem dL_join_1 : decode cL_join 1 = .ok (.iconst 0, 1) := by decide +kernel
theorem dL_join_2 : decode cL_join 2 = .ok (.aload_n 0, 1) := by decide +kernel
theorem dL_join_3 : decode cL_join 3 = .ok (.invokevirtual 45, 3) := by decide +kernel
theorem dL_join_6 : decode cL_join 6 = .ok (.i2l, 1) := by decide +kernel
theorem dL_join_7 : decode cL_join 7 = .ok (.lastore, 1) := by decide +kernel
theorem dL_join_8 : decode cL_join 8 = .ok (.goto 6, 3) := by decide +kernel
theorem dL_join_11 : decode cL_join 11 = .ok (.astore_n 2, 1) := by decide +kernel
theorem dL_join_12 : decode cL_join 12 = .ok (.iconst 1, 1) := by decide +kernel
theorem dL_join_13 : decode cL_join 13 = .ok (.ireturn, 1) := by decide +kernel
theorem dL_join_14 : decode cL_join 14 = .ok (.iconst 0, 1) := by decide +kernel
theorem dL_join_15 : decode cL_join 15 = .ok (.ireturn, 1) := by decide +kernel
theorem dL_nodes_0 : decode cL_nodes 0 = .ok (.aload_n 3, 1) := by decide +kernel
theorem dL_nodes_1 : decode cL_nodes 1 = .ok (.iconst 0, 1) := by decide +kernel
theorem dL_nodes_2 : decode cL_nodes 2 = .ok (.aload_n 0, 1) := by decide +kernel
theorem dL_nodes_3 : decode cL_nodes 3 = .ok (.iload_n 1, 1) := by decide +kernel
theorem dL_nodes_4 : decode cL_nodes 4 = .ok (.iload_n 2, 1) := by decide +kernel
theorem dL_nodes_5 : decode cL_nodes 5 = .ok (.invokevirtual 49, 3) := by decide +kernel
theorem dL_nodes_8 : decode cL_nodes 8 = .ok (.i2l, 1) := by decide +kernel
theorem dL_nodes_9 : decode cL_nodes 9 = .ok (.lastore, 1) := by decide +kernel
theorem dL_nodes_10 : decode cL_nodes 10 = .ok (.goto 11, 3) := by decide +kernel
theorem dL_nodes_13 : decode cL_nodes 13 = .ok (.astore 4, 2) := by decide +kernel
theorem dL_nodes_15 : decode cL_nodes 15 = .ok (.iconst 1, 1) := by decide +kernel
theorem dL_nodes_16 : decode cL_nodes 16 = .ok (.ireturn, 1) := by decide +kernel
theorem dL_nodes_17 : decode cL_nodes 17 = .ok (.astore 4, 2) := by decide +kernel
theorem dL_nodes_19 : decode cL_nodes 19 = .ok (.iconst 2, 1) := by decide +kernel
theorem dL_nodes_20 : decode cL_nodes 20 = .ok (.ireturn, 1) := by decide +kernel
theorem dL_nodes_21 : decode cL_nodes 21 = .ok (.iconst 0, 1) := by decide +kernel
theorem dL_nodes_22 : decode cL_nodes 22 = .ok (.ireturn, 1) := by decide +kernel
theorem dL_leaf_0 : decode cL_leaf 0 = .ok (.aload_n 3, 1) := by decide +kernel
theorem dL_leaf_1 : decode cL_leaf 1 = .ok (.iconst 0, 1) := by decide +kernel
theorem dL_leaf_2 : decode cL_leaf 2 = .ok (.aload_n 0, 1) := by decide +kernel
theorem dL_leaf_3 : decode cL_leaf 3 = .ok (.iload_n 1, 1) := by decide +kernel
theorem dL_leaf_4 : decode cL_leaf 4 = .ok (.iload_n 2, 1) := by decide +kernel
theorem dL_leaf_5 : decode cL_leaf 5 = .ok (.invokevirtual 52, 3) := by decide +kernel
theorem dL_leaf_8 : decode cL_leaf 8 = .ok (.i2l, 1) := by decide +kernel
theorem dL_leaf_9 : decode cL_leaf 9 = .ok (.lastore, 1) := by decide +kernel
theorem dL_leaf_10 : decode cL_leaf 10 = .ok (.goto 7, 3) := by decide +kernel
theorem dL_leaf_13 : decode cL_leaf 13 = .ok (.astore 4, 2) := by decide +kernel
theorem dL_leaf_15 : decode cL_leaf 15 = .ok (.iconst 1, 1) := by decide +kernel
theorem dL_leaf_16 : decode cL_leaf 16 = .ok (.ireturn, 1) := by decide +kernel
theorem dL_leaf_17 : decode cL_leaf 17 = .ok (.iconst 0, 1) := by decide +kernel
theorem dL_leaf_18 : decode cL_leaf 18 = .ok (.ireturn, 1) := by decide +kernel
theorem dL_count_0 : decode cL_count 0 = .ok (.aload_n 2, 1) := by decide +kernel
theorem dL_count_1 : decode cL_count 1 = .ok (.iconst 0, 1) := by decide +kernel
theorem dL_count_2 : decode cL_count 2 = .ok (.aload_n 0, 1) := by decide +kernel
theorem dL_count_3 : decode cL_count 3 = .ok (.iload_n 1, 1) := by decide +kernel
theorem dL_count_4 : decode cL_count 4 = .ok (.invokevirtual 55, 3) := by decide +kernel
theorem dL_count_7 : decode cL_count 7 = .ok (.i2l, 1) := by decide +kernel
theorem dL_count_8 : decode cL_count 8 = .ok (.lastore, 1) := by decide +kernel
theorem dL_count_9 : decode cL_count 9 = .ok (.goto 6, 3) := by decide +kernel
theorem dL_count_12 : decode cL_count 12 = .ok (.astore_n 3, 1) := by decide +kernel
theorem dL_count_13 : decode cL_count 13 = .ok (.iconst 1, 1) := by decide +kernel
theorem dL_count_14 : decode cL_count 14 = .ok (.ireturn, 1) := by decide +kernel
theorem dL_count_15 : decode cL_count 15 = .ok (.iconst 0, 1) := by decide +kernel
theorem dL_count_16 : decode cL_count 16 = .ok (.ireturn, 1) := by decide +kernel
theorem dL_room_0 : decode cL_room 0 = .ok (.aload_n 2, 1) := by decide +kernel
theorem dL_room_1 : decode cL_room 1 = .ok (.iconst 0, 1) := by decide +kernel
theorem dL_room_2 : decode cL_room 2 = .ok (.aload_n 0, 1) := by decide +kernel
theorem dL_room_3 : decode cL_room 3 = .ok (.iload_n 1, 1) := by decide +kernel
theorem dL_room_4 : decode cL_room 4 = .ok (.invokevirtual 58, 3) := by decide +kernel
theorem dL_room_7 : decode cL_room 7 = .ok (.i2l, 1) := by decide +kernel
theorem dL_room_8 : decode cL_room 8 = .ok (.lastore, 1) := by decide +kernel
theorem dL_room_9 : decode cL_room 9 = .ok (.goto 9, 3) := by decide +kernel
theorem dL_room_12 : decode cL_room 12 = .ok (.astore_n 3, 1) := by decide +kernel
theorem dL_room_13 : decode cL_room 13 = .ok (.iconst 1, 1) := by decide +kernel
theorem dL_room_14 : decode cL_room 14 = .ok (.ireturn, 1) := by decide +kernel
theorem dL_room_15 : decode cL_room 15 = .ok (.astore_n 3, 1) := by decide +kernel
theorem dL_room_16 : decode cL_room 16 = .ok (.iconst 2, 1) := by decide +kernel
theorem dL_room_17 : decode cL_room 17 = .ok (.ireturn, 1) := by decide +kernel
theorem dL_room_18 : decode cL_room 18 = .ok (.iconst 0, 1) := by decide +kernel
theorem dL_room_19 : decode cL_room 19 = .ok (.ireturn, 1) := by decide +kernel
theorem dL_load_0 : decode cL_load 0 = .ok (.aload_n 0, 1) := by decide +kernel
theorem dL_load_1 : decode cL_load 1 = .ok (.iload_n 1, 1) := by decide +kernel
theorem dL_load_2 : decode cL_load 2 = .ok (.iload_n 2, 1) := by decide +kernel
theorem dL_load_3 : decode cL_load 3 = .ok (.invokevirtual 61, 3) := by decide +kernel
theorem dL_load_6 : decode cL_load 6 = .ok (.goto 6, 3) := by decide +kernel
theorem dL_load_9 : decode cL_load 9 = .ok (.astore_n 3, 1) := by decide +kernel
theorem dL_load_10 : decode cL_load 10 = .ok (.iconst 1, 1) := by decide +kernel
theorem dL_load_11 : decode cL_load 11 = .ok (.ireturn, 1) := by decide +kernel
theorem dL_load_12 : decode cL_load 12 = .ok (.iconst 0, 1) := by decide +kernel
theorem dL_load_13 : decode cL_load 13 = .ok (.ireturn, 1) := by decide +kernel
theorem dL_replay_0 : decode cL_replay 0 = .ok (.aload_n 2, 1) := by decide +kernel
theorem dL_replay_1 : decode cL_replay 1 = .ok (.iconst 0, 1) := by decide +kernel
theorem dL_replay_2 : decode cL_replay 2 = .ok (.aload_n 0, 1) := by decide +kernel
theorem dL_replay_3 : decode cL_replay 3 = .ok (.iload_n 1, 1) := by decide +kernel
theorem dL_replay_4 : decode cL_replay 4 = .ok (.invokevirtual 64, 3) := by decide +kernel
theorem dL_replay_7 : decode cL_replay 7 = .ok (.i2l, 1) := by decide +kernel
theorem dL_replay_8 : decode cL_replay 8 = .ok (.lastore, 1) := by decide +kernel
theorem dL_replay_9 : decode cL_replay 9 = .ok (.goto 9, 3) := by decide +kernel
theorem dL_replay_12 : decode cL_replay 12 = .ok (.astore_n 3, 1) := by decide +kernel
theorem dL_replay_13 : decode cL_replay 13 = .ok (.iconst 1, 1) := by decide +kernel
theorem dL_replay_14 : decode cL_replay 14 = .ok (.ireturn, 1) := by decide +kernel
theorem dL_replay_15 : decode cL_replay 15 = .ok (.astore_n 3, 1) := by decide +kernel
theorem dL_replay_16 : decode cL_replay 16 = .ok (.iconst 2, 1) := by decide +kernel
theorem dL_replay_17 : decode cL_replay 17 = .ok (.ireturn, 1) := by decide +kernel
theorem dL_replay_18 : decode cL_replay 18 = .ok (.iconst 0, 1) := by decide +kernel
theorem dL_replay_19 : decode cL_replay 19 = .ok (.ireturn, 1) := by decide +kernel
