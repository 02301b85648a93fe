theorem dX4_build_66 : decode cX4_build 66 = .ok (.iconst 0, 1) := by decide +kernel
theorem dX4_build_67 : decode cX4_build 67 = .ok (.istore_n 2, 1) := by decide +kernel
theorem dX4_build_68 : decode cX4_build 68 = .ok (.iconst 1, 1) := by decide +kernel
theorem dX4_build_69 : decode cX4_build 69 = .ok (.istore_n 3, 1) := by decide +kernel
theorem dX4_build_70 : decode cX4_build 70 = .ok (.iload_n 3, 1) := by decide +kernel
theorem dX4_build_71 : decode cX4_build 71 = .ok (.bipush 25, 2) := by decide +kernel
theorem dX4_build_73 : decode cX4_build 73 = .ok (.if_icmp .ge 100, 3) := by decide +kernel
theorem dX4_build_76 : decode cX4_build 76 = .ok (.aload_n 0, 1) := by decide +kernel
theorem dX4_build_77 : decode cX4_build 77 = .ok (.getfield 32, 3) := by decide +kernel
theorem dX4_build_80 : decode cX4_build 80 = .ok (.iload_n 3, 1) := by decide +kernel
theorem dX4_build_81 : decode cX4_build 81 = .ok (.baload, 1) := by decide +kernel
theorem dX4_build_82 : decode cX4_build 82 = .ok (.ifCond .eq 85, 3) := by decide +kernel
theorem dX4_build_85 : decode cX4_build 85 = .ok (.aload_n 0, 1) := by decide +kernel
theorem dX4_build_86 : decode cX4_build 86 = .ok (.iload_n 3, 1) := by decide +kernel
theorem dX4_build_87 : decode cX4_build 87 = .ok (.invokevirtual 89, 3) := by decide +kernel
theorem dX4_build_90 : decode cX4_build 90 = .ok (.ifCond .ne 77, 3) := by decide +kernel
theorem dX4_build_93 : decode cX4_build 93 = .ok (.aload_n 0, 1) := by decide +kernel
theorem dX4_build_94 : decode cX4_build 94 = .ok (.getfield 13, 3) := by decide +kernel
theorem dX4_build_97 : decode cX4_build 97 = .ok (.iload_n 3, 1) := by decide +kernel
theorem dX4_build_98 : decode cX4_build 98 = .ok (.iaload, 1) := by decide +kernel
theorem dX4_build_99 : decode cX4_build 99 = .ok (.ifCond .ne 6, 3) := by decide +kernel
theorem dX4_build_102 : decode cX4_build 102 = .ok (.goto 65, 3) := by decide +kernel
theorem dX4_build_105 : decode cX4_build 105 = .ok (.iload_n 2, 1) := by decide +kernel
theorem dX4_build_106 : decode cX4_build 106 = .ok (.ifCond .ne 31, 3) := by decide +kernel
theorem dX4_build_109 : decode cX4_build 109 = .ok (.aload_n 0, 1) := by decide +kernel
theorem dX4_build_110 : decode cX4_build 110 = .ok (.getfield 32, 3) := by decide +kernel
theorem dX4_build_113 : decode cX4_build 113 = .ok (.aload_n 0, 1) := by decide +kernel
theorem dX4_build_114 : decode cX4_build 114 = .ok (.getfield 13, 3) := by decide +kernel
theorem dX4_build_117 : decode cX4_build 117 = .ok (.iload_n 3, 1) := by decide +kernel
theorem dX4_build_118 : decode cX4_build 118 = .ok (.iaload, 1) := by decide +kernel
theorem dX4_build_119 : decode cX4_build 119 = .ok (.baload, 1) := by decide +kernel
theorem dX4_build_120 : decode cX4_build 120 = .ok (.ifCond .eq 17, 3) := by decide +kernel
theorem dX4_build_123 : decode cX4_build 123 = .ok (.aload_n 0, 1) := by decide +kernel
theorem dX4_build_124 : decode cX4_build 124 = .ok (.getfield 32, 3) := by decide +kernel
theorem dX4_build_127 : decode cX4_build 127 = .ok (.aload_n 0, 1) := by decide +kernel
theorem dX4_build_128 : decode cX4_build 128 = .ok (.getfield 16, 3) := by decide +kernel
theorem dX4_build_131 : decode cX4_build 131 = .ok (.iload_n 3, 1) := by decide +kernel
theorem dX4_build_132 : decode cX4_build 132 = .ok (.iaload, 1) := by decide +kernel
theorem dX4_build_133 : decode cX4_build 133 = .ok (.baload, 1) := by decide +kernel
theorem dX4_build_134 : decode cX4_build 134 = .ok (.ifCond .ne 7, 3) := by decide +kernel
theorem dX4_build_137 : decode cX4_build 137 = .ok (.iconst 1, 1) := by decide +kernel
theorem dX4_build_138 : decode cX4_build 138 = .ok (.goto 4, 3) := by decide +kernel
theorem dX4_build_141 : decode cX4_build 141 = .ok (.iconst 0, 1) := by decide +kernel
theorem dX4_build_142 : decode cX4_build 142 = .ok (.istore_n 2, 1) := by decide +kernel
theorem dX4_build_143 : decode cX4_build 143 = .ok (.aload_n 0, 1) := by decide +kernel
theorem dX4_build_144 : decode cX4_build 144 = .ok (.getfield 32, 3) := by decide +kernel
theorem dX4_build_147 : decode cX4_build 147 = .ok (.aload_n 0, 1) := by decide +kernel
theorem dX4_build_148 : decode cX4_build 148 = .ok (.getfield 13, 3) := by decide +kernel
theorem dX4_build_151 : decode cX4_build 151 = .ok (.iload_n 3, 1) := by decide +kernel
theorem dX4_build_152 : decode cX4_build 152 = .ok (.iaload, 1) := by decide +kernel
theorem dX4_build_153 : decode cX4_build 153 = .ok (.iconst 1, 1) := by decide +kernel
theorem dX4_build_154 : decode cX4_build 154 = .ok (.bastore, 1) := by decide +kernel
theorem dX4_build_155 : decode cX4_build 155 = .ok (.aload_n 0, 1) := by decide +kernel
theorem dX4_build_156 : decode cX4_build 156 = .ok (.getfield 32, 3) := by decide +kernel
theorem dX4_build_159 : decode cX4_build 159 = .ok (.aload_n 0, 1) := by decide +kernel
theorem dX4_build_160 : decode cX4_build 160 = .ok (.getfield 16, 3) := by decide +kernel
theorem dX4_build_163 : decode cX4_build 163 = .ok (.iload_n 3, 1) := by decide +kernel
theorem dX4_build_164 : decode cX4_build 164 = .ok (.iaload, 1) := by decide +kernel
theorem dX4_build_165 : decode cX4_build 165 = .ok (.iconst 1, 1) := by decide +kernel
theorem dX4_build_166 : decode cX4_build 166 = .ok (.bastore, 1) := by decide +kernel
theorem dX4_build_167 : decode cX4_build 167 = .ok (.iinc 3 1, 3) := by decide +kernel
theorem dX4_build_170 : decode cX4_build 170 = .ok (.goto (-100), 3) := by decide +kernel
theorem dX4_build_173 : decode cX4_build 173 = .ok (.goto (-111), 3) := by decide +kernel
theorem dX4_build_176 : decode cX4_build 176 = .ok (.iconst 0, 1) := by decide +kernel
theorem dX4_build_177 : decode cX4_build 177 = .ok (.istore_n 3, 1) := by decide +kernel
theorem dX4_build_178 : decode cX4_build 178 = .ok (.iconst 1, 1) := by decide +kernel
theorem dX4_build_179 : decode cX4_build 179 = .ok (.istore 4, 2) := by decide +kernel
theorem dX4_build_181 : decode cX4_build 181 = .ok (.iload 4, 2) := by decide +kernel
theorem dX4_build_183 : decode cX4_build 183 = .ok (.bipush 25, 2) := by decide +kernel
theorem dX4_build_185 : decode cX4_build 185 = .ok (.if_icmp .ge 38, 3) := by decide +kernel
theorem dX4_build_188 : decode cX4_build 188 = .ok (.aload_n 0, 1) := by decide +kernel
theorem dX4_build_189 : decode cX4_build 189 = .ok (.getfield 32, 3) := by decide +kernel
theorem dX4_build_192 : decode cX4_build 192 = .ok (.iload 4, 2) := by decide +kernel
theorem dX4_build_194 : decode cX4_build 194 = .ok (.baload, 1) := by decide +kernel
theorem dX4_build_195 : decode cX4_build 195 = .ok (.ifCond .ne 6, 3) := by decide +kernel
theorem dX4_build_198 : decode cX4_build 198 = .ok (.goto 19, 3) := by decide +kernel
theorem dX4_build_201 : decode cX4_build 201 = .ok (.aload_n 0, 1) := by decide +kernel
theorem dX4_build_202 : decode cX4_build 202 = .ok (.iload 4, 2) := by decide +kernel
theorem dX4_build_204 : decode cX4_build 204 = .ok (.invokevirtual 89, 3) := by decide +kernel
theorem dX4_build_207 : decode cX4_build 207 = .ok (.ifCond .eq 7, 3) := by decide +kernel
theorem dX4_build_210 : decode cX4_build 210 = .ok (.iload 4, 2) := by decide +kernel
theorem dX4_build_212 : decode cX4_build 212 = .ok (.ineg, 1) := by decide +kernel
theorem dX4_build_213 : decode cX4_build 213 = .ok (.ireturn, 1) := by decide +kernel
theorem dX4_build_214 : decode cX4_build 214 = .ok (.iinc 3 1, 3) := by decide +kernel
theorem dX4_build_217 : decode cX4_build 217 = .ok (.iinc 4 1, 3) := by decide +kernel
theorem dX4_build_220 : decode cX4_build 220 = .ok (.goto (-39), 3) := by decide +kernel
theorem dX4_build_223 : decode cX4_build 223 = .ok (.aload_n 0, 1) := by decide +kernel
theorem dX4_build_224 : decode cX4_build 224 = .ok (.iload_n 1, 1) := by decide +kernel
theorem dX4_build_225 : decode cX4_build 225 = .ok (.putfield 93, 3) := by decide +kernel
theorem dX4_build_228 : decode cX4_build 228 = .ok (.iconst 1, 1) := by decide +kernel
theorem dX4_build_229 : decode cX4_build 229 = .ok (.istore 4, 2) := by decide +kernel
theorem dX4_build_231 : decode cX4_build 231 = .ok (.iload 4, 2) := by decide +kernel
theorem dX4_build_233 : decode cX4_build 233 = .ok (.bipush 25, 2) := by decide +kernel
theorem dX4_build_235 : decode cX4_build 235 = .ok (.if_icmp .ge 73, 3) := by decide +kernel
theorem dX4_build_238 : decode cX4_build 238 = .ok (.aload_n 0, 1) := by decide +kernel
theorem dX4_build_239 : decode cX4_build 239 = .ok (.getfield 19, 3) := by decide +kernel
theorem dX4_build_242 : decode cX4_build 242 = .ok (.iload 4, 2) := by decide +kernel
theorem dX4_build_244 : decode cX4_build 244 = .ok (.aload_n 0, 1) := by decide +kernel
theorem dX4_build_245 : decode cX4_build 245 = .ok (.getfield 7, 3) := by decide +kernel
theorem dX4_build_248 : decode cX4_build 248 = .ok (.iload 4, 2) := by decide +kernel
theorem dX4_build_250 : decode cX4_build 250 = .ok (.iaload, 1) := by decide +kernel
theorem dX4_build_251 : decode cX4_build 251 = .ok (.iastore, 1) := by decide +kernel
theorem dX4_build_252 : decode cX4_build 252 = .ok (.aload_n 0, 1) := by decide +kernel
theorem dX4_build_253 : decode cX4_build 253 = .ok (.getfield 22, 3) := by decide +kernel
theorem dX4_build_256 : decode cX4_build 256 = .ok (.iload 4, 2) := by decide +kernel
theorem dX4_build_258 : decode cX4_build 258 = .ok (.aload_n 0, 1) := by decide +kernel
theorem dX4_build_259 : decode cX4_build 259 = .ok (.getfield 13, 3) := by decide +kernel
theorem dX4_build_262 : decode cX4_build 262 = .ok (.iload 4, 2) := by decide +kernel
theorem dX4_build_264 : decode cX4_build 264 = .ok (.iaload, 1) := by decide +kernel
theorem dX4_build_265 : decode cX4_build 265 = .ok (.iastore, 1) := by decide +kernel
theorem dX4_build_266 : decode cX4_build 266 = .ok (.aload_n 0, 1) := by decide +kernel
theorem dX4_build_267 : decode cX4_build 267 = .ok (.getfield 25, 3) := by decide +kernel
theorem dX4_build_270 : decode cX4_build 270 = .ok (.iload 4, 2) := by decide +kernel
theorem dX4_build_272 : decode cX4_build 272 = .ok (.aload_n 0, 1) := by decide +kernel
theorem dX4_build_273 : decode cX4_build 273 = .ok (.getfield 16, 3) := by decide +kernel
theorem dX4_build_276 : decode cX4_build 276 = .ok (.iload 4, 2) := by decide +kernel
theorem dX4_build_278 : decode cX4_build 278 = .ok (.iaload, 1) := by decide +kernel
theorem dX4_build_279 : decode cX4_build 279 = .ok (.iastore, 1) := by decide +kernel
theorem dX4_build_280 : decode cX4_build 280 = .ok (.aload_n 0, 1) := by decide +kernel
theorem dX4_build_281 : decode cX4_build 281 = .ok (.getfield 28, 3) := by decide +kernel
theorem dX4_build_284 : decode cX4_build 284 = .ok (.iload 4, 2) := by decide +kernel
theorem dX4_build_286 : decode cX4_build 286 = .ok (.aload_n 0, 1) := by decide +kernel
theorem dX4_build_287 : decode cX4_build 287 = .ok (.getfield 32, 3) := by decide +kernel
theorem dX4_build_290 : decode cX4_build 290 = .ok (.iload 4, 2) := by decide +kernel
theorem dX4_build_292 : decode cX4_build 292 = .ok (.baload, 1) := by decide +kernel
theorem dX4_build_293 : decode cX4_build 293 = .ok (.bastore, 1) := by decide +kernel
theorem dX4_build_294 : decode cX4_build 294 = .ok (.aload_n 0, 1) := by decide +kernel
theorem dX4_build_295 : decode cX4_build 295 = .ok (.getfield 35, 3) := by decide +kernel
theorem dX4_build_298 : decode cX4_build 298 = .ok (.iload 4, 2) := by decide +kernel
theorem dX4_build_300 : decode cX4_build 300 = .ok (.iconst 0, 1) := by decide +kernel
theorem dX4_build_301 : decode cX4_build 301 = .ok (.iastore, 1) := by decide +kernel
theorem dX4_build_302 : decode cX4_build 302 = .ok (.iinc 4 1, 3) := by decide +kernel
theorem dX4_build_305 : decode cX4_build 305 = .ok (.goto (-74), 3) := by decide +kernel
theorem dX4_build_308 : decode cX4_build 308 = .ok (.aload_n 0, 1) := by decide +kernel
theorem dX4_build_309 : decode cX4_build 309 = .ok (.iconst 1, 1) := by decide +kernel
theorem dX4_build_310 : decode cX4_build 310 = .ok (.putfield 96, 3) := by decide +kernel
theorem dX4_build_313 : decode cX4_build 313 = .ok (.aload_n 0, 1) := by decide +kernel
theorem dX4_build_314 : decode cX4_build 314 = .ok (.getfield 38, 3) := by decide +kernel
theorem dX4_build_317 : decode cX4_build 317 = .ok (.iconst 0, 1) := by decide +kernel
theorem dX4_build_318 : decode cX4_build 318 = .ok (.iconst 0, 1) := by decide +kernel
theorem dX4_build_319 : decode cX4_build 319 = .ok (.iconst 0, 1) := by decide +kernel
theorem dX4_build_320 : decode cX4_build 320 = .ok (.iload_n 1, 1) := by decide +kernel
theorem dX4_build_321 : decode cX4_build 321 = .ok (.iconst 0, 1) := by decide +kernel
theorem dX4_build_322 : decode cX4_build 322 = .ok (.iconst 0, 1) := by decide +kernel
theorem dX4_build_323 : decode cX4_build 323 = .ok (.invokestatic 99, 3) := by decide +kernel
theorem dX4_build_326 : decode cX4_build 326 = .ok (.lastore, 1) := by decide +kernel
theorem dX4_build_327 : decode cX4_build 327 = .ok (.aload_n 0, 1) := by decide +kernel
theorem dX4_build_328 : decode cX4_build 328 = .ok (.iconst 0, 1) := by decide +kernel
theorem dX4_build_329 : decode cX4_build 329 = .ok (.putfield 103, 3) := by decide +kernel
theorem dX4_build_332 : decode cX4_build 332 = .ok (.aload_n 0, 1) := by decide +kernel
theorem dX4_build_333 : decode cX4_build 333 = .ok (.iconst 0, 1) := by decide +kernel
theorem dX4_build_334 : decode cX4_build 334 = .ok (.putfield 106, 3) := by decide +kernel
theorem dX4_build_337 : decode cX4_build 337 = .ok (.aload_n 0, 1) := by decide +kernel
theorem dX4_build_338 : decode cX4_build 338 = .ok (.iconst 0, 1) := by decide +kernel
theorem dX4_build_339 : decode cX4_build 339 = .ok (.putfield 109, 3) := by decide +kernel
theorem dX4_build_342 : decode cX4_build 342 = .ok (.iload_n 3, 1) := by decide +kernel
theorem dX4_build_343 : decode cX4_build 343 = .ok (.ireturn, 1) := by decide +kernel
theorem dX4_nodeOf_0 : decode cX4_nodeOf 0 = .ok (.iload_n 0, 1) := by decide +kernel
theorem dX4_nodeOf_1 : decode cX4_nodeOf 1 = .ok (.i2l, 1) := by decide +kernel
theorem dX4_nodeOf_2 : decode cX4_nodeOf 2 = .ok (.bipush 36, 2) := by decide +kernel
theorem dX4_nodeOf_4 : decode cX4_nodeOf 4 = .ok (.lshl, 1) := by decide +kernel
theorem dX4_nodeOf_5 : decode cX4_nodeOf 5 = .ok (.iload_n 1, 1) := by decide +kernel
theorem dX4_nodeOf_6 : decode cX4_nodeOf 6 = .ok (.i2l, 1) := by decide +kernel
theorem dX4_nodeOf_7 : decode cX4_nodeOf 7 = .ok (.bipush 35, 2) := by decide +kernel
theorem dX4_nodeOf_9 : decode cX4_nodeOf 9 = .ok (.lshl, 1) := by decide +kernel
theorem dX4_nodeOf_10 : decode cX4_nodeOf 10 = .ok (.lor, 1) := by decide +kernel
theorem dX4_nodeOf_11 : decode cX4_nodeOf 11 = .ok (.iload_n 2, 1) := by decide +kernel
theorem dX4_nodeOf_12 : decode cX4_nodeOf 12 = .ok (.i2l, 1) := by decide +kernel
theorem dX4_nodeOf_13 : decode cX4_nodeOf 13 = .ok (.bipush 30, 2) := by decide +kernel
theorem dX4_nodeOf_15 : decode cX4_nodeOf 15 = .ok (.lshl, 1) := by decide +kernel
theorem dX4_nodeOf_16 : decode cX4_nodeOf 16 = .ok (.lor, 1) := by decide +kernel
theorem dX4_nodeOf_17 : decode cX4_nodeOf 17 = .ok (.iload_n 3, 1) := by decide +kernel
theorem dX4_nodeOf_18 : decode cX4_nodeOf 18 = .ok (.i2l, 1) := by decide +kernel
theorem dX4_nodeOf_19 : decode cX4_nodeOf 19 = .ok (.bipush 25, 2) := by decide +kernel
theorem dX4_nodeOf_21 : decode cX4_nodeOf 21 = .ok (.lshl, 1) := by decide +kernel
theorem dX4_nodeOf_22 : decode cX4_nodeOf 22 = .ok (.lor, 1) := by decide +kernel
theorem dX4_nodeOf_23 : decode cX4_nodeOf 23 = .ok (.iload 4, 2) := by decide +kernel
theorem dX4_nodeOf_25 : decode cX4_nodeOf 25 = .ok (.i2l, 1) := by decide +kernel
theorem dX4_nodeOf_26 : decode cX4_nodeOf 26 = .ok (.lor, 1) := by decide +kernel
theorem dX4_nodeOf_27 : decode cX4_nodeOf 27 = .ok (.lreturn, 1) := by decide +kernel
theorem dX4_address_0 : decode cX4_address 0 = .ok (.aload_n 0, 1) := by decide +kernel
theorem dX4_address_1 : decode cX4_address 1 = .ok (.getfield 38, 3) := by decide +kernel
theorem dX4_address_4 : decode cX4_address 4 = .ok (.iload_n 1, 1) := by decide +kernel
theorem dX4_address_5 : decode cX4_address 5 = .ok (.laload, 1) := by decide +kernel
theorem dX4_address_6 : decode cX4_address 6 = .ok (.bipush 36, 2) := by decide +kernel
theorem dX4_address_8 : decode cX4_address 8 = .ok (.lshr, 1) := by decide +kernel
theorem dX4_address_9 : decode cX4_address 9 = .ok (.l2i, 1) := by decide +kernel
theorem dX4_address_10 : decode cX4_address 10 = .ok (.ireturn, 1) := by decide +kernel
theorem dX4_isLive_0 : decode cX4_isLive 0 = .ok (.aload_n 0, 1) := by decide +kernel
theorem dX4_isLive_1 : decode cX4_isLive 1 = .ok (.getfield 38, 3) := by decide +kernel
theorem dX4_isLive_4 : decode cX4_isLive 4 = .ok (.iload_n 1, 1) := by decide +kernel
theorem dX4_isLive_5 : decode cX4_isLive 5 = .ok (.laload, 1) := by decide +kernel
theorem dX4_isLive_6 : decode cX4_isLive 6 = .ok (.bipush 35, 2) := by decide +kernel
theorem dX4_isLive_8 : decode cX4_isLive 8 = .ok (.lshr, 1) := by decide +kernel
theorem dX4_isLive_9 : decode cX4_isLive 9 = .ok (.lconst 1, 1) := by decide +kernel
theorem dX4_isLive_10 : decode cX4_isLive 10 = .ok (.land, 1) := by decide +kernel
theorem dX4_isLive_11 : decode cX4_isLive 11 = .ok (.lconst 1, 1) := by decide +kernel
theorem dX4_isLive_12 : decode cX4_isLive 12 = .ok (.lcmp, 1) := by decide +kernel
theorem dX4_isLive_13 : decode cX4_isLive 13 = .ok (.ifCond .ne 7, 3) := by decide +kernel
theorem dX4_isLive_16 : decode cX4_isLive 16 = .ok (.iconst 1, 1) := by decide +kernel
theorem dX4_isLive_17 : decode cX4_isLive 17 = .ok (.goto 4, 3) := by decide +kernel
theorem dX4_isLive_20 : decode cX4_isLive 20 = .ok (.iconst 0, 1) := by decide +kernel
theorem dX4_isLive_21 : decode cX4_isLive 21 = .ok (.ireturn, 1) := by decide +kernel
theorem dX4_classOf_0 : decode cX4_classOf 0 = .ok (.aload_n 0, 1) := by decide +kernel
theorem dX4_classOf_1 : decode cX4_classOf 1 = .ok (.getfield 38, 3) := by decide +kernel
theorem dX4_classOf_4 : decode cX4_classOf 4 = .ok (.iload_n 1, 1) := by decide +kernel
theorem dX4_classOf_5 : decode cX4_classOf 5 = .ok (.laload, 1) := by decide +kernel
theorem dX4_classOf_6 : decode cX4_classOf 6 = .ok (.bipush 30, 2) := by decide +kernel
theorem dX4_classOf_8 : decode cX4_classOf 8 = .ok (.lshr, 1) := by decide +kernel
theorem dX4_classOf_9 : decode cX4_classOf 9 = .ok (.ldc2_w 112, 3) := by decide +kernel
theorem dX4_classOf_12 : decode cX4_classOf 12 = .ok (.land, 1) := by decide +kernel
theorem dX4_classOf_13 : decode cX4_classOf 13 = .ok (.l2i, 1) := by decide +kernel
theorem dX4_classOf_14 : decode cX4_classOf 14 = .ok (.ireturn, 1) := by decide +kernel
theorem dX4_depth_0 : decode cX4_depth 0 = .ok (.aload_n 0, 1) := by decide +kernel
theorem dX4_depth_1 : decode cX4_depth 1 = .ok (.getfield 38, 3) := by decide +kernel
theorem dX4_depth_4 : decode cX4_depth 4 = .ok (.iload_n 1, 1) := by decide +kernel
theorem dX4_depth_5 : decode cX4_depth 5 = .ok (.laload, 1) := by decide +kernel
theorem dX4_depth_6 : decode cX4_depth 6 = .ok (.bipush 25, 2) := by decide +kernel
theorem dX4_depth_8 : decode cX4_depth 8 = .ok (.lshr, 1) := by decide +kernel
theorem dX4_depth_9 : decode cX4_depth 9 = .ok (.ldc2_w 112, 3) := by decide +kernel
theorem dX4_depth_12 : decode cX4_depth 12 = .ok (.land, 1) := by decide +kernel
theorem dX4_depth_13 : decode cX4_depth 13 = .ok (.l2i, 1) := by decide +kernel
theorem dX4_depth_14 : decode cX4_depth 14 = .ok (.ireturn, 1) := by decide +kernel
theorem dX4_sides_0 : decode cX4_sides 0 = .ok (.aload_n 0, 1) := by decide +kernel
theorem dX4_sides_1 : decode cX4_sides 1 = .ok (.getfield 38, 3) := by decide +kernel
theorem dX4_sides_4 : decode cX4_sides 4 = .ok (.iload_n 1, 1) := by decide +kernel
theorem dX4_sides_5 : decode cX4_sides 5 = .ok (.laload, 1) := by decide +kernel
theorem dX4_sides_6 : decode cX4_sides 6 = .ok (.ldc2_w 114, 3) := by decide +kernel
theorem dX4_sides_9 : decode cX4_sides 9 = .ok (.land, 1) := by decide +kernel
theorem dX4_sides_10 : decode cX4_sides 10 = .ok (.l2i, 1) := by decide +kernel
theorem dX4_sides_11 : decode cX4_sides 11 = .ok (.ireturn, 1) := by decide +kernel
theorem dX4_classAt_0 : decode cX4_classAt 0 = .ok (.aload_n 0, 1) := by decide +kernel
theorem dX4_classAt_1 : decode cX4_classAt 1 = .ok (.getfield 93, 3) := by decide +kernel
theorem dX4_classAt_4 : decode cX4_classAt 4 = .ok (.istore_n 3, 1) := by decide +kernel
theorem dX4_classAt_5 : decode cX4_classAt 5 = .ok (.iload_n 1, 1) := by decide +kernel
theorem dX4_classAt_6 : decode cX4_classAt 6 = .ok (.iconst 1, 1) := by decide +kernel
theorem dX4_classAt_7 : decode cX4_classAt 7 = .ok (.isub, 1) := by decide +kernel
theorem dX4_classAt_8 : decode cX4_classAt 8 = .ok (.istore 4, 2) := by decide +kernel
theorem dX4_classAt_10 : decode cX4_classAt 10 = .ok (.iload 4, 2) := by decide +kernel
theorem dX4_classAt_12 : decode cX4_classAt 12 = .ok (.ifCond .lt 34, 3) := by decide +kernel
theorem dX4_classAt_15 : decode cX4_classAt 15 = .ok (.iload_n 2, 1) := by decide +kernel
theorem dX4_classAt_16 : decode cX4_classAt 16 = .ok (.iload 4, 2) := by decide +kernel
theorem dX4_classAt_18 : decode cX4_classAt 18 = .ok (.ishr, 1) := by decide +kernel
theorem dX4_classAt_19 : decode cX4_classAt 19 = .ok (.iconst 1, 1) := by decide +kernel
theorem dX4_classAt_20 : decode cX4_classAt 20 = .ok (.iand, 1) := by decide +kernel
theorem dX4_classAt_21 : decode cX4_classAt 21 = .ok (.ifCond .ne 12, 3) := by decide +kernel
theorem dX4_classAt_24 : decode cX4_classAt 24 = .ok (.aload_n 0, 1) := by decide +kernel
theorem dX4_classAt_25 : decode cX4_classAt 25 = .ok (.getfield 22, 3) := by decide +kernel
theorem dX4_classAt_28 : decode cX4_classAt 28 = .ok (.iload_n 3, 1) := by decide +kernel
theorem dX4_classAt_29 : decode cX4_classAt 29 = .ok (.iaload, 1) := by decide +kernel
theorem dX4_classAt_30 : decode cX4_classAt 30 = .ok (.goto 9, 3) := by decide +kernel
theorem dX4_classAt_33 : decode cX4_classAt 33 = .ok (.aload_n 0, 1) := by decide +kernel
theorem dX4_classAt_34 : decode cX4_classAt 34 = .ok (.getfield 25, 3) := by decide +kernel
theorem dX4_classAt_37 : decode cX4_classAt 37 = .ok (.iload_n 3, 1) := by decide +kernel
theorem dX4_classAt_38 : decode cX4_classAt 38 = .ok (.iaload, 1) := by decide +kernel
theorem dX4_classAt_39 : decode cX4_classAt 39 = .ok (.istore_n 3, 1) := by decide +kernel
theorem dX4_classAt_40 : decode cX4_classAt 40 = .ok (.iinc 4 (-1), 3) := by decide +kernel
theorem dX4_classAt_43 : decode cX4_classAt 43 = .ok (.goto (-33), 3) := by decide +kernel
theorem dX4_classAt_46 : decode cX4_classAt 46 = .ok (.iload_n 3, 1) := by decide +kernel
theorem dX4_classAt_47 : decode cX4_classAt 47 = .ok (.ireturn, 1) := by decide +kernel
set_option maxRecDepth 20000 in
theorem ggX4_isPair_X4_depth : GoodIn wsX4_isPair wsX4_depth := goodIn_r _ [6, 7, 8, 14, 15, 16, 17, 18, 19, 20, 21, 22, 23, 24, 25, 26, 27, 28, 29, 30, 31, 32, 33, 34, 35, 36, 37, 38, 39, 40, 41, 42] (by decide +kernel) (by decide +kernel)
set_option maxRecDepth 20000 in
theorem gX4_isPair_X4_depth : GoodIn wsX4_isPair (wsV RX4 116 RX4 yX4_depth wsX4_depth) := goodIn_app (goodIn_of _ (by decide +kernel)) ggX4_isPair_X4_depth
set_option maxRecDepth 20000 in
theorem ggX4_isPair_X4_sides : GoodIn wsX4_isPair wsX4_sides := goodIn_r _ [12, 7, 13, 14, 15, 16, 17, 18, 19, 20, 21, 22, 23, 24, 25, 26, 27, 28, 29, 30, 31, 32, 33, 34, 35, 36, 37, 38, 39, 40, 41, 42] (by decide +kernel) (by decide +kernel)
set_option maxRecDepth 20000 in
theorem gX4_isPair_X4_sides : GoodIn wsX4_isPair (wsV RX4 120 RX4 yX4_sides wsX4_sides) := goodIn_app (goodIn_of _ (by decide +kernel)) ggX4_isPair_X4_sides
theorem dX4_isPair_0 : decode cX4_isPair 0 = .ok (.iload_n 1, 1) := by decide +kernel
theorem dX4_isPair_1 : decode cX4_isPair 1 = .ok (.ifCond .lt 67, 3) := by decide +kernel
theorem dX4_isPair_4 : decode cX4_isPair 4 = .ok (.iload_n 1, 1) := by decide +kernel
theorem dX4_isPair_5 : decode cX4_isPair 5 = .ok (.iconst 1, 1) := by decide +kernel
theorem dX4_isPair_6 : decode cX4_isPair 6 = .ok (.iadd, 1) := by decide +kernel
theorem dX4_isPair_7 : decode cX4_isPair 7 = .ok (.aload_n 0, 1) := by decide +kernel
theorem dX4_isPair_8 : decode cX4_isPair 8 = .ok (.getfield 96, 3) := by decide +kernel
theorem dX4_isPair_11 : decode cX4_isPair 11 = .ok (.if_icmp .ge 57, 3) := by decide +kernel
theorem dX4_isPair_14 : decode cX4_isPair 14 = .ok (.aload_n 0, 1) := by decide +kernel
theorem dX4_isPair_15 : decode cX4_isPair 15 = .ok (.iload_n 1, 1) := by decide +kernel
theorem dX4_isPair_16 : decode cX4_isPair 16 = .ok (.invokevirtual 116, 3) := by decide +kernel
theorem dX4_isPair_19 : decode cX4_isPair 19 = .ok (.ifCond .le 49, 3) := by decide +kernel
theorem dX4_isPair_22 : decode cX4_isPair 22 = .ok (.aload_n 0, 1) := by decide +kernel
theorem dX4_isPair_23 : decode cX4_isPair 23 = .ok (.iload_n 1, 1) := by decide +kernel
theorem dX4_isPair_24 : decode cX4_isPair 24 = .ok (.invokevirtual 116, 3) := by decide +kernel
theorem dX4_isPair_27 : decode cX4_isPair 27 = .ok (.aload_n 0, 1) := by decide +kernel
theorem dX4_isPair_28 : decode cX4_isPair 28 = .ok (.iload_n 1, 1) := by decide +kernel
theorem dX4_isPair_29 : decode cX4_isPair 29 = .ok (.iconst 1, 1) := by decide +kernel
theorem dX4_isPair_30 : decode cX4_isPair 30 = .ok (.iadd, 1) := by decide +kernel
theorem dX4_isPair_31 : decode cX4_isPair 31 = .ok (.invokevirtual 116, 3) := by decide +kernel
theorem dX4_isPair_34 : decode cX4_isPair 34 = .ok (.if_icmp .ne 34, 3) := by decide +kernel
theorem dX4_isPair_37 : decode cX4_isPair 37 = .ok (.aload_n 0, 1) := by decide +kernel
theorem dX4_isPair_38 : decode cX4_isPair 38 = .ok (.iload_n 1, 1) := by decide +kernel
theorem dX4_isPair_39 : decode cX4_isPair 39 = .ok (.invokevirtual 120, 3) := by decide +kernel
theorem dX4_isPair_42 : decode cX4_isPair 42 = .ok (.iconst 2, 1) := by decide +kernel
theorem dX4_isPair_43 : decode cX4_isPair 43 = .ok (.irem, 1) := by decide +kernel
theorem dX4_isPair_44 : decode cX4_isPair 44 = .ok (.ifCond .ne 24, 3) := by decide +kernel
theorem dX4_isPair_47 : decode cX4_isPair 47 = .ok (.aload_n 0, 1) := by decide +kernel
theorem dX4_isPair_48 : decode cX4_isPair 48 = .ok (.iload_n 1, 1) := by decide +kernel
theorem dX4_isPair_49 : decode cX4_isPair 49 = .ok (.invokevirtual 120, 3) := by decide +kernel
theorem dX4_isPair_52 : decode cX4_isPair 52 = .ok (.iconst 1, 1) := by decide +kernel
theorem dX4_isPair_53 : decode cX4_isPair 53 = .ok (.iadd, 1) := by decide +kernel
theorem dX4_isPair_54 : decode cX4_isPair 54 = .ok (.aload_n 0, 1) := by decide +kernel
theorem dX4_isPair_55 : decode cX4_isPair 55 = .ok (.iload_n 1, 1) := by decide +kernel
theorem dX4_isPair_56 : decode cX4_isPair 56 = .ok (.iconst 1, 1) := by decide +kernel
theorem dX4_isPair_57 : decode cX4_isPair 57 = .ok (.iadd, 1) := by decide +kernel
theorem dX4_isPair_58 : decode cX4_isPair 58 = .ok (.invokevirtual 120, 3) := by decide +kernel
theorem dX4_isPair_61 : decode cX4_isPair 61 = .ok (.if_icmp .ne 7, 3) := by decide +kernel
theorem dX4_isPair_64 : decode cX4_isPair 64 = .ok (.iconst 1, 1) := by decide +kernel
theorem dX4_isPair_65 : decode cX4_isPair 65 = .ok (.goto 4, 3) := by decide +kernel
theorem dX4_isPair_68 : decode cX4_isPair 68 = .ok (.iconst 0, 1) := by decide +kernel
theorem dX4_isPair_69 : decode cX4_isPair 69 = .ok (.ireturn, 1) := by decide +kernel
set_option maxRecDepth 20000 in
theorem ggX4_joinAt_X4_depth : GoodIn wsX4_joinAt wsX4_depth := goodIn_r _ [8, 1, 9, 29, 30, 31, 32, 33, 34, 35, 36, 37, 38, 39, 40, 41, 42, 43, 44, 45, 46, 47, 48, 49, 50, 51, 52, 53, 54, 55, 56, 57] (by decide +kernel) (by decide +kernel)
set_option maxRecDepth 20000 in
theorem gX4_joinAt_X4_depth : GoodIn wsX4_joinAt (wsV RX4 116 RX4 yX4_depth wsX4_depth) := goodIn_app (goodIn_of _ (by decide +kernel)) ggX4_joinAt_X4_depth
set_option maxRecDepth 20000 in
theorem ggX4_joinAt_X4_sides : GoodIn wsX4_joinAt wsX4_sides := goodIn_r _ [13, 1, 14, 29, 30, 31, 32, 33, 34, 35, 36, 37, 38, 39, 40, 41, 42, 43, 44, 45, 46, 47, 48, 49, 50, 51, 52, 53, 54, 55, 56, 57] (by decide +kernel) (by decide +kernel)
set_option maxRecDepth 20000 in
theorem gX4_joinAt_X4_sides : GoodIn wsX4_joinAt (wsV RX4 120 RX4 yX4_sides wsX4_sides) := goodIn_app (goodIn_of _ (by decide +kernel)) ggX4_joinAt_X4_sides
set_option maxRecDepth 20000 in
theorem ggX4_joinAt_X4_address : GoodIn wsX4_joinAt wsX4_address := goodIn_r _ [18, 1, 29, 30, 31, 32, 33, 34, 35, 36, 37, 38, 39, 40, 41, 42, 43, 44, 45, 46, 47, 48, 49, 50, 51, 52, 53, 54, 55, 56, 57] (by decide +kernel) (by decide +kernel)
set_option maxRecDepth 20000 in
theorem gX4_joinAt_X4_address : GoodIn wsX4_joinAt (wsV RX4 123 RX4 yX4_address wsX4_address) := goodIn_app (goodIn_of _ (by decide +kernel)) ggX4_joinAt_X4_address
set_option maxRecDepth 20000 in
theorem ggX4_joinAt_X4_classAt : GoodIn wsX4_joinAt wsX4_classAt := goodIn_r _ [22, 23, 24, 25, 29, 30, 31, 32, 33, 34, 35, 36, 37, 38, 39, 40, 41, 42, 43, 44, 45, 46, 47, 48, 49, 50, 51, 52, 53, 54, 55, 56, 57] (by decide +kernel) (by decide +kernel)
set_option maxRecDepth 20000 in
theorem gX4_joinAt_X4_classAt : GoodIn wsX4_joinAt (wsV RX4 126 RX4 yX4_classAt wsX4_classAt) := goodIn_app (goodIn_of _ (by decide +kernel)) ggX4_joinAt_X4_classAt
set_option maxRecDepth 20000 in
theorem ggX4_joinAt_X4_nodeOf : GoodIn wsX4_joinAt wsX4_nodeOf := goodIn_r _ [28] (by decide +kernel) (by decide +kernel)
set_option maxRecDepth 20000 in
theorem gX4_joinAt_X4_nodeOf : GoodIn wsX4_joinAt (va_wsS RX4 99 yX4_nodeOf wsX4_nodeOf) := goodIn_app (goodIn_of _ (by decide +kernel)) ggX4_joinAt_X4_nodeOf
theorem dX4_joinAt_0 : decode cX4_joinAt 0 = .ok (.aload_n 0, 1) := by decide +kernel
theorem dX4_joinAt_1 : decode cX4_joinAt 1 = .ok (.iload_n 1, 1) := by decide +kernel
theorem dX4_joinAt_2 : decode cX4_joinAt 2 = .ok (.invokevirtual 116, 3) := by decide +kernel
theorem dX4_joinAt_5 : decode cX4_joinAt 5 = .ok (.iconst 1, 1) := by decide +kernel
theorem dX4_joinAt_6 : decode cX4_joinAt 6 = .ok (.isub, 1) := by decide +kernel
theorem dX4_joinAt_7 : decode cX4_joinAt 7 = .ok (.istore_n 2, 1) := by decide +kernel
theorem dX4_joinAt_8 : decode cX4_joinAt 8 = .ok (.aload_n 0, 1) := by decide +kernel
theorem dX4_joinAt_9 : decode cX4_joinAt 9 = .ok (.iload_n 1, 1) := by decide +kernel
theorem dX4_joinAt_10 : decode cX4_joinAt 10 = .ok (.invokevirtual 120, 3) := by decide +kernel
theorem dX4_joinAt_13 : decode cX4_joinAt 13 = .ok (.iconst 2, 1) := by decide +kernel
theorem dX4_joinAt_14 : decode cX4_joinAt 14 = .ok (.idiv, 1) := by decide +kernel
theorem dX4_joinAt_15 : decode cX4_joinAt 15 = .ok (.istore_n 3, 1) := by decide +kernel
theorem dX4_joinAt_16 : decode cX4_joinAt 16 = .ok (.aload_n 0, 1) := by decide +kernel
theorem dX4_joinAt_17 : decode cX4_joinAt 17 = .ok (.getfield 38, 3) := by decide +kernel
theorem dX4_joinAt_20 : decode cX4_joinAt 20 = .ok (.iload_n 1, 1) := by decide +kernel
theorem dX4_joinAt_21 : decode cX4_joinAt 21 = .ok (.aload_n 0, 1) := by decide +kernel
theorem dX4_joinAt_22 : decode cX4_joinAt 22 = .ok (.iload_n 1, 1) := by decide +kernel
theorem dX4_joinAt_23 : decode cX4_joinAt 23 = .ok (.invokevirtual 123, 3) := by decide +kernel
theorem dX4_joinAt_26 : decode cX4_joinAt 26 = .ok (.iconst 0, 1) := by decide +kernel
theorem dX4_joinAt_27 : decode cX4_joinAt 27 = .ok (.aload_n 0, 1) := by decide +kernel
theorem dX4_joinAt_28 : decode cX4_joinAt 28 = .ok (.iload_n 2, 1) := by decide +kernel
theorem dX4_joinAt_29 : decode cX4_joinAt 29 = .ok (.iload_n 3, 1) := by decide +kernel
theorem dX4_joinAt_30 : decode cX4_joinAt 30 = .ok (.invokevirtual 126, 3) := by decide +kernel
theorem dX4_joinAt_33 : decode cX4_joinAt 33 = .ok (.iload_n 2, 1) := by decide +kernel
theorem dX4_joinAt_34 : decode cX4_joinAt 34 = .ok (.iload_n 3, 1) := by decide +kernel
theorem dX4_joinAt_35 : decode cX4_joinAt 35 = .ok (.invokestatic 99, 3) := by decide +kernel
theorem dX4_joinAt_38 : decode cX4_joinAt 38 = .ok (.lastore, 1) := by decide +kernel
theorem dX4_joinAt_39 : decode cX4_joinAt 39 = .ok (.iload_n 1, 1) := by decide +kernel
theorem dX4_joinAt_40 : decode cX4_joinAt 40 = .ok (.iconst 1, 1) := by decide +kernel
theorem dX4_joinAt_41 : decode cX4_joinAt 41 = .ok (.iadd, 1) := by decide +kernel
theorem dX4_joinAt_42 : decode cX4_joinAt 42 = .ok (.istore 4, 2) := by decide +kernel
theorem dX4_joinAt_44 : decode cX4_joinAt 44 = .ok (.iload 4, 2) := by decide +kernel
theorem dX4_joinAt_46 : decode cX4_joinAt 46 = .ok (.iconst 1, 1) := by decide +kernel
theorem dX4_joinAt_47 : decode cX4_joinAt 47 = .ok (.iadd, 1) := by decide +kernel
theorem dX4_joinAt_48 : decode cX4_joinAt 48 = .ok (.aload_n 0, 1) := by decide +kernel
theorem dX4_joinAt_49 : decode cX4_joinAt 49 = .ok (.getfield 96, 3) := by decide +kernel
theorem dX4_joinAt_52 : decode cX4_joinAt 52 = .ok (.if_icmp .ge 25, 3) := by decide +kernel
theorem dX4_joinAt_55 : decode cX4_joinAt 55 = .ok (.aload_n 0, 1) := by decide +kernel
theorem dX4_joinAt_56 : decode cX4_joinAt 56 = .ok (.getfield 38, 3) := by decide +kernel
theorem dX4_joinAt_59 : decode cX4_joinAt 59 = .ok (.iload 4, 2) := by decide +kernel
theorem dX4_joinAt_61 : decode cX4_joinAt 61 = .ok (.aload_n 0, 1) := by decide +kernel
theorem dX4_joinAt_62 : decode cX4_joinAt 62 = .ok (.getfield 38, 3) := by decide +kernel
theorem dX4_joinAt_65 : decode cX4_joinAt 65 = .ok (.iload 4, 2) := by decide +kernel
theorem dX4_joinAt_67 : decode cX4_joinAt 67 = .ok (.iconst 1, 1) := by decide +kernel
theorem dX4_joinAt_68 : decode cX4_joinAt 68 = .ok (.iadd, 1) := by decide +kernel
theorem dX4_joinAt_69 : decode cX4_joinAt 69 = .ok (.laload, 1) := by decide +kernel
theorem dX4_joinAt_70 : decode cX4_joinAt 70 = .ok (.lastore, 1) := by decide +kernel
theorem dX4_joinAt_71 : decode cX4_joinAt 71 = .ok (.iinc 4 1, 3) := by decide +kernel
theorem dX4_joinAt_74 : decode cX4_joinAt 74 = .ok (.goto (-30), 3) := by decide +kernel
theorem dX4_joinAt_77 : decode cX4_joinAt 77 = .ok (.aload_n 0, 1) := by decide +kernel
theorem dX4_joinAt_78 : decode cX4_joinAt 78 = .ok (.dup, 1) := by decide +kernel
theorem dX4_joinAt_79 : decode cX4_joinAt 79 = .ok (.getfield 96, 3) := by decide +kernel
theorem dX4_joinAt_82 : decode cX4_joinAt 82 = .ok (.iconst 1, 1) := by decide +kernel
theorem dX4_joinAt_83 : decode cX4_joinAt 83 = .ok (.isub, 1) := by decide +kernel
theorem dX4_joinAt_84 : decode cX4_joinAt 84 = .ok (.putfield 96, 3) := by decide +kernel
theorem dX4_joinAt_87 : decode cX4_joinAt 87 = .ok (.aload_n 0, 1) := by decide +kernel
theorem dX4_joinAt_88 : decode cX4_joinAt 88 = .ok (.dup, 1) := by decide +kernel
theorem dX4_joinAt_89 : decode cX4_joinAt 89 = .ok (.getfield 106, 3) := by decide +kernel
theorem dX4_joinAt_92 : decode cX4_joinAt 92 = .ok (.iconst 1, 1) := by decide +kernel
theorem dX4_joinAt_93 : decode cX4_joinAt 93 = .ok (.iadd, 1) := by decide +kernel
theorem dX4_joinAt_94 : decode cX4_joinAt 94 = .ok (.putfield 106, 3) := by decide +kernel
theorem dX4_joinAt_97 : decode cX4_joinAt 97 = .ok (.return_, 1) := by decide +kernel
set_option maxRecDepth 20000 in
theorem ggX4_joinAll_X4_isPair : GoodIn wsX4_joinAll wsX4_isPair := goodIn_r _ [7, 2, 8, 9, 10, 6, 11, 12, 13, 14, 15, 16, 17, 18, 41, 42, 43, 44, 45, 46, 47, 48, 49, 50, 51, 52, 53, 54, 55, 56, 57, 58, 59, 60, 61, 62, 63, 64, 65, 66, 67, 68, 69] (by decide +kernel) (by decide +kernel)
set_option maxRecDepth 20000 in
theorem gX4_joinAll_X4_isPair : GoodIn wsX4_joinAll (wsV RX4 129 RX4 yX4_isPair wsX4_isPair) := goodIn_app (goodIn_of _ (by decide +kernel)) ggX4_joinAll_X4_isPair
set_option maxRecDepth 20000 in
theorem ggX4_joinAll_X4_isLive : GoodIn wsX4_joinAll wsX4_isLive := goodIn_r _ [22, 12, 41, 42, 43, 44, 45, 46, 47, 48, 49, 50, 51, 52, 53, 54, 55, 56, 57, 58, 59, 60, 61, 62, 63, 64, 65, 66, 67, 68, 69] (by decide +kernel) (by decide +kernel)
set_option maxRecDepth 20000 in
theorem gX4_joinAll_X4_isLive : GoodIn wsX4_joinAll (wsV RX4 132 RX4 yX4_isLive wsX4_isLive) := goodIn_app (goodIn_of _ (by decide +kernel)) ggX4_joinAll_X4_isLive
set_option maxRecDepth 20000 in
theorem ggX4_joinAll_X4_joinAt : GoodIn wsX4_joinAll wsX4_joinAt := goodIn_r _ [26, 12, 2, 1, 8, 9, 10, 6, 11, 13, 14, 15, 16, 17, 18, 27, 28, 29, 30, 31, 32, 33, 34, 35, 36, 37, 38, 39, 40, 41, 42, 43, 44, 45, 46, 47, 48, 49, 50, 51, 52, 53, 54, 55, 56, 57, 58, 59, 60, 61, 62, 63, 64, 65, 66, 67, 68, 69] (by decide +kernel) (by decide +kernel)
set_option maxRecDepth 20000 in
theorem gX4_joinAll_X4_joinAt : GoodIn wsX4_joinAll (wsV RX4 135 RX4 yX4_joinAt wsX4_joinAt) := goodIn_app (goodIn_of _ (by decide +kernel)) ggX4_joinAll_X4_joinAt
theorem dX4_joinAll_0 : decode cX4_joinAll 0 = .ok (.aload_n 0, 1) := by decide +kernel
theorem dX4_joinAll_1 : decode cX4_joinAll 1 = .ok (.getfield 106, 3) := by decide +kernel
theorem dX4_joinAll_4 : decode cX4_joinAll 4 = .ok (.istore_n 1, 1) := by decide +kernel
theorem dX4_joinAll_5 : decode cX4_joinAll 5 = .ok (.iconst 0, 1) := by decide +kernel
theorem dX4_joinAll_6 : decode cX4_joinAll 6 = .ok (.istore_n 2, 1) := by decide +kernel
theorem dX4_joinAll_7 : decode cX4_joinAll 7 = .ok (.iload_n 2, 1) := by decide +kernel
theorem dX4_joinAll_8 : decode cX4_joinAll 8 = .ok (.aload_n 0, 1) := by decide +kernel
theorem dX4_joinAll_9 : decode cX4_joinAll 9 = .ok (.getfield 96, 3) := by decide +kernel
theorem dX4_joinAll_12 : decode cX4_joinAll 12 = .ok (.if_icmp .ge 55, 3) := by decide +kernel
theorem dX4_joinAll_15 : decode cX4_joinAll 15 = .ok (.aload_n 0, 1) := by decide +kernel
theorem dX4_joinAll_16 : decode cX4_joinAll 16 = .ok (.iload_n 2, 1) := by decide +kernel
theorem dX4_joinAll_17 : decode cX4_joinAll 17 = .ok (.invokevirtual 129, 3) := by decide +kernel
theorem dX4_joinAll_20 : decode cX4_joinAll 20 = .ok (.ifCond .eq 41, 3) := by decide +kernel
theorem dX4_joinAll_23 : decode cX4_joinAll 23 = .ok (.aload_n 0, 1) := by decide +kernel
theorem dX4_joinAll_24 : decode cX4_joinAll 24 = .ok (.iload_n 2, 1) := by decide +kernel
theorem dX4_joinAll_25 : decode cX4_joinAll 25 = .ok (.invokevirtual 132, 3) := by decide +kernel
theorem dX4_joinAll_28 : decode cX4_joinAll 28 = .ok (.ifCond .ne 33, 3) := by decide +kernel
theorem dX4_joinAll_31 : decode cX4_joinAll 31 = .ok (.aload_n 0, 1) := by decide +kernel
theorem dX4_joinAll_32 : decode cX4_joinAll 32 = .ok (.iload_n 2, 1) := by decide +kernel
theorem dX4_joinAll_33 : decode cX4_joinAll 33 = .ok (.iconst 1, 1) := by decide +kernel
theorem dX4_joinAll_34 : decode cX4_joinAll 34 = .ok (.iadd, 1) := by decide +kernel
theorem dX4_joinAll_35 : decode cX4_joinAll 35 = .ok (.invokevirtual 132, 3) := by decide +kernel
theorem dX4_joinAll_38 : decode cX4_joinAll 38 = .ok (.ifCond .ne 23, 3) := by decide +kernel
theorem dX4_joinAll_41 : decode cX4_joinAll 41 = .ok (.aload_n 0, 1) := by decide +kernel
theorem dX4_joinAll_42 : decode cX4_joinAll 42 = .ok (.iload_n 2, 1) := by decide +kernel
theorem dX4_joinAll_43 : decode cX4_joinAll 43 = .ok (.invokevirtual 135, 3) := by decide +kernel
theorem dX4_joinAll_46 : decode cX4_joinAll 46 = .ok (.iload_n 2, 1) := by decide +kernel
theorem dX4_joinAll_47 : decode cX4_joinAll 47 = .ok (.ifCond .le 9, 3) := by decide +kernel
theorem dX4_joinAll_50 : decode cX4_joinAll 50 = .ok (.iload_n 2, 1) := by decide +kernel
theorem dX4_joinAll_51 : decode cX4_joinAll 51 = .ok (.iconst 1, 1) := by decide +kernel
theorem dX4_joinAll_52 : decode cX4_joinAll 52 = .ok (.isub, 1) := by decide +kernel
theorem dX4_joinAll_53 : decode cX4_joinAll 53 = .ok (.goto 4, 3) := by decide +kernel
theorem dX4_joinAll_56 : decode cX4_joinAll 56 = .ok (.iconst 0, 1) := by decide +kernel
theorem dX4_joinAll_57 : decode cX4_joinAll 57 = .ok (.istore_n 2, 1) := by decide +kernel
theorem dX4_joinAll_58 : decode cX4_joinAll 58 = .ok (.goto (-51), 3) := by decide +kernel
theorem dX4_joinAll_61 : decode cX4_joinAll 61 = .ok (.iinc 2 1, 3) := by decide +kernel
theorem dX4_joinAll_64 : decode cX4_joinAll 64 = .ok (.goto (-57), 3) := by decide +kernel
theorem dX4_joinAll_67 : decode cX4_joinAll 67 = .ok (.aload_n 0, 1) := by decide +kernel
theorem dX4_joinAll_68 : decode cX4_joinAll 68 = .ok (.getfield 106, 3) := by decide +kernel
theorem dX4_joinAll_71 : decode cX4_joinAll 71 = .ok (.iload_n 1, 1) := by decide +kernel
theorem dX4_joinAll_72 : decode cX4_joinAll 72 = .ok (.isub, 1) := by decide +kernel
theorem dX4_joinAll_73 : decode cX4_joinAll 73 = .ok (.ireturn, 1) := by decide +kernel
set_option maxRecDepth 20000 in
theorem ggX4_freeOf_X4_isLive : GoodIn wsX4_freeOf wsX4_isLive := goodIn_r _ [6, 7, 13, 14, 15, 16, 17, 18, 19, 20, 21, 22, 23, 24, 25, 26, 27, 28, 29, 30, 31, 32, 33, 34, 35, 36, 37, 38, 39, 40, 41] (by decide +kernel) (by decide +kernel)
set_option maxRecDepth 20000 in
theorem gX4_freeOf_X4_isLive : GoodIn wsX4_freeOf (wsV RX4 132 RX4 yX4_isLive wsX4_isLive) := goodIn_app (goodIn_of _ (by decide +kernel)) ggX4_freeOf_X4_isLive
set_option maxRecDepth 20000 in
theorem ggX4_freeOf_X4_classOf : GoodIn wsX4_freeOf wsX4_classOf := goodIn_r _ [11, 7, 12, 13, 14, 15, 16, 17, 18, 19, 20, 21, 22, 23, 24, 25, 26, 27, 28, 29, 30, 31, 32, 33, 34, 35, 36, 37, 38, 39, 40, 41] (by decide +kernel) (by decide +kernel)
set_option maxRecDepth 20000 in
theorem gX4_freeOf_X4_classOf : GoodIn wsX4_freeOf (wsV RX4 139 RX4 yX4_classOf wsX4_classOf) := goodIn_app (goodIn_of _ (by decide +kernel)) ggX4_freeOf_X4_classOf
theorem dX4_freeOf_0 : decode cX4_freeOf 0 = .ok (.iconst 0, 1) := by decide +kernel
theorem dX4_freeOf_1 : decode cX4_freeOf 1 = .ok (.istore_n 2, 1) := by decide +kernel
theorem dX4_freeOf_2 : decode cX4_freeOf 2 = .ok (.iconst 0, 1) := by decide +kernel
theorem dX4_freeOf_3 : decode cX4_freeOf 3 = .ok (.istore_n 3, 1) := by decide +kernel
theorem dX4_freeOf_4 : decode cX4_freeOf 4 = .ok (.iload_n 3, 1) := by decide +kernel
theorem dX4_freeOf_5 : decode cX4_freeOf 5 = .ok (.aload_n 0, 1) := by decide +kernel
theorem dX4_freeOf_6 : decode cX4_freeOf 6 = .ok (.getfield 96, 3) := by decide +kernel
theorem dX4_freeOf_9 : decode cX4_freeOf 9 = .ok (.if_icmp .ge 29, 3) := by decide +kernel
theorem dX4_freeOf_12 : decode cX4_freeOf 12 = .ok (.aload_n 0, 1) := by decide +kernel
theorem dX4_freeOf_13 : decode cX4_freeOf 13 = .ok (.iload_n 3, 1) := by decide +kernel
theorem dX4_freeOf_14 : decode cX4_freeOf 14 = .ok (.invokevirtual 132, 3) := by decide +kernel
theorem dX4_freeOf_17 : decode cX4_freeOf 17 = .ok (.ifCond .ne 15, 3) := by decide +kernel
theorem dX4_freeOf_20 : decode cX4_freeOf 20 = .ok (.aload_n 0, 1) := by decide +kernel
theorem dX4_freeOf_21 : decode cX4_freeOf 21 = .ok (.iload_n 3, 1) := by decide +kernel
theorem dX4_freeOf_22 : decode cX4_freeOf 22 = .ok (.invokevirtual 139, 3) := by decide +kernel
theorem dX4_freeOf_25 : decode cX4_freeOf 25 = .ok (.iload_n 1, 1) := by decide +kernel
theorem dX4_freeOf_26 : decode cX4_freeOf 26 = .ok (.if_icmp .ne 6, 3) := by decide +kernel
theorem dX4_freeOf_29 : decode cX4_freeOf 29 = .ok (.iinc 2 1, 3) := by decide +kernel
theorem dX4_freeOf_32 : decode cX4_freeOf 32 = .ok (.iinc 3 1, 3) := by decide +kernel
theorem dX4_freeOf_35 : decode cX4_freeOf 35 = .ok (.goto (-31), 3) := by decide +kernel
theorem dX4_freeOf_38 : decode cX4_freeOf 38 = .ok (.iload_n 2, 1) := by decide +kernel
theorem dX4_freeOf_39 : decode cX4_freeOf 39 = .ok (.ireturn, 1) := by decide +kernel
set_option maxRecDepth 20000 in
theorem ggX4_best_X4_isLive : GoodIn wsX4_best wsX4_isLive := goodIn_r _ [7, 8, 14, 15, 16, 17, 18, 19, 20, 21, 22, 23, 24, 25, 26, 27, 28, 29, 30, 31, 32, 33, 34, 35, 36, 37, 38, 39, 40, 41, 42] (by decide +kernel) (by decide +kernel)
set_option maxRecDepth 20000 in
theorem gX4_best_X4_isLive : GoodIn wsX4_best (wsV RX4 132 RX4 yX4_isLive wsX4_isLive) := goodIn_app (goodIn_of _ (by decide +kernel)) ggX4_best_X4_isLive
set_option maxRecDepth 20000 in
theorem ggX4_best_X4_classOf : GoodIn wsX4_best wsX4_classOf := goodIn_r _ [12, 8, 13, 14, 15, 16, 17, 18, 19, 20, 21, 22, 23, 24, 25, 26, 27, 28, 29, 30, 31, 32, 33, 34, 35, 36, 37, 38, 39, 40, 41, 42] (by decide +kernel) (by decide +kernel)
set_option maxRecDepth 20000 in
theorem gX4_best_X4_classOf : GoodIn wsX4_best (wsV RX4 139 RX4 yX4_classOf wsX4_classOf) := goodIn_app (goodIn_of _ (by decide +kernel)) ggX4_best_X4_classOf
theorem dX4_best_0 : decode cX4_best 0 = .ok (.iconst (-1), 1) := by decide +kernel
theorem dX4_best_1 : decode cX4_best 1 = .ok (.istore_n 2, 1) := by decide +kernel
theorem dX4_best_2 : decode cX4_best 2 = .ok (.iconst 0, 1) := by decide +kernel
theorem dX4_best_3 : decode cX4_best 3 = .ok (.istore_n 3, 1) := by decide +kernel
theorem dX4_best_4 : decode cX4_best 4 = .ok (.iload_n 3, 1) := by decide +kernel
theorem dX4_best_5 : decode cX4_best 5 = .ok (.aload_n 0, 1) := by decide +kernel
theorem dX4_best_6 : decode cX4_best 6 = .ok (.getfield 96, 3) := by decide +kernel
theorem dX4_best_9 : decode cX4_best 9 = .ok (.if_icmp .ge 63, 3) := by decide +kernel
theorem dX4_best_12 : decode cX4_best 12 = .ok (.aload_n 0, 1) := by decide +kernel
theorem dX4_best_13 : decode cX4_best 13 = .ok (.iload_n 3, 1) := by decide +kernel
theorem dX4_best_14 : decode cX4_best 14 = .ok (.invokevirtual 132, 3) := by decide +kernel
theorem dX4_best_17 : decode cX4_best 17 = .ok (.ifCond .ne 49, 3) := by decide +kernel
theorem dX4_best_20 : decode cX4_best 20 = .ok (.aload_n 0, 1) := by decide +kernel
theorem dX4_best_21 : decode cX4_best 21 = .ok (.getfield 19, 3) := by decide +kernel
theorem dX4_best_24 : decode cX4_best 24 = .ok (.aload_n 0, 1) := by decide +kernel
theorem dX4_best_25 : decode cX4_best 25 = .ok (.iload_n 3, 1) := by decide +kernel
theorem dX4_best_26 : decode cX4_best 26 = .ok (.invokevirtual 139, 3) := by decide +kernel
theorem dX4_best_29 : decode cX4_best 29 = .ok (.iaload, 1) := by decide +kernel
theorem dX4_best_30 : decode cX4_best 30 = .ok (.iload_n 1, 1) := by decide +kernel
theorem dX4_best_31 : decode cX4_best 31 = .ok (.if_icmp .ge 6, 3) := by decide +kernel
theorem dX4_best_34 : decode cX4_best 34 = .ok (.goto 32, 3) := by decide +kernel
theorem dX4_best_37 : decode cX4_best 37 = .ok (.iload_n 2, 1) := by decide +kernel
theorem dX4_best_38 : decode cX4_best 38 = .ok (.ifCond .lt 26, 3) := by decide +kernel
theorem dX4_best_41 : decode cX4_best 41 = .ok (.aload_n 0, 1) := by decide +kernel
theorem dX4_best_42 : decode cX4_best 42 = .ok (.getfield 19, 3) := by decide +kernel
theorem dX4_best_45 : decode cX4_best 45 = .ok (.aload_n 0, 1) := by decide +kernel
theorem dX4_best_46 : decode cX4_best 46 = .ok (.iload_n 3, 1) := by decide +kernel
theorem dX4_best_47 : decode cX4_best 47 = .ok (.invokevirtual 139, 3) := by decide +kernel
theorem dX4_best_50 : decode cX4_best 50 = .ok (.iaload, 1) := by decide +kernel
theorem dX4_best_51 : decode cX4_best 51 = .ok (.aload_n 0, 1) := by decide +kernel
theorem dX4_best_52 : decode cX4_best 52 = .ok (.getfield 19, 3) := by decide +kernel
theorem dX4_best_55 : decode cX4_best 55 = .ok (.aload_n 0, 1) := by decide +kernel
theorem dX4_best_56 : decode cX4_best 56 = .ok (.iload_n 2, 1) := by decide +kernel
theorem dX4_best_57 : decode cX4_best 57 = .ok (.invokevirtual 139, 3) := by decide +kernel
theorem dX4_best_60 : decode cX4_best 60 = .ok (.iaload, 1) := by decide +kernel
theorem dX4_best_61 : decode cX4_best 61 = .ok (.if_icmp .ge 5, 3) := by decide +kernel
theorem dX4_best_64 : decode cX4_best 64 = .ok (.iload_n 3, 1) := by decide +kernel
theorem dX4_best_65 : decode cX4_best 65 = .ok (.istore_n 2, 1) := by decide +kernel
theorem dX4_best_66 : decode cX4_best 66 = .ok (.iinc 3 1, 3) := by decide +kernel
theorem dX4_best_69 : decode cX4_best 69 = .ok (.goto (-65), 3) := by decide +kernel
theorem dX4_best_72 : decode cX4_best 72 = .ok (.iload_n 2, 1) := by decide +kernel
theorem dX4_best_73 : decode cX4_best 73 = .ok (.ireturn, 1) := by decide +kernel
set_option maxRecDepth 20000 in
theorem ggX4_giveWords_X4_best : GoodIn wsX4_giveWords wsX4_best := goodIn_r _ [15, 4, 3, 16, 17, 18, 14, 19, 5, 20, 21, 22, 23, 24, 59, 60, 61, 62, 63, 64, 65, 66, 67, 68, 69, 70, 71, 72, 73, 74, 75, 76, 77, 78, 79, 80, 81, 82, 83, 84, 85, 86, 87] (by decide +kernel) (by decide +kernel)
set_option maxRecDepth 20000 in
theorem gX4_giveWords_X4_best : GoodIn wsX4_giveWords (wsV RX4 142 RX4 yX4_best wsX4_best) := goodIn_app (goodIn_of _ (by decide +kernel)) ggX4_giveWords_X4_best
set_option maxRecDepth 20000 in
theorem ggX4_giveWords_X4_joinAll : GoodIn wsX4_giveWords wsX4_joinAll := goodIn_r _ [28, 29, 4, 30, 31, 32, 14, 33, 34, 35, 36, 37, 5, 24, 38, 39, 40, 41, 42, 16, 17, 18, 19, 43, 44, 45, 46, 47, 48, 49, 50, 51, 52, 53, 54, 55, 1, 2, 56, 57, 58, 59, 60, 61, 62, 63, 64, 65, 66, 67, 68, 69, 70, 71, 72, 73, 74, 75, 76, 77, 78, 79, 80, 81, 82, 83, 84, 85, 86, 87] (by decide +kernel) (by decide +kernel)
set_option maxRecDepth 20000 in
theorem gX4_giveWords_X4_joinAll : GoodIn wsX4_giveWords (wsV RX4 145 RX4 yX4_joinAll wsX4_joinAll) := goodIn_app (goodIn_of _ (by decide +kernel)) ggX4_giveWords_X4_joinAll
set_option maxRecDepth 20000 in
theorem ggX4_giveWords_X4_classOf : GoodIn wsX4_giveWords wsX4_classOf := goodIn_r _ [23, 5, 24, 59, 60, 61, 62, 63, 64, 65, 66, 67, 68, 69, 70, 71, 72, 73, 74, 75, 76, 77, 78, 79, 80, 81, 82, 83, 84, 85, 86, 87] (by decide +kernel) (by decide +kernel)
set_option maxRecDepth 20000 in
theorem gX4_giveWords_X4_classOf : GoodIn wsX4_giveWords (wsV RX4 139 RX4 yX4_classOf wsX4_classOf) := goodIn_app (goodIn_of _ (by decide +kernel)) ggX4_giveWords_X4_classOf
set_option maxRecDepth 20000 in
theorem ggX4_giveWords_X4_address : GoodIn wsX4_giveWords wsX4_address := goodIn_r _ [50, 5, 59, 60, 61, 62, 63, 64, 65, 66, 67, 68, 69, 70, 71, 72, 73, 74, 75, 76, 77, 78, 79, 80, 81, 82, 83, 84, 85, 86, 87] (by decide +kernel) (by decide +kernel)
set_option maxRecDepth 20000 in
theorem gX4_giveWords_X4_address : GoodIn wsX4_giveWords (wsV RX4 123 RX4 yX4_address wsX4_address) := goodIn_app (goodIn_of _ (by decide +kernel)) ggX4_giveWords_X4_address
set_option maxRecDepth 20000 in
theorem ggX4_giveWords_X4_depth : GoodIn wsX4_giveWords wsX4_depth := goodIn_r _ [37, 5, 24, 59, 60, 61, 62, 63, 64, 65, 66, 67, 68, 69, 70, 71, 72, 73, 74, 75, 76, 77, 78, 79, 80, 81, 82, 83, 84, 85, 86, 87] (by decide +kernel) (by decide +kernel)
set_option maxRecDepth 20000 in
theorem gX4_giveWords_X4_depth : GoodIn wsX4_giveWords (wsV RX4 116 RX4 yX4_depth wsX4_depth) := goodIn_app (goodIn_of _ (by decide +kernel)) ggX4_giveWords_X4_depth
set_option maxRecDepth 20000 in
theorem ggX4_giveWords_X4_sides : GoodIn wsX4_giveWords wsX4_sides := goodIn_r _ [41, 5, 42, 59, 60, 61, 62, 63, 64, 65, 66, 67, 68, 69, 70, 71, 72, 73, 74, 75, 76, 77, 78, 79, 80, 81, 82, 83, 84, 85, 86, 87] (by decide +kernel) (by decide +kernel)
set_option maxRecDepth 20000 in
theorem gX4_giveWords_X4_sides : GoodIn wsX4_giveWords (wsV RX4 120 RX4 yX4_sides wsX4_sides) := goodIn_app (goodIn_of _ (by decide +kernel)) ggX4_giveWords_X4_sides
set_option maxRecDepth 20000 in
theorem ggX4_giveWords_X4_nodeOf : GoodIn wsX4_giveWords wsX4_nodeOf := goodIn_r _ [58] (by decide +kernel) (by decide +kernel)
set_option maxRecDepth 20000 in
theorem gX4_giveWords_X4_nodeOf : GoodIn wsX4_giveWords (va_wsS RX4 99 yX4_nodeOf wsX4_nodeOf) := goodIn_app (goodIn_of _ (by decide +kernel)) ggX4_giveWords_X4_nodeOf
theorem dX4_giveWords_0 : decode cX4_giveWords 0 = .ok (.aload_n 0, 1) := by decide +kernel
theorem dX4_giveWords_1 : decode cX4_giveWords 1 = .ok (.iload_n 1, 1) := by decide +kernel
theorem dX4_giveWords_2 : decode cX4_giveWords 2 = .ok (.invokevirtual 142, 3) := by decide +kernel
theorem dX4_giveWords_5 : decode cX4_giveWords 5 = .ok (.istore_n 2, 1) := by decide +kernel
theorem dX4_giveWords_6 : decode cX4_giveWords 6 = .ok (.iload_n 2, 1) := by decide +kernel
theorem dX4_giveWords_7 : decode cX4_giveWords 7 = .ok (.ifCond .ge 14, 3) := by decide +kernel
theorem dX4_giveWords_10 : decode cX4_giveWords 10 = .ok (.aload_n 0, 1) := by decide +kernel
theorem dX4_giveWords_11 : decode cX4_giveWords 11 = .ok (.invokevirtual 145, 3) := by decide +kernel
theorem dX4_giveWords_14 : decode cX4_giveWords 14 = .ok (.pop, 1) := by decide +kernel
theorem dX4_giveWords_15 : decode cX4_giveWords 15 = .ok (.aload_n 0, 1) := by decide +kernel
theorem dX4_giveWords_16 : decode cX4_giveWords 16 = .ok (.iload_n 1, 1) := by decide +kernel
theorem dX4_giveWords_17 : decode cX4_giveWords 17 = .ok (.invokevirtual 142, 3) := by decide +kernel
theorem dX4_giveWords_20 : decode cX4_giveWords 20 = .ok (.istore_n 2, 1) := by decide +kernel
theorem dX4_giveWords_21 : decode cX4_giveWords 21 = .ok (.iload_n 2, 1) := by decide +kernel
theorem dX4_giveWords_22 : decode cX4_giveWords 22 = .ok (.ifCond .ge 5, 3) := by decide +kernel
theorem dX4_giveWords_25 : decode cX4_giveWords 25 = .ok (.iconst (-1), 1) := by decide +kernel
theorem dX4_giveWords_26 : decode cX4_giveWords 26 = .ok (.ireturn, 1) := by decide +kernel
theorem dX4_giveWords_27 : decode cX4_giveWords 27 = .ok (.iconst 1, 1) := by decide +kernel
theorem dX4_giveWords_28 : decode cX4_giveWords 28 = .ok (.istore_n 3, 1) := by decide +kernel
theorem dX4_giveWords_29 : decode cX4_giveWords 29 = .ok (.iload_n 3, 1) := by decide +kernel
theorem dX4_giveWords_30 : decode cX4_giveWords 30 = .ok (.ifCond .eq 259, 3) := by decide +kernel
theorem dX4_giveWords_33 : decode cX4_giveWords 33 = .ok (.aload_n 0, 1) := by decide +kernel
theorem dX4_giveWords_34 : decode cX4_giveWords 34 = .ok (.iload_n 2, 1) := by decide +kernel
theorem dX4_giveWords_35 : decode cX4_giveWords 35 = .ok (.invokevirtual 139, 3) := by decide +kernel
theorem dX4_giveWords_38 : decode cX4_giveWords 38 = .ok (.istore 4, 2) := by decide +kernel
theorem dX4_giveWords_40 : decode cX4_giveWords 40 = .ok (.aload_n 0, 1) := by decide +kernel
theorem dX4_giveWords_41 : decode cX4_giveWords 41 = .ok (.getfield 22, 3) := by decide +kernel
theorem dX4_giveWords_44 : decode cX4_giveWords 44 = .ok (.iload 4, 2) := by decide +kernel
theorem dX4_giveWords_46 : decode cX4_giveWords 46 = .ok (.iaload, 1) := by decide +kernel
theorem dX4_giveWords_47 : decode cX4_giveWords 47 = .ok (.istore 5, 2) := by decide +kernel
theorem dX4_giveWords_49 : decode cX4_giveWords 49 = .ok (.aload_n 0, 1) := by decide +kernel
theorem dX4_giveWords_50 : decode cX4_giveWords 50 = .ok (.getfield 25, 3) := by decide +kernel
theorem dX4_giveWords_53 : decode cX4_giveWords 53 = .ok (.iload 4, 2) := by decide +kernel
theorem dX4_giveWords_55 : decode cX4_giveWords 55 = .ok (.iaload, 1) := by decide +kernel
theorem dX4_giveWords_56 : decode cX4_giveWords 56 = .ok (.istore 6, 2) := by decide +kernel
theorem dX4_giveWords_58 : decode cX4_giveWords 58 = .ok (.iload 5, 2) := by decide +kernel
theorem dX4_giveWords_60 : decode cX4_giveWords 60 = .ok (.ifCond .le 18, 3) := by decide +kernel
theorem dX4_giveWords_63 : decode cX4_giveWords 63 = .ok (.aload_n 0, 1) := by decide +kernel
theorem dX4_giveWords_64 : decode cX4_giveWords 64 = .ok (.getfield 19, 3) := by decide +kernel
theorem dX4_giveWords_67 : decode cX4_giveWords 67 = .ok (.iload 5, 2) := by decide +kernel
theorem dX4_giveWords_69 : decode cX4_giveWords 69 = .ok (.iaload, 1) := by decide +kernel
theorem dX4_giveWords_70 : decode cX4_giveWords 70 = .ok (.iload_n 1, 1) := by decide +kernel
theorem dX4_giveWords_71 : decode cX4_giveWords 71 = .ok (.if_icmp .lt 7, 3) := by decide +kernel
theorem dX4_giveWords_74 : decode cX4_giveWords 74 = .ok (.iconst 1, 1) := by decide +kernel
theorem dX4_giveWords_75 : decode cX4_giveWords 75 = .ok (.goto 4, 3) := by decide +kernel
theorem dX4_giveWords_78 : decode cX4_giveWords 78 = .ok (.iconst 0, 1) := by decide +kernel
theorem dX4_giveWords_79 : decode cX4_giveWords 79 = .ok (.istore 7, 2) := by decide +kernel
theorem dX4_giveWords_81 : decode cX4_giveWords 81 = .ok (.iload 5, 2) := by decide +kernel
theorem dX4_giveWords_83 : decode cX4_giveWords 83 = .ok (.ifCond .le 18, 3) := by decide +kernel
theorem dX4_giveWords_86 : decode cX4_giveWords 86 = .ok (.aload_n 0, 1) := by decide +kernel
theorem dX4_giveWords_87 : decode cX4_giveWords 87 = .ok (.getfield 19, 3) := by decide +kernel
theorem dX4_giveWords_90 : decode cX4_giveWords 90 = .ok (.iload 6, 2) := by decide +kernel
theorem dX4_giveWords_92 : decode cX4_giveWords 92 = .ok (.iaload, 1) := by decide +kernel
theorem dX4_giveWords_93 : decode cX4_giveWords 93 = .ok (.iload_n 1, 1) := by decide +kernel
theorem dX4_giveWords_94 : decode cX4_giveWords 94 = .ok (.if_icmp .lt 7, 3) := by decide +kernel
theorem dX4_giveWords_97 : decode cX4_giveWords 97 = .ok (.iconst 1, 1) := by decide +kernel
theorem dX4_giveWords_98 : decode cX4_giveWords 98 = .ok (.goto 4, 3) := by decide +kernel
theorem dX4_giveWords_101 : decode cX4_giveWords 101 = .ok (.iconst 0, 1) := by decide +kernel
theorem dX4_giveWords_102 : decode cX4_giveWords 102 = .ok (.istore 8, 2) := by decide +kernel
theorem dX4_giveWords_104 : decode cX4_giveWords 104 = .ok (.iload 7, 2) := by decide +kernel
theorem dX4_giveWords_106 : decode cX4_giveWords 106 = .ok (.ifCond .ne 8, 3) := by decide +kernel
theorem dX4_giveWords_109 : decode cX4_giveWords 109 = .ok (.iload 8, 2) := by decide +kernel
theorem dX4_giveWords_111 : decode cX4_giveWords 111 = .ok (.ifCond .eq 7, 3) := by decide +kernel
theorem dX4_giveWords_114 : decode cX4_giveWords 114 = .ok (.iconst 1, 1) := by decide +kernel
theorem dX4_giveWords_115 : decode cX4_giveWords 115 = .ok (.goto 4, 3) := by decide +kernel
theorem dX4_giveWords_118 : decode cX4_giveWords 118 = .ok (.iconst 0, 1) := by decide +kernel
theorem dX4_giveWords_119 : decode cX4_giveWords 119 = .ok (.istore_n 3, 1) := by decide +kernel
theorem dX4_giveWords_120 : decode cX4_giveWords 120 = .ok (.iload_n 3, 1) := by decide +kernel
theorem dX4_giveWords_121 : decode cX4_giveWords 121 = .ok (.ifCond .ne 6, 3) := by decide +kernel
theorem dX4_giveWords_124 : decode cX4_giveWords 124 = .ok (.goto (-95), 3) := by decide +kernel
theorem dX4_giveWords_127 : decode cX4_giveWords 127 = .ok (.aload_n 0, 1) := by decide +kernel
theorem dX4_giveWords_128 : decode cX4_giveWords 128 = .ok (.getfield 96, 3) := by decide +kernel
theorem dX4_giveWords_131 : decode cX4_giveWords 131 = .ok (.istore 9, 2) := by decide +kernel
theorem dX4_giveWords_133 : decode cX4_giveWords 133 = .ok (.iload 9, 2) := by decide +kernel
theorem dX4_giveWords_135 : decode cX4_giveWords 135 = .ok (.iload_n 2, 1) := by decide +kernel
theorem dX4_giveWords_136 : decode cX4_giveWords 136 = .ok (.iconst 1, 1) := by decide +kernel
theorem dX4_giveWords_137 : decode cX4_giveWords 137 = .ok (.iadd, 1) := by decide +kernel
theorem dX4_giveWords_138 : decode cX4_giveWords 138 = .ok (.if_icmp .le 25, 3) := by decide +kernel
theorem dX4_giveWords_141 : decode cX4_giveWords 141 = .ok (.aload_n 0, 1) := by decide +kernel
theorem dX4_giveWords_142 : decode cX4_giveWords 142 = .ok (.getfield 38, 3) := by decide +kernel
theorem dX4_giveWords_145 : decode cX4_giveWords 145 = .ok (.iload 9, 2) := by decide +kernel
theorem dX4_giveWords_147 : decode cX4_giveWords 147 = .ok (.aload_n 0, 1) := by decide +kernel
theorem dX4_giveWords_148 : decode cX4_giveWords 148 = .ok (.getfield 38, 3) := by decide +kernel
theorem dX4_giveWords_151 : decode cX4_giveWords 151 = .ok (.iload 9, 2) := by decide +kernel
theorem dX4_giveWords_153 : decode cX4_giveWords 153 = .ok (.iconst 1, 1) := by decide +kernel
theorem dX4_giveWords_154 : decode cX4_giveWords 154 = .ok (.isub, 1) := by decide +kernel
theorem dX4_giveWords_155 : decode cX4_giveWords 155 = .ok (.laload, 1) := by decide +kernel
theorem dX4_giveWords_156 : decode cX4_giveWords 156 = .ok (.lastore, 1) := by decide +kernel
theorem dX4_giveWords_157 : decode cX4_giveWords 157 = .ok (.iinc 9 (-1), 3) := by decide +kernel
theorem dX4_giveWords_160 : decode cX4_giveWords 160 = .ok (.goto (-27), 3) := by decide +kernel
theorem dX4_giveWords_163 : decode cX4_giveWords 163 = .ok (.aload_n 0, 1) := by decide +kernel
theorem dX4_giveWords_164 : decode cX4_giveWords 164 = .ok (.dup, 1) := by decide +kernel
theorem dX4_giveWords_165 : decode cX4_giveWords 165 = .ok (.getfield 96, 3) := by decide +kernel
theorem dX4_giveWords_168 : decode cX4_giveWords 168 = .ok (.iconst 1, 1) := by decide +kernel
theorem dX4_giveWords_169 : decode cX4_giveWords 169 = .ok (.iadd, 1) := by decide +kernel
theorem dX4_giveWords_170 : decode cX4_giveWords 170 = .ok (.putfield 96, 3) := by decide +kernel
theorem dX4_giveWords_173 : decode cX4_giveWords 173 = .ok (.aload_n 0, 1) := by decide +kernel
theorem dX4_giveWords_174 : decode cX4_giveWords 174 = .ok (.iload_n 2, 1) := by decide +kernel
theorem dX4_giveWords_175 : decode cX4_giveWords 175 = .ok (.invokevirtual 123, 3) := by decide +kernel
theorem dX4_giveWords_178 : decode cX4_giveWords 178 = .ok (.istore 9, 2) := by decide +kernel
theorem dX4_giveWords_180 : decode cX4_giveWords 180 = .ok (.aload_n 0, 1) := by decide +kernel
theorem dX4_giveWords_181 : decode cX4_giveWords 181 = .ok (.iload_n 2, 1) := by decide +kernel
theorem dX4_giveWords_182 : decode cX4_giveWords 182 = .ok (.invokevirtual 116, 3) := by decide +kernel
theorem dX4_giveWords_185 : decode cX4_giveWords 185 = .ok (.iconst 1, 1) := by decide +kernel
theorem dX4_giveWords_186 : decode cX4_giveWords 186 = .ok (.iadd, 1) := by decide +kernel
theorem dX4_giveWords_187 : decode cX4_giveWords 187 = .ok (.istore 10, 2) := by decide +kernel
theorem dX4_giveWords_189 : decode cX4_giveWords 189 = .ok (.iconst 2, 1) := by decide +kernel
theorem dX4_giveWords_190 : decode cX4_giveWords 190 = .ok (.aload_n 0, 1) := by decide +kernel
theorem dX4_giveWords_191 : decode cX4_giveWords 191 = .ok (.iload_n 2, 1) := by decide +kernel
theorem dX4_giveWords_192 : decode cX4_giveWords 192 = .ok (.invokevirtual 120, 3) := by decide +kernel
theorem dX4_giveWords_195 : decode cX4_giveWords 195 = .ok (.imul, 1) := by decide +kernel
theorem dX4_giveWords_196 : decode cX4_giveWords 196 = .ok (.istore 11, 2) := by decide +kernel
theorem dX4_giveWords_198 : decode cX4_giveWords 198 = .ok (.aload_n 0, 1) := by decide +kernel
theorem dX4_giveWords_199 : decode cX4_giveWords 199 = .ok (.getfield 38, 3) := by decide +kernel
theorem dX4_giveWords_202 : decode cX4_giveWords 202 = .ok (.iload_n 2, 1) := by decide +kernel
theorem dX4_giveWords_203 : decode cX4_giveWords 203 = .ok (.iload 9, 2) := by decide +kernel
theorem dX4_giveWords_205 : decode cX4_giveWords 205 = .ok (.iconst 0, 1) := by decide +kernel
theorem dX4_giveWords_206 : decode cX4_giveWords 206 = .ok (.iload 5, 2) := by decide +kernel
theorem dX4_giveWords_208 : decode cX4_giveWords 208 = .ok (.iload 10, 2) := by decide +kernel
theorem dX4_giveWords_210 : decode cX4_giveWords 210 = .ok (.iload 11, 2) := by decide +kernel
theorem dX4_giveWords_212 : decode cX4_giveWords 212 = .ok (.invokestatic 99, 3) := by decide +kernel
theorem dX4_giveWords_215 : decode cX4_giveWords 215 = .ok (.lastore, 1) := by decide +kernel
theorem dX4_giveWords_216 : decode cX4_giveWords 216 = .ok (.aload_n 0, 1) := by decide +kernel
theorem dX4_giveWords_217 : decode cX4_giveWords 217 = .ok (.getfield 38, 3) := by decide +kernel
theorem dX4_giveWords_220 : decode cX4_giveWords 220 = .ok (.iload_n 2, 1) := by decide +kernel
theorem dX4_giveWords_221 : decode cX4_giveWords 221 = .ok (.iconst 1, 1) := by decide +kernel
theorem dX4_giveWords_222 : decode cX4_giveWords 222 = .ok (.iadd, 1) := by decide +kernel
theorem dX4_giveWords_223 : decode cX4_giveWords 223 = .ok (.iload 9, 2) := by decide +kernel
theorem dX4_giveWords_225 : decode cX4_giveWords 225 = .ok (.aload_n 0, 1) := by decide +kernel
theorem dX4_giveWords_226 : decode cX4_giveWords 226 = .ok (.getfield 19, 3) := by decide +kernel
theorem dX4_giveWords_229 : decode cX4_giveWords 229 = .ok (.iload 5, 2) := by decide +kernel
theorem dX4_giveWords_231 : decode cX4_giveWords 231 = .ok (.iaload, 1) := by decide +kernel
theorem dX4_giveWords_232 : decode cX4_giveWords 232 = .ok (.iadd, 1) := by decide +kernel
theorem dX4_giveWords_233 : decode cX4_giveWords 233 = .ok (.iconst 0, 1) := by decide +kernel
theorem dX4_giveWords_234 : decode cX4_giveWords 234 = .ok (.iload 6, 2) := by decide +kernel
theorem dX4_giveWords_236 : decode cX4_giveWords 236 = .ok (.iload 10, 2) := by decide +kernel
theorem dX4_giveWords_238 : decode cX4_giveWords 238 = .ok (.iload 11, 2) := by decide +kernel
theorem dX4_giveWords_240 : decode cX4_giveWords 240 = .ok (.iconst 1, 1) := by decide +kernel
theorem dX4_giveWords_241 : decode cX4_giveWords 241 = .ok (.iadd, 1) := by decide +kernel
theorem dX4_giveWords_242 : decode cX4_giveWords 242 = .ok (.invokestatic 99, 3) := by decide +kernel
theorem dX4_giveWords_245 : decode cX4_giveWords 245 = .ok (.lastore, 1) := by decide +kernel
theorem dX4_giveWords_246 : decode cX4_giveWords 246 = .ok (.aload_n 0, 1) := by decide +kernel
theorem dX4_giveWords_247 : decode cX4_giveWords 247 = .ok (.dup, 1) := by decide +kernel
theorem dX4_giveWords_248 : decode cX4_giveWords 248 = .ok (.getfield 109, 3) := by decide +kernel
theorem dX4_giveWords_251 : decode cX4_giveWords 251 = .ok (.iconst 1, 1) := by decide +kernel
theorem dX4_giveWords_252 : decode cX4_giveWords 252 = .ok (.iadd, 1) := by decide +kernel
theorem dX4_giveWords_253 : decode cX4_giveWords 253 = .ok (.putfield 109, 3) := by decide +kernel
theorem dX4_giveWords_256 : decode cX4_giveWords 256 = .ok (.iload 7, 2) := by decide +kernel
theorem dX4_giveWords_258 : decode cX4_giveWords 258 = .ok (.ifCond .eq 25, 3) := by decide +kernel
theorem dX4_giveWords_261 : decode cX4_giveWords 261 = .ok (.iload 8, 2) := by decide +kernel
theorem dX4_giveWords_263 : decode cX4_giveWords 263 = .ok (.ifCond .eq 23, 3) := by decide +kernel
theorem dX4_giveWords_266 : decode cX4_giveWords 266 = .ok (.aload_n 0, 1) := by decide +kernel
theorem dX4_giveWords_267 : decode cX4_giveWords 267 = .ok (.getfield 19, 3) := by decide +kernel
theorem dX4_giveWords_270 : decode cX4_giveWords 270 = .ok (.iload 6, 2) := by decide +kernel
theorem dX4_giveWords_272 : decode cX4_giveWords 272 = .ok (.iaload, 1) := by decide +kernel
theorem dX4_giveWords_273 : decode cX4_giveWords 273 = .ok (.aload_n 0, 1) := by decide +kernel
theorem dX4_giveWords_274 : decode cX4_giveWords 274 = .ok (.getfield 19, 3) := by decide +kernel
theorem dX4_giveWords_277 : decode cX4_giveWords 277 = .ok (.iload 5, 2) := by decide +kernel
theorem dX4_giveWords_279 : decode cX4_giveWords 279 = .ok (.iaload, 1) := by decide +kernel
theorem dX4_giveWords_280 : decode cX4_giveWords 280 = .ok (.if_icmp .ge 6, 3) := by decide +kernel
theorem dX4_giveWords_283 : decode cX4_giveWords 283 = .ok (.iinc 2 1, 3) := by decide +kernel
theorem dX4_giveWords_286 : decode cX4_giveWords 286 = .ok (.goto (-257), 3) := by decide +kernel
theorem dX4_giveWords_289 : decode cX4_giveWords 289 = .ok (.aload_n 0, 1) := by decide +kernel
theorem dX4_giveWords_290 : decode cX4_giveWords 290 = .ok (.getfield 38, 3) := by decide +kernel
theorem dX4_giveWords_293 : decode cX4_giveWords 293 = .ok (.iload_n 2, 1) := by decide +kernel
theorem dX4_giveWords_294 : decode cX4_giveWords 294 = .ok (.dup2, 1) := by decide +kernel
theorem dX4_giveWords_295 : decode cX4_giveWords 295 = .ok (.laload, 1) := by decide +kernel
theorem dX4_giveWords_296 : decode cX4_giveWords 296 = .ok (.ldc2_w 149, 3) := by decide +kernel
theorem dX4_giveWords_299 : decode cX4_giveWords 299 = .ok (.lor, 1) := by decide +kernel
theorem dX4_giveWords_300 : decode cX4_giveWords 300 = .ok (.lastore, 1) := by decide +kernel
theorem dX4_giveWords_301 : decode cX4_giveWords 301 = .ok (.aload_n 0, 1) := by decide +kernel
theorem dX4_giveWords_302 : decode cX4_giveWords 302 = .ok (.getfield 42, 3) := by decide +kernel
theorem dX4_giveWords_305 : decode cX4_giveWords 305 = .ok (.aload_n 0, 1) := by decide +kernel
theorem dX4_giveWords_306 : decode cX4_giveWords 306 = .ok (.getfield 103, 3) := by decide +kernel
theorem dX4_giveWords_309 : decode cX4_giveWords 309 = .ok (.aload_n 0, 1) := by decide +kernel
theorem dX4_giveWords_310 : decode cX4_giveWords 310 = .ok (.iload_n 2, 1) := by decide +kernel
theorem dX4_giveWords_311 : decode cX4_giveWords 311 = .ok (.invokevirtual 123, 3) := by decide +kernel
theorem dX4_giveWords_314 : decode cX4_giveWords 314 = .ok (.iastore, 1) := by decide +kernel
theorem dX4_giveWords_315 : decode cX4_giveWords 315 = .ok (.aload_n 0, 1) := by decide +kernel
theorem dX4_giveWords_316 : decode cX4_giveWords 316 = .ok (.getfield 45, 3) := by decide +kernel
theorem dX4_giveWords_319 : decode cX4_giveWords 319 = .ok (.aload_n 0, 1) := by decide +kernel
theorem dX4_giveWords_320 : decode cX4_giveWords 320 = .ok (.getfield 103, 3) := by decide +kernel
theorem dX4_giveWords_323 : decode cX4_giveWords 323 = .ok (.iload_n 1, 1) := by decide +kernel
theorem dX4_giveWords_324 : decode cX4_giveWords 324 = .ok (.iastore, 1) := by decide +kernel
theorem dX4_giveWords_325 : decode cX4_giveWords 325 = .ok (.aload_n 0, 1) := by decide +kernel
theorem dX4_giveWords_326 : decode cX4_giveWords 326 = .ok (.dup, 1) := by decide +kernel
theorem dX4_giveWords_327 : decode cX4_giveWords 327 = .ok (.getfield 103, 3) := by decide +kernel
theorem dX4_giveWords_330 : decode cX4_giveWords 330 = .ok (.iconst 1, 1) := by decide +kernel
theorem dX4_giveWords_331 : decode cX4_giveWords 331 = .ok (.iadd, 1) := by decide +kernel
theorem dX4_giveWords_332 : decode cX4_giveWords 332 = .ok (.putfield 103, 3) := by decide +kernel
theorem dX4_giveWords_335 : decode cX4_giveWords 335 = .ok (.aload_n 0, 1) := by decide +kernel
theorem dX4_giveWords_336 : decode cX4_giveWords 336 = .ok (.iload_n 2, 1) := by decide +kernel
theorem dX4_giveWords_337 : decode cX4_giveWords 337 = .ok (.invokevirtual 123, 3) := by decide +kernel
theorem dX4_giveWords_340 : decode cX4_giveWords 340 = .ok (.ireturn, 1) := by decide +kernel
theorem dX4_blockOf_0 : decode cX4_blockOf 0 = .ok (.iconst 0, 1) := by decide +kernel
theorem dX4_blockOf_1 : decode cX4_blockOf 1 = .ok (.istore_n 2, 1) := by decide +kernel
theorem dX4_blockOf_2 : decode cX4_blockOf 2 = .ok (.iload_n 2, 1) := by decide +kernel
theorem dX4_blockOf_3 : decode cX4_blockOf 3 = .ok (.aload_n 0, 1) := by decide +kernel
theorem dX4_blockOf_4 : decode cX4_blockOf 4 = .ok (.getfield 103, 3) := by decide +kernel
theorem dX4_blockOf_7 : decode cX4_blockOf 7 = .ok (.if_icmp .ge 21, 3) := by decide +kernel
theorem dX4_blockOf_10 : decode cX4_blockOf 10 = .ok (.aload_n 0, 1) := by decide +kernel
theorem dX4_blockOf_11 : decode cX4_blockOf 11 = .ok (.getfield 42, 3) := by decide +kernel
theorem dX4_blockOf_14 : decode cX4_blockOf 14 = .ok (.iload_n 2, 1) := by decide +kernel
theorem dX4_blockOf_15 : decode cX4_blockOf 15 = .ok (.iaload, 1) := by decide +kernel
theorem dX4_blockOf_16 : decode cX4_blockOf 16 = .ok (.iload_n 1, 1) := by decide +kernel
theorem dX4_blockOf_17 : decode cX4_blockOf 17 = .ok (.if_icmp .ne 5, 3) := by decide +kernel
theorem dX4_blockOf_20 : decode cX4_blockOf 20 = .ok (.iload_n 2, 1) := by decide +kernel
theorem dX4_blockOf_21 : decode cX4_blockOf 21 = .ok (.ireturn, 1) := by decide +kernel
theorem dX4_blockOf_22 : decode cX4_blockOf 22 = .ok (.iinc 2 1, 3) := by decide +kernel
theorem dX4_blockOf_25 : decode cX4_blockOf 25 = .ok (.goto (-23), 3) := by decide +kernel
theorem dX4_blockOf_28 : decode cX4_blockOf 28 = .ok (.iconst (-1), 1) := by decide +kernel
theorem dX4_blockOf_29 : decode cX4_blockOf 29 = .ok (.ireturn, 1) := by decide +kernel
set_option maxRecDepth 20000 in
theorem ggX4_nodeAt_X4_address : GoodIn wsX4_nodeAt wsX4_address := goodIn_r _ [5, 6, 7, 8, 9, 10, 11, 12, 13, 14, 15, 16, 17, 18, 19, 20, 21, 22, 23, 24, 25, 26, 27, 28, 29, 30, 31, 32, 33, 34, 35] (by decide +kernel) (by decide +kernel)
set_option maxRecDepth 20000 in
theorem gX4_nodeAt_X4_address : GoodIn wsX4_nodeAt (wsV RX4 123 RX4 yX4_address wsX4_address) := goodIn_app (goodIn_of _ (by decide +kernel)) ggX4_nodeAt_X4_address
theorem dX4_nodeAt_0 : decode cX4_nodeAt 0 = .ok (.iconst 0, 1) := by decide +kernel
theorem dX4_nodeAt_1 : decode cX4_nodeAt 1 = .ok (.istore_n 2, 1) := by decide +kernel
theorem dX4_nodeAt_2 : decode cX4_nodeAt 2 = .ok (.aload_n 0, 1) := by decide +kernel
theorem dX4_nodeAt_3 : decode cX4_nodeAt 3 = .ok (.iload_n 2, 1) := by decide +kernel
theorem dX4_nodeAt_4 : decode cX4_nodeAt 4 = .ok (.invokevirtual 123, 3) := by decide +kernel
theorem dX4_nodeAt_7 : decode cX4_nodeAt 7 = .ok (.iload_n 1, 1) := by decide +kernel
theorem dX4_nodeAt_8 : decode cX4_nodeAt 8 = .ok (.if_icmp .eq 9, 3) := by decide +kernel
theorem dX4_nodeAt_11 : decode cX4_nodeAt 11 = .ok (.iinc 2 1, 3) := by decide +kernel
theorem dX4_nodeAt_14 : decode cX4_nodeAt 14 = .ok (.goto (-12), 3) := by decide +kernel
theorem dX4_nodeAt_17 : decode cX4_nodeAt 17 = .ok (.iload_n 2, 1) := by decide +kernel
theorem dX4_nodeAt_18 : decode cX4_nodeAt 18 = .ok (.ireturn, 1) := by decide +kernel
set_option maxRecDepth 20000 in
theorem ggX4_freeBlock_X4_nodeAt : GoodIn wsX4_freeBlock wsX4_nodeAt := goodIn_r _ [11, 12, 13, 14, 10, 15, 4, 58, 59, 60, 61, 62, 63, 64, 65, 66, 67, 68, 69, 70, 71, 72, 73, 74, 75, 76, 77, 78, 79, 80, 81, 82, 83, 84, 85, 86] (by decide +kernel) (by decide +kernel)
set_option maxRecDepth 20000 in
theorem gX4_freeBlock_X4_nodeAt : GoodIn wsX4_freeBlock (wsV RX4 151 RX4 yX4_nodeAt wsX4_nodeAt) := goodIn_app (goodIn_of _ (by decide +kernel)) ggX4_freeBlock_X4_nodeAt
set_option maxRecDepth 20000 in
theorem ggX4_freeBlock_X4_classOf : GoodIn wsX4_freeBlock wsX4_classOf := goodIn_r _ [19, 4, 20, 58, 59, 60, 61, 62, 63, 64, 65, 66, 67, 68, 69, 70, 71, 72, 73, 74, 75, 76, 77, 78, 79, 80, 81, 82, 83, 84, 85, 86] (by decide +kernel) (by decide +kernel)
set_option maxRecDepth 20000 in
theorem gX4_freeBlock_X4_classOf : GoodIn wsX4_freeBlock (wsV RX4 139 RX4 yX4_classOf wsX4_classOf) := goodIn_app (goodIn_of _ (by decide +kernel)) ggX4_freeBlock_X4_classOf
set_option maxRecDepth 20000 in
theorem ggX4_freeBlock_X4_isPair : GoodIn wsX4_freeBlock wsX4_isPair := goodIn_r _ [24, 25, 26, 27, 28, 10, 29, 4, 20, 30, 31, 32, 33, 34, 58, 59, 60, 61, 62, 63, 64, 65, 66, 67, 68, 69, 70, 71, 72, 73, 74, 75, 76, 77, 78, 79, 80, 81, 82, 83, 84, 85, 86] (by decide +kernel) (by decide +kernel)
set_option maxRecDepth 20000 in
theorem gX4_freeBlock_X4_isPair : GoodIn wsX4_freeBlock (wsV RX4 129 RX4 yX4_isPair wsX4_isPair) := goodIn_app (goodIn_of _ (by decide +kernel)) ggX4_freeBlock_X4_isPair
set_option maxRecDepth 20000 in
theorem ggX4_freeBlock_X4_isLive : GoodIn wsX4_freeBlock wsX4_isLive := goodIn_r _ [38, 4, 58, 59, 60, 61, 62, 63, 64, 65, 66, 67, 68, 69, 70, 71, 72, 73, 74, 75, 76, 77, 78, 79, 80, 81, 82, 83, 84, 85, 86] (by decide +kernel) (by decide +kernel)
set_option maxRecDepth 20000 in
theorem gX4_freeBlock_X4_isLive : GoodIn wsX4_freeBlock (wsV RX4 132 RX4 yX4_isLive wsX4_isLive) := goodIn_app (goodIn_of _ (by decide +kernel)) ggX4_freeBlock_X4_isLive
set_option maxRecDepth 20000 in
theorem ggX4_freeBlock_X4_freeOf : GoodIn wsX4_freeBlock wsX4_freeOf := goodIn_r _ [42, 25, 35, 36, 37, 10, 38, 4, 16, 17, 18, 19, 20, 58, 59, 60, 61, 62, 63, 64, 65, 66, 67, 68, 69, 70, 71, 72, 73, 74, 75, 76, 77, 78, 79, 80, 81, 82, 83, 84, 85, 86] (by decide +kernel) (by decide +kernel)
set_option maxRecDepth 20000 in
theorem gX4_freeBlock_X4_freeOf : GoodIn wsX4_freeBlock (wsV RX4 156 RX4 yX4_freeOf wsX4_freeOf) := goodIn_app (goodIn_of _ (by decide +kernel)) ggX4_freeBlock_X4_freeOf
set_option maxRecDepth 20000 in
theorem ggX4_freeBlock_X4_joinAt : GoodIn wsX4_freeBlock wsX4_joinAt := goodIn_r _ [46, 4, 25, 47, 26, 27, 28, 10, 29, 20, 30, 31, 32, 33, 34, 12, 13, 14, 15, 48, 49, 50, 51, 52, 53, 54, 55, 56, 57, 58, 59, 60, 61, 62, 63, 64, 65, 66, 67, 68, 69, 70, 71, 72, 73, 74, 75, 76, 77, 78, 79, 80, 81, 82, 83, 84, 85, 86] (by decide +kernel) (by decide +kernel)
set_option maxRecDepth 20000 in
theorem gX4_freeBlock_X4_joinAt : GoodIn wsX4_freeBlock (wsV RX4 135 RX4 yX4_joinAt wsX4_joinAt) := goodIn_app (goodIn_of _ (by decide +kernel)) ggX4_freeBlock_X4_joinAt
theorem dX4_freeBlock_0 : decode cX4_freeBlock 0 = .ok (.aload_n 0, 1) := by decide +kernel
theorem dX4_freeBlock_1 : decode cX4_freeBlock 1 = .ok (.aload_n 0, 1) := by decide +kernel
theorem dX4_freeBlock_2 : decode cX4_freeBlock 2 = .ok (.getfield 42, 3) := by decide +kernel
theorem dX4_freeBlock_5 : decode cX4_freeBlock 5 = .ok (.iload_n 1, 1) := by decide +kernel
theorem dX4_freeBlock_6 : decode cX4_freeBlock 6 = .ok (.iaload, 1) := by decide +kernel
theorem dX4_freeBlock_7 : decode cX4_freeBlock 7 = .ok (.invokevirtual 151, 3) := by decide +kernel
theorem dX4_freeBlock_10 : decode cX4_freeBlock 10 = .ok (.istore_n 2, 1) := by decide +kernel
theorem dX4_freeBlock_11 : decode cX4_freeBlock 11 = .ok (.aload_n 0, 1) := by decide +kernel
theorem dX4_freeBlock_12 : decode cX4_freeBlock 12 = .ok (.dup, 1) := by decide +kernel
theorem dX4_freeBlock_13 : decode cX4_freeBlock 13 = .ok (.getfield 103, 3) := by decide +kernel
theorem dX4_freeBlock_16 : decode cX4_freeBlock 16 = .ok (.iconst 1, 1) := by decide +kernel
theorem dX4_freeBlock_17 : decode cX4_freeBlock 17 = .ok (.isub, 1) := by decide +kernel
theorem dX4_freeBlock_18 : decode cX4_freeBlock 18 = .ok (.putfield 103, 3) := by decide +kernel
theorem dX4_freeBlock_21 : decode cX4_freeBlock 21 = .ok (.aload_n 0, 1) := by decide +kernel
theorem dX4_freeBlock_22 : decode cX4_freeBlock 22 = .ok (.getfield 42, 3) := by decide +kernel
theorem dX4_freeBlock_25 : decode cX4_freeBlock 25 = .ok (.iload_n 1, 1) := by decide +kernel
theorem dX4_freeBlock_26 : decode cX4_freeBlock 26 = .ok (.aload_n 0, 1) := by decide +kernel
theorem dX4_freeBlock_27 : decode cX4_freeBlock 27 = .ok (.getfield 42, 3) := by decide +kernel
theorem dX4_freeBlock_30 : decode cX4_freeBlock 30 = .ok (.aload_n 0, 1) := by decide +kernel
theorem dX4_freeBlock_31 : decode cX4_freeBlock 31 = .ok (.getfield 103, 3) := by decide +kernel
theorem dX4_freeBlock_34 : decode cX4_freeBlock 34 = .ok (.iaload, 1) := by decide +kernel
theorem dX4_freeBlock_35 : decode cX4_freeBlock 35 = .ok (.iastore, 1) := by decide +kernel
theorem dX4_freeBlock_36 : decode cX4_freeBlock 36 = .ok (.aload_n 0, 1) := by decide +kernel
theorem dX4_freeBlock_37 : decode cX4_freeBlock 37 = .ok (.getfield 45, 3) := by decide +kernel
theorem dX4_freeBlock_40 : decode cX4_freeBlock 40 = .ok (.iload_n 1, 1) := by decide +kernel
theorem dX4_freeBlock_41 : decode cX4_freeBlock 41 = .ok (.aload_n 0, 1) := by decide +kernel
theorem dX4_freeBlock_42 : decode cX4_freeBlock 42 = .ok (.getfield 45, 3) := by decide +kernel
theorem dX4_freeBlock_45 : decode cX4_freeBlock 45 = .ok (.aload_n 0, 1) := by decide +kernel
theorem dX4_freeBlock_46 : decode cX4_freeBlock 46 = .ok (.getfield 103, 3) := by decide +kernel
theorem dX4_freeBlock_49 : decode cX4_freeBlock 49 = .ok (.iaload, 1) := by decide +kernel
theorem dX4_freeBlock_50 : decode cX4_freeBlock 50 = .ok (.iastore, 1) := by decide +kernel
theorem dX4_freeBlock_51 : decode cX4_freeBlock 51 = .ok (.aload_n 0, 1) := by decide +kernel
theorem dX4_freeBlock_52 : decode cX4_freeBlock 52 = .ok (.getfield 38, 3) := by decide +kernel
theorem dX4_freeBlock_55 : decode cX4_freeBlock 55 = .ok (.iload_n 2, 1) := by decide +kernel
theorem dX4_freeBlock_56 : decode cX4_freeBlock 56 = .ok (.dup2, 1) := by decide +kernel
theorem dX4_freeBlock_57 : decode cX4_freeBlock 57 = .ok (.laload, 1) := by decide +kernel
theorem dX4_freeBlock_58 : decode cX4_freeBlock 58 = .ok (.ldc2_w 154, 3) := by decide +kernel
theorem dX4_freeBlock_61 : decode cX4_freeBlock 61 = .ok (.land, 1) := by decide +kernel
theorem dX4_freeBlock_62 : decode cX4_freeBlock 62 = .ok (.lastore, 1) := by decide +kernel
theorem dX4_freeBlock_63 : decode cX4_freeBlock 63 = .ok (.iconst 1, 1) := by decide +kernel
theorem dX4_freeBlock_64 : decode cX4_freeBlock 64 = .ok (.istore_n 3, 1) := by decide +kernel
theorem dX4_freeBlock_65 : decode cX4_freeBlock 65 = .ok (.iload_n 3, 1) := by decide +kernel
theorem dX4_freeBlock_66 : decode cX4_freeBlock 66 = .ok (.ifCond .eq 107, 3) := by decide +kernel
theorem dX4_freeBlock_69 : decode cX4_freeBlock 69 = .ok (.aload_n 0, 1) := by decide +kernel
theorem dX4_freeBlock_70 : decode cX4_freeBlock 70 = .ok (.iload_n 2, 1) := by decide +kernel
theorem dX4_freeBlock_71 : decode cX4_freeBlock 71 = .ok (.invokevirtual 139, 3) := by decide +kernel
theorem dX4_freeBlock_74 : decode cX4_freeBlock 74 = .ok (.istore 4, 2) := by decide +kernel
theorem dX4_freeBlock_76 : decode cX4_freeBlock 76 = .ok (.aload_n 0, 1) := by decide +kernel
theorem dX4_freeBlock_77 : decode cX4_freeBlock 77 = .ok (.iload_n 2, 1) := by decide +kernel
theorem dX4_freeBlock_78 : decode cX4_freeBlock 78 = .ok (.invokevirtual 129, 3) := by decide +kernel
theorem dX4_freeBlock_81 : decode cX4_freeBlock 81 = .ok (.ifCond .eq 7, 3) := by decide +kernel
theorem dX4_freeBlock_84 : decode cX4_freeBlock 84 = .ok (.iload_n 2, 1) := by decide +kernel
theorem dX4_freeBlock_85 : decode cX4_freeBlock 85 = .ok (.goto 20, 3) := by decide +kernel
theorem dX4_freeBlock_88 : decode cX4_freeBlock 88 = .ok (.aload_n 0, 1) := by decide +kernel
theorem dX4_freeBlock_89 : decode cX4_freeBlock 89 = .ok (.iload_n 2, 1) := by decide +kernel
theorem dX4_freeBlock_90 : decode cX4_freeBlock 90 = .ok (.iconst 1, 1) := by decide +kernel
theorem dX4_freeBlock_91 : decode cX4_freeBlock 91 = .ok (.isub, 1) := by decide +kernel
theorem dX4_freeBlock_92 : decode cX4_freeBlock 92 = .ok (.invokevirtual 129, 3) := by decide +kernel
theorem dX4_freeBlock_95 : decode cX4_freeBlock 95 = .ok (.ifCond .eq 9, 3) := by decide +kernel
theorem dX4_freeBlock_98 : decode cX4_freeBlock 98 = .ok (.iload_n 2, 1) := by decide +kernel
theorem dX4_freeBlock_99 : decode cX4_freeBlock 99 = .ok (.iconst 1, 1) := by decide +kernel
theorem dX4_freeBlock_100 : decode cX4_freeBlock 100 = .ok (.isub, 1) := by decide +kernel
theorem dX4_freeBlock_101 : decode cX4_freeBlock 101 = .ok (.goto 4, 3) := by decide +kernel
theorem dX4_freeBlock_104 : decode cX4_freeBlock 104 = .ok (.iconst (-1), 1) := by decide +kernel
theorem dX4_freeBlock_105 : decode cX4_freeBlock 105 = .ok (.istore 5, 2) := by decide +kernel
theorem dX4_freeBlock_107 : decode cX4_freeBlock 107 = .ok (.iload 5, 2) := by decide +kernel
theorem dX4_freeBlock_109 : decode cX4_freeBlock 109 = .ok (.ifCond .lt 43, 3) := by decide +kernel
theorem dX4_freeBlock_112 : decode cX4_freeBlock 112 = .ok (.aload_n 0, 1) := by decide +kernel
theorem dX4_freeBlock_113 : decode cX4_freeBlock 113 = .ok (.iload 5, 2) := by decide +kernel
theorem dX4_freeBlock_115 : decode cX4_freeBlock 115 = .ok (.invokevirtual 132, 3) := by decide +kernel
theorem dX4_freeBlock_118 : decode cX4_freeBlock 118 = .ok (.ifCond .ne 34, 3) := by decide +kernel
theorem dX4_freeBlock_121 : decode cX4_freeBlock 121 = .ok (.aload_n 0, 1) := by decide +kernel
theorem dX4_freeBlock_122 : decode cX4_freeBlock 122 = .ok (.iload 5, 2) := by decide +kernel
theorem dX4_freeBlock_124 : decode cX4_freeBlock 124 = .ok (.iconst 1, 1) := by decide +kernel
theorem dX4_freeBlock_125 : decode cX4_freeBlock 125 = .ok (.iadd, 1) := by decide +kernel
theorem dX4_freeBlock_126 : decode cX4_freeBlock 126 = .ok (.invokevirtual 132, 3) := by decide +kernel
theorem dX4_freeBlock_129 : decode cX4_freeBlock 129 = .ok (.ifCond .ne 23, 3) := by decide +kernel
theorem dX4_freeBlock_132 : decode cX4_freeBlock 132 = .ok (.aload_n 0, 1) := by decide +kernel
theorem dX4_freeBlock_133 : decode cX4_freeBlock 133 = .ok (.iload 4, 2) := by decide +kernel
theorem dX4_freeBlock_135 : decode cX4_freeBlock 135 = .ok (.invokevirtual 156, 3) := by decide +kernel
theorem dX4_freeBlock_138 : decode cX4_freeBlock 138 = .ok (.aload_n 0, 1) := by decide +kernel
theorem dX4_freeBlock_139 : decode cX4_freeBlock 139 = .ok (.getfield 35, 3) := by decide +kernel
theorem dX4_freeBlock_142 : decode cX4_freeBlock 142 = .ok (.iload 4, 2) := by decide +kernel
theorem dX4_freeBlock_144 : decode cX4_freeBlock 144 = .ok (.iaload, 1) := by decide +kernel
theorem dX4_freeBlock_145 : decode cX4_freeBlock 145 = .ok (.if_icmp .le 7, 3) := by decide +kernel
theorem dX4_freeBlock_148 : decode cX4_freeBlock 148 = .ok (.iconst 1, 1) := by decide +kernel
theorem dX4_freeBlock_149 : decode cX4_freeBlock 149 = .ok (.goto 4, 3) := by decide +kernel
theorem dX4_freeBlock_152 : decode cX4_freeBlock 152 = .ok (.iconst 0, 1) := by decide +kernel
theorem dX4_freeBlock_153 : decode cX4_freeBlock 153 = .ok (.istore_n 3, 1) := by decide +kernel
theorem dX4_freeBlock_154 : decode cX4_freeBlock 154 = .ok (.iload_n 3, 1) := by decide +kernel
theorem dX4_freeBlock_155 : decode cX4_freeBlock 155 = .ok (.ifCond .ne 6, 3) := by decide +kernel
theorem dX4_freeBlock_158 : decode cX4_freeBlock 158 = .ok (.goto (-93), 3) := by decide +kernel
theorem dX4_freeBlock_161 : decode cX4_freeBlock 161 = .ok (.aload_n 0, 1) := by decide +kernel
theorem dX4_freeBlock_162 : decode cX4_freeBlock 162 = .ok (.iload 5, 2) := by decide +kernel
theorem dX4_freeBlock_164 : decode cX4_freeBlock 164 = .ok (.invokevirtual 135, 3) := by decide +kernel
theorem dX4_freeBlock_167 : decode cX4_freeBlock 167 = .ok (.iload 5, 2) := by decide +kernel
theorem dX4_freeBlock_169 : decode cX4_freeBlock 169 = .ok (.istore_n 2, 1) := by decide +kernel
theorem dX4_freeBlock_170 : decode cX4_freeBlock 170 = .ok (.goto (-105), 3) := by decide +kernel
theorem dX4_freeBlock_173 : decode cX4_freeBlock 173 = .ok (.return_, 1) := by decide +kernel
theorem dX4_isThere_0 : decode cX4_isThere 0 = .ok (.aload_n 0, 1) := by decide +kernel
theorem dX4_isThere_1 : decode cX4_isThere 1 = .ok (.aload_n 0, 1) := by decide +kernel
theorem dX4_isThere_2 : decode cX4_isThere 2 = .ok (.getfield 93, 3) := by decide +kernel
theorem dX4_isThere_5 : decode cX4_isThere 5 = .ok (.ifCond .le 7, 3) := by decide +kernel
theorem dX4_isThere_8 : decode cX4_isThere 8 = .ok (.iconst 0, 1) := by decide +kernel
theorem dX4_isThere_9 : decode cX4_isThere 9 = .ok (.goto 4, 3) := by decide +kernel
theorem dX4_isThere_12 : decode cX4_isThere 12 = .ok (.iconst 1, 1) := by decide +kernel
theorem dX4_isThere_13 : decode cX4_isThere 13 = .ok (.putfield 66, 3) := by decide +kernel
theorem dX4_isThere_16 : decode cX4_isThere 16 = .ok (.aload_n 0, 1) := by decide +kernel
theorem dX4_isThere_17 : decode cX4_isThere 17 = .ok (.getfield 66, 3) := by decide +kernel
theorem dX4_isThere_20 : decode cX4_isThere 20 = .ok (.ifCond .ne 7, 3) := by decide +kernel
theorem dX4_isThere_23 : decode cX4_isThere 23 = .ok (.iconst 1, 1) := by decide +kernel
theorem dX4_isThere_24 : decode cX4_isThere 24 = .ok (.goto 4, 3) := by decide +kernel
theorem dX4_isThere_27 : decode cX4_isThere 27 = .ok (.iconst 0, 1) := by decide +kernel
theorem dX4_isThere_28 : decode cX4_isThere 28 = .ok (.ireturn, 1) := by decide +kernel
set_option maxRecDepth 20000 in
theorem ggX4_give_X4_isThere : GoodIn wsX4_give wsX4_isThere := goodIn_r _ [6, 7, 8, 72, 73, 74, 75, 76, 77, 78, 79, 80, 81, 82, 83, 84, 85, 86, 87, 88, 89, 90, 91, 92, 93, 94, 95, 96, 97, 98, 99, 100] (by decide +kernel) (by decide +kernel)
set_option maxRecDepth 20000 in
theorem gX4_give_X4_isThere : GoodIn wsX4_give (wsV RX4 159 RX4 yX4_isThere wsX4_isThere) := goodIn_app (goodIn_of _ (by decide +kernel)) ggX4_give_X4_isThere
set_option maxRecDepth 20000 in
theorem ggX4_give_X4_raise : GoodIn wsX4_give wsX4_raise := goodIn_r _ [12, 8, 72, 73, 74, 75, 76, 77, 78, 79, 80, 81, 82, 83, 84, 85, 86, 87, 88, 89, 90, 91, 92, 93, 94, 95, 96, 97, 98, 99, 100] (by decide +kernel) (by decide +kernel)
set_option maxRecDepth 20000 in
theorem gX4_give_X4_raise : GoodIn wsX4_give (wsV RX4 163 RX4 yX4_raise wsX4_raise) := goodIn_app (goodIn_of _ (by decide +kernel)) ggX4_give_X4_raise
set_option maxRecDepth 20000 in
theorem ggX4_give_X4_giveWords : GoodIn wsX4_give wsX4_giveWords := goodIn_r _ [16, 17, 18, 19, 20, 21, 22, 23, 24, 1, 25, 26, 27, 28, 5, 29, 30, 31, 32, 33, 34, 35, 36, 37, 38, 39, 40, 41, 42, 43, 44, 45, 46, 47, 48, 49, 50, 51, 52, 53, 54, 55, 56, 57, 58, 59, 60, 61, 62, 63, 64, 65, 66, 67, 68, 7, 69, 70, 71, 72, 73, 74, 75, 76, 77, 78, 79, 80, 81, 82, 83, 84, 85, 86, 87, 88, 89, 90, 91, 92, 93, 94, 95, 96, 97, 98, 99, 100] (by decide +kernel) (by decide +kernel)
set_option maxRecDepth 20000 in
theorem gX4_give_X4_giveWords : GoodIn wsX4_give (wsV RX4 166 RX4 yX4_giveWords wsX4_giveWords) := goodIn_app (goodIn_of _ (by decide +kernel)) ggX4_give_X4_giveWords
theorem dX4_give_0 : decode cX4_give 0 = .ok (.aload_n 0, 1) := by decide +kernel
theorem dX4_give_1 : decode cX4_give 1 = .ok (.invokevirtual 159, 3) := by decide +kernel
theorem dX4_give_4 : decode cX4_give 4 = .ok (.ifCond .ne 5, 3) := by decide +kernel
theorem dX4_give_7 : decode cX4_give 7 = .ok (.iconst 0, 1) := by decide +kernel
theorem dX4_give_8 : decode cX4_give 8 = .ok (.ireturn, 1) := by decide +kernel
theorem dX4_give_9 : decode cX4_give 9 = .ok (.aload_n 0, 1) := by decide +kernel
theorem dX4_give_10 : decode cX4_give 10 = .ok (.getfield 103, 3) := by decide +kernel
theorem dX4_give_13 : decode cX4_give 13 = .ok (.sipush 256, 3) := by decide +kernel
theorem dX4_give_16 : decode cX4_give 16 = .ok (.if_icmp .ne 9, 3) := by decide +kernel
theorem dX4_give_19 : decode cX4_give 19 = .ok (.aload_n 0, 1) := by decide +kernel
theorem dX4_give_20 : decode cX4_give 20 = .ok (.iconst 1, 1) := by decide +kernel
theorem dX4_give_21 : decode cX4_give 21 = .ok (.invokevirtual 163, 3) := by decide +kernel
theorem dX4_give_24 : decode cX4_give 24 = .ok (.ireturn, 1) := by decide +kernel
theorem dX4_give_25 : decode cX4_give 25 = .ok (.iload_n 1, 1) := by decide +kernel
theorem dX4_give_26 : decode cX4_give 26 = .ok (.iconst 1, 1) := by decide +kernel
theorem dX4_give_27 : decode cX4_give 27 = .ok (.if_icmp .ge 9, 3) := by decide +kernel
theorem dX4_give_30 : decode cX4_give 30 = .ok (.aload_n 0, 1) := by decide +kernel
theorem dX4_give_31 : decode cX4_give 31 = .ok (.iconst 2, 1) := by decide +kernel
theorem dX4_give_32 : decode cX4_give 32 = .ok (.invokevirtual 163, 3) := by decide +kernel
theorem dX4_give_35 : decode cX4_give 35 = .ok (.ireturn, 1) := by decide +kernel
theorem dX4_give_36 : decode cX4_give 36 = .ok (.aload_n 0, 1) := by decide +kernel
theorem dX4_give_37 : decode cX4_give 37 = .ok (.iload_n 1, 1) := by decide +kernel
theorem dX4_give_38 : decode cX4_give 38 = .ok (.invokevirtual 166, 3) := by decide +kernel
theorem dX4_give_41 : decode cX4_give 41 = .ok (.ireturn, 1) := by decide +kernel
set_option maxRecDepth 20000 in
theorem ggX4_free_X4_isThere : GoodIn wsX4_free wsX4_isThere := goodIn_r _ [6, 7, 1, 71, 72, 73, 74, 75, 76, 77, 78, 79, 80, 81, 82, 83, 84, 85, 86, 87, 88, 89, 90, 91, 92, 93, 94, 95, 96, 97, 98, 99] (by decide +kernel) (by decide +kernel)
set_option maxRecDepth 20000 in
theorem gX4_free_X4_isThere : GoodIn wsX4_free (wsV RX4 159 RX4 yX4_isThere wsX4_isThere) := goodIn_app (goodIn_of _ (by decide +kernel)) ggX4_free_X4_isThere
set_option maxRecDepth 20000 in
theorem ggX4_free_X4_blockOf : GoodIn wsX4_free wsX4_blockOf := goodIn_r _ [11, 12, 13, 71, 72, 73, 74, 75, 76, 77, 78, 79, 80, 81, 82, 83, 84, 85, 86, 87, 88, 89, 90, 91, 92, 93, 94, 95, 96, 97, 98, 99] (by decide +kernel) (by decide +kernel)
set_option maxRecDepth 20000 in
theorem gX4_free_X4_blockOf : GoodIn wsX4_free (wsV RX4 169 RX4 yX4_blockOf wsX4_blockOf) := goodIn_app (goodIn_of _ (by decide +kernel)) ggX4_free_X4_blockOf
set_option maxRecDepth 20000 in
theorem ggX4_free_X4_freeBlock : GoodIn wsX4_free wsX4_freeBlock := goodIn_r _ [17, 13, 12, 18, 19, 20, 21, 22, 23, 24, 5, 25, 26, 27, 28, 29, 30, 31, 32, 33, 34, 35, 36, 37, 38, 39, 40, 41, 42, 43, 44, 45, 46, 47, 48, 49, 50, 51, 52, 53, 54, 55, 56, 57, 58, 59, 60, 61, 62, 63, 64, 65, 7, 66, 67, 68, 69, 70, 71, 72, 73, 74, 75, 76, 77, 78, 79, 80, 81, 82, 83, 84, 85, 86, 87, 88, 89, 90, 91, 92, 93, 94, 95, 96, 97, 98, 99] (by decide +kernel) (by decide +kernel)
set_option maxRecDepth 20000 in
theorem gX4_free_X4_freeBlock : GoodIn wsX4_free (wsV RX4 172 RX4 yX4_freeBlock wsX4_freeBlock) := goodIn_app (goodIn_of _ (by decide +kernel)) ggX4_free_X4_freeBlock
theorem dX4_free_0 : decode cX4_free 0 = .ok (.aload_n 0, 1) := by decide +kernel
theorem dX4_free_1 : decode cX4_free 1 = .ok (.invokevirtual 159, 3) := by decide +kernel
theorem dX4_free_4 : decode cX4_free 4 = .ok (.ifCond .ne 4, 3) := by decide +kernel
theorem dX4_free_7 : decode cX4_free 7 = .ok (.return_, 1) := by decide +kernel
theorem dX4_free_8 : decode cX4_free 8 = .ok (.aload_n 0, 1) := by decide +kernel
theorem dX4_free_9 : decode cX4_free 9 = .ok (.iload_n 1, 1) := by decide +kernel
theorem dX4_free_10 : decode cX4_free 10 = .ok (.invokevirtual 169, 3) := by decide +kernel
theorem dX4_free_13 : decode cX4_free 13 = .ok (.istore_n 2, 1) := by decide +kernel
theorem dX4_free_14 : decode cX4_free 14 = .ok (.aload_n 0, 1) := by decide +kernel
theorem dX4_free_15 : decode cX4_free 15 = .ok (.iload_n 2, 1) := by decide +kernel
theorem dX4_free_16 : decode cX4_free 16 = .ok (.ifCond .ge 7, 3) := by decide +kernel
theorem dX4_free_19 : decode cX4_free 19 = .ok (.iconst 2, 1) := by decide +kernel
theorem dX4_free_20 : decode cX4_free 20 = .ok (.goto 4, 3) := by decide +kernel
theorem dX4_free_23 : decode cX4_free 23 = .ok (.iconst 0, 1) := by decide +kernel
theorem dX4_free_24 : decode cX4_free 24 = .ok (.putfield 66, 3) := by decide +kernel
theorem dX4_free_27 : decode cX4_free 27 = .ok (.iload_n 2, 1) := by decide +kernel
theorem dX4_free_28 : decode cX4_free 28 = .ok (.ifCond .lt 8, 3) := by decide +kernel
theorem dX4_free_31 : decode cX4_free 31 = .ok (.aload_n 0, 1) := by decide +kernel
theorem dX4_free_32 : decode cX4_free 32 = .ok (.iload_n 2, 1) := by decide +kernel
theorem dX4_free_33 : decode cX4_free 33 = .ok (.invokevirtual 172, 3) := by decide +kernel
theorem dX4_free_36 : decode cX4_free 36 = .ok (.return_, 1) := by decide +kernel
set_option maxRecDepth 20000 in
theorem ggX4_change_X4_isThere : GoodIn wsX4_change wsX4_isThere := goodIn_r _ [8, 9, 10, 90, 91, 92, 93, 94, 95, 96, 97, 98, 99, 100, 101, 102, 103, 104, 105, 106, 107, 108, 109, 110, 111, 112, 113, 114, 115, 116, 117, 118] (by decide +kernel) (by decide +kernel)
set_option maxRecDepth 20000 in
theorem gX4_change_X4_isThere : GoodIn wsX4_change (wsV RX4 159 RX4 yX4_isThere wsX4_isThere) := goodIn_app (goodIn_of _ (by decide +kernel)) ggX4_change_X4_isThere
set_option maxRecDepth 20000 in
theorem ggX4_change_X4_blockOf : GoodIn wsX4_change wsX4_blockOf := goodIn_r _ [14, 3, 15, 90, 91, 92, 93, 94, 95, 96, 97, 98, 99, 100, 101, 102, 103, 104, 105, 106, 107, 108, 109, 110, 111, 112, 113, 114, 115, 116, 117, 118] (by decide +kernel) (by decide +kernel)
set_option maxRecDepth 20000 in
theorem gX4_change_X4_blockOf : GoodIn wsX4_change (wsV RX4 169 RX4 yX4_blockOf wsX4_blockOf) := goodIn_app (goodIn_of _ (by decide +kernel)) ggX4_change_X4_blockOf
set_option maxRecDepth 20000 in
theorem ggX4_change_X4_raise : GoodIn wsX4_change wsX4_raise := goodIn_r _ [19, 10, 90, 91, 92, 93, 94, 95, 96, 97, 98, 99, 100, 101, 102, 103, 104, 105, 106, 107, 108, 109, 110, 111, 112, 113, 114, 115, 116, 117, 118] (by decide +kernel) (by decide +kernel)
set_option maxRecDepth 20000 in
theorem gX4_change_X4_raise : GoodIn wsX4_change (wsV RX4 163 RX4 yX4_raise wsX4_raise) := goodIn_app (goodIn_of _ (by decide +kernel)) ggX4_change_X4_raise
set_option maxRecDepth 20000 in
theorem ggX4_change_X4_nodeAt : GoodIn wsX4_change wsX4_nodeAt := goodIn_r _ [23, 24, 25, 26, 7, 27, 28, 90, 91, 92, 93, 94, 95, 96, 97, 98, 99, 100, 101, 102, 103, 104, 105, 106, 107, 108, 109, 110, 111, 112, 113, 114, 115, 116, 117, 118] (by decide +kernel) (by decide +kernel)
set_option maxRecDepth 20000 in
theorem gX4_change_X4_nodeAt : GoodIn wsX4_change (wsV RX4 151 RX4 yX4_nodeAt wsX4_nodeAt) := goodIn_app (goodIn_of _ (by decide +kernel)) ggX4_change_X4_nodeAt
set_option maxRecDepth 20000 in
theorem ggX4_change_X4_classOf : GoodIn wsX4_change wsX4_classOf := goodIn_r _ [32, 28, 33, 90, 91, 92, 93, 94, 95, 96, 97, 98, 99, 100, 101, 102, 103, 104, 105, 106, 107, 108, 109, 110, 111, 112, 113, 114, 115, 116, 117, 118] (by decide +kernel) (by decide +kernel)
set_option maxRecDepth 20000 in
theorem gX4_change_X4_classOf : GoodIn wsX4_change (wsV RX4 139 RX4 yX4_classOf wsX4_classOf) := goodIn_app (goodIn_of _ (by decide +kernel)) ggX4_change_X4_classOf
set_option maxRecDepth 20000 in
theorem ggX4_change_X4_giveWords : GoodIn wsX4_change wsX4_giveWords := goodIn_r _ [37, 38, 39, 1, 40, 28, 41, 42, 15, 3, 2, 43, 44, 45, 7, 46, 47, 48, 49, 50, 29, 30, 31, 32, 33, 51, 52, 53, 54, 55, 56, 57, 58, 59, 60, 61, 62, 63, 64, 65, 66, 67, 68, 69, 70, 71, 72, 24, 25, 26, 27, 73, 74, 75, 76, 9, 77, 78, 79, 90, 91, 92, 93, 94, 95, 96, 97, 98, 99, 100, 101, 102, 103, 104, 105, 106, 107, 108, 109, 110, 111, 112, 113, 114, 115, 116, 117, 118] (by decide +kernel) (by decide +kernel)
set_option maxRecDepth 20000 in
theorem gX4_change_X4_giveWords : GoodIn wsX4_change (wsV RX4 166 RX4 yX4_giveWords wsX4_giveWords) := goodIn_app (goodIn_of _ (by decide +kernel)) ggX4_change_X4_giveWords
set_option maxRecDepth 20000 in
theorem ggX4_change_X4_freeBlock : GoodIn wsX4_change wsX4_freeBlock := goodIn_r _ [83, 15, 3, 2, 28, 84, 85, 20, 21, 22, 7, 23, 24, 25, 26, 27, 29, 30, 31, 32, 33, 56, 57, 58, 59, 40, 60, 61, 62, 63, 64, 65, 66, 67, 68, 47, 48, 49, 50, 86, 87, 88, 89, 69, 70, 71, 72, 55, 73, 74, 75, 76, 9, 38, 39, 77, 78, 79, 90, 91, 92, 93, 94, 95, 96, 97, 98, 99, 100, 101, 102, 103, 104, 105, 106, 107, 108, 109, 110, 111, 112, 113, 114, 115, 116, 117, 118] (by decide +kernel) (by decide +kernel)
set_option maxRecDepth 20000 in
theorem gX4_change_X4_freeBlock : GoodIn wsX4_change (wsV RX4 172 RX4 yX4_freeBlock wsX4_freeBlock) := goodIn_app (goodIn_of _ (by decide +kernel)) ggX4_change_X4_freeBlock
theorem dX4_change_0 : decode cX4_change 0 = .ok (.aload_n 0, 1) := by decide +kernel
theorem dX4_change_1 : decode cX4_change 1 = .ok (.invokevirtual 159, 3) := by decide +kernel
theorem dX4_change_4 : decode cX4_change 4 = .ok (.ifCond .ne 5, 3) := by decide +kernel
theorem dX4_change_7 : decode cX4_change 7 = .ok (.iconst 0, 1) := by decide +kernel
theorem dX4_change_8 : decode cX4_change 8 = .ok (.ireturn, 1) := by decide +kernel
theorem dX4_change_9 : decode cX4_change 9 = .ok (.aload_n 0, 1) := by decide +kernel
theorem dX4_change_10 : decode cX4_change 10 = .ok (.iload_n 1, 1) := by decide +kernel
theorem dX4_change_11 : decode cX4_change 11 = .ok (.invokevirtual 169, 3) := by decide +kernel
theorem dX4_change_14 : decode cX4_change 14 = .ok (.istore_n 3, 1) := by decide +kernel
theorem dX4_change_15 : decode cX4_change 15 = .ok (.iload_n 3, 1) := by decide +kernel
theorem dX4_change_16 : decode cX4_change 16 = .ok (.ifCond .lt 8, 3) := by decide +kernel
theorem dX4_change_19 : decode cX4_change 19 = .ok (.iload_n 2, 1) := by decide +kernel
theorem dX4_change_20 : decode cX4_change 20 = .ok (.iconst 1, 1) := by decide +kernel
theorem dX4_change_21 : decode cX4_change 21 = .ok (.if_icmp .ge 9, 3) := by decide +kernel
theorem dX4_change_24 : decode cX4_change 24 = .ok (.aload_n 0, 1) := by decide +kernel
theorem dX4_change_25 : decode cX4_change 25 = .ok (.iconst 2, 1) := by decide +kernel
theorem dX4_change_26 : decode cX4_change 26 = .ok (.invokevirtual 163, 3) := by decide +kernel
theorem dX4_change_29 : decode cX4_change 29 = .ok (.ireturn, 1) := by decide +kernel
theorem dX4_change_30 : decode cX4_change 30 = .ok (.aload_n 0, 1) := by decide +kernel
theorem dX4_change_31 : decode cX4_change 31 = .ok (.getfield 19, 3) := by decide +kernel
theorem dX4_change_34 : decode cX4_change 34 = .ok (.aload_n 0, 1) := by decide +kernel
theorem dX4_change_35 : decode cX4_change 35 = .ok (.aload_n 0, 1) := by decide +kernel
theorem dX4_change_36 : decode cX4_change 36 = .ok (.iload_n 1, 1) := by decide +kernel
theorem dX4_change_37 : decode cX4_change 37 = .ok (.invokevirtual 151, 3) := by decide +kernel
theorem dX4_change_40 : decode cX4_change 40 = .ok (.invokevirtual 139, 3) := by decide +kernel
theorem dX4_change_43 : decode cX4_change 43 = .ok (.iaload, 1) := by decide +kernel
theorem dX4_change_44 : decode cX4_change 44 = .ok (.iload_n 2, 1) := by decide +kernel
theorem dX4_change_45 : decode cX4_change 45 = .ok (.if_icmp .lt 12, 3) := by decide +kernel
theorem dX4_change_48 : decode cX4_change 48 = .ok (.aload_n 0, 1) := by decide +kernel
theorem dX4_change_49 : decode cX4_change 49 = .ok (.getfield 45, 3) := by decide +kernel
theorem dX4_change_52 : decode cX4_change 52 = .ok (.iload_n 3, 1) := by decide +kernel
theorem dX4_change_53 : decode cX4_change 53 = .ok (.iload_n 2, 1) := by decide +kernel
theorem dX4_change_54 : decode cX4_change 54 = .ok (.iastore, 1) := by decide +kernel
theorem dX4_change_55 : decode cX4_change 55 = .ok (.iload_n 1, 1) := by decide +kernel
theorem dX4_change_56 : decode cX4_change 56 = .ok (.ireturn, 1) := by decide +kernel
theorem dX4_change_57 : decode cX4_change 57 = .ok (.aload_n 0, 1) := by decide +kernel
theorem dX4_change_58 : decode cX4_change 58 = .ok (.getfield 103, 3) := by decide +kernel
theorem dX4_change_61 : decode cX4_change 61 = .ok (.sipush 256, 3) := by decide +kernel
theorem dX4_change_64 : decode cX4_change 64 = .ok (.if_icmp .ne 9, 3) := by decide +kernel
theorem dX4_change_67 : decode cX4_change 67 = .ok (.aload_n 0, 1) := by decide +kernel
theorem dX4_change_68 : decode cX4_change 68 = .ok (.iconst 1, 1) := by decide +kernel
theorem dX4_change_69 : decode cX4_change 69 = .ok (.invokevirtual 163, 3) := by decide +kernel
theorem dX4_change_72 : decode cX4_change 72 = .ok (.ireturn, 1) := by decide +kernel
theorem dX4_change_73 : decode cX4_change 73 = .ok (.aload_n 0, 1) := by decide +kernel
theorem dX4_change_74 : decode cX4_change 74 = .ok (.iload_n 2, 1) := by decide +kernel
theorem dX4_change_75 : decode cX4_change 75 = .ok (.invokevirtual 166, 3) := by decide +kernel
theorem dX4_change_78 : decode cX4_change 78 = .ok (.istore 4, 2) := by decide +kernel
theorem dX4_change_80 : decode cX4_change 80 = .ok (.iload 4, 2) := by decide +kernel
theorem dX4_change_82 : decode cX4_change 82 = .ok (.ifCond .lt 8, 3) := by decide +kernel
theorem dX4_change_85 : decode cX4_change 85 = .ok (.aload_n 0, 1) := by decide +kernel
theorem dX4_change_86 : decode cX4_change 86 = .ok (.iload_n 3, 1) := by decide +kernel
theorem dX4_change_87 : decode cX4_change 87 = .ok (.invokevirtual 172, 3) := by decide +kernel
theorem dX4_change_90 : decode cX4_change 90 = .ok (.iload 4, 2) := by decide +kernel
theorem dX4_change_92 : decode cX4_change 92 = .ok (.ireturn, 1) := by decide +kernel
set_option maxRecDepth 20000 in
theorem ggX4_block_X4_isThere : GoodIn wsX4_block wsX4_isThere := goodIn_r _ [7, 8, 9, 41, 42, 43, 44, 45, 46, 47, 48, 49, 50, 51, 52, 53, 54, 55, 56, 57, 58, 59, 60, 61, 62, 63, 64, 65, 66, 67, 68, 69] (by decide +kernel) (by decide +kernel)
set_option maxRecDepth 20000 in
theorem gX4_block_X4_isThere : GoodIn wsX4_block (wsV RX4 159 RX4 yX4_isThere wsX4_isThere) := goodIn_app (goodIn_of _ (by decide +kernel)) ggX4_block_X4_isThere
set_option maxRecDepth 20000 in
theorem ggX4_block_X4_blockOf : GoodIn wsX4_block wsX4_blockOf := goodIn_r _ [13, 14, 15, 41, 42, 43, 44, 45, 46, 47, 48, 49, 50, 51, 52, 53, 54, 55, 56, 57, 58, 59, 60, 61, 62, 63, 64, 65, 66, 67, 68, 69] (by decide +kernel) (by decide +kernel)
set_option maxRecDepth 20000 in
theorem gX4_block_X4_blockOf : GoodIn wsX4_block (wsV RX4 169 RX4 yX4_blockOf wsX4_blockOf) := goodIn_app (goodIn_of _ (by decide +kernel)) ggX4_block_X4_blockOf
set_option maxRecDepth 20000 in
theorem ggX4_block_X4_in : GoodIn wsX4_block wsX4_in := goodIn_r _ [18] (by decide +kernel) (by decide +kernel)
set_option maxRecDepth 20000 in
theorem gX4_block_X4_in : GoodIn wsX4_block (va_wsS RX4 72 yX4_in wsX4_in) := goodIn_app (goodIn_of _ (by decide +kernel)) ggX4_block_X4_in
set_option maxRecDepth 20000 in
theorem ggX4_block_X4_raise : GoodIn wsX4_block wsX4_raise := goodIn_r _ [22, 9, 41, 42, 43, 44, 45, 46, 47, 48, 49, 50, 51, 52, 53, 54, 55, 56, 57, 58, 59, 60, 61, 62, 63, 64, 65, 66, 67, 68, 69] (by decide +kernel) (by decide +kernel)
set_option maxRecDepth 20000 in
theorem gX4_block_X4_raise : GoodIn wsX4_block (wsV RX4 163 RX4 yX4_raise wsX4_raise) := goodIn_app (goodIn_of _ (by decide +kernel)) ggX4_block_X4_raise
