theorem dL_isLike_392 : decode cL_isLike 392 = .ok (.getfield 57, 3) := by decide +kernel
theorem dL_isLike_395 : decode cL_isLike 395 = .ok (.iload_n 2, 1) := by decide +kernel
theorem dL_isLike_396 : decode cL_isLike 396 = .ok (.iaload, 1) := by decide +kernel
theorem dL_isLike_397 : decode cL_isLike 397 = .ok (.if_icmp .eq 5, 3) := by decide +kernel
theorem dL_isLike_400 : decode cL_isLike 400 = .ok (.iconst 0, 1) := by decide +kernel
theorem dL_isLike_401 : decode cL_isLike 401 = .ok (.ireturn, 1) := by decide +kernel
theorem dL_isLike_402 : decode cL_isLike 402 = .ok (.iconst 0, 1) := by decide +kernel
theorem dL_isLike_403 : decode cL_isLike 403 = .ok (.istore_n 3, 1) := by decide +kernel
theorem dL_isLike_404 : decode cL_isLike 404 = .ok (.iload_n 3, 1) := by decide +kernel
theorem dL_isLike_405 : decode cL_isLike 405 = .ok (.aload_n 0, 1) := by decide +kernel
theorem dL_isLike_406 : decode cL_isLike 406 = .ok (.getfield 67, 3) := by decide +kernel
theorem dL_isLike_409 : decode cL_isLike 409 = .ok (.iload_n 2, 1) := by decide +kernel
theorem dL_isLike_410 : decode cL_isLike 410 = .ok (.aaload, 1) := by decide +kernel
theorem dL_isLike_411 : decode cL_isLike 411 = .ok (.arraylength, 1) := by decide +kernel
theorem dL_isLike_412 : decode cL_isLike 412 = .ok (.if_icmp .ge 47, 3) := by decide +kernel
theorem dL_isLike_415 : decode cL_isLike 415 = .ok (.aload_n 1, 1) := by decide +kernel
theorem dL_isLike_416 : decode cL_isLike 416 = .ok (.iload_n 2, 1) := by decide +kernel
theorem dL_isLike_417 : decode cL_isLike 417 = .ok (.iload_n 3, 1) := by decide +kernel
theorem dL_isLike_418 : decode cL_isLike 418 = .ok (.iconst 1, 1) := by decide +kernel
theorem dL_isLike_419 : decode cL_isLike 419 = .ok (.invokevirtual 223, 3) := by decide +kernel
theorem dL_isLike_422 : decode cL_isLike 422 = .ok (.aload_n 0, 1) := by decide +kernel
theorem dL_isLike_423 : decode cL_isLike 423 = .ok (.getfield 70, 3) := by decide +kernel
theorem dL_isLike_426 : decode cL_isLike 426 = .ok (.iload_n 2, 1) := by decide +kernel
theorem dL_isLike_427 : decode cL_isLike 427 = .ok (.aaload, 1) := by decide +kernel
theorem dL_isLike_428 : decode cL_isLike 428 = .ok (.iload_n 3, 1) := by decide +kernel
theorem dL_isLike_429 : decode cL_isLike 429 = .ok (.iaload, 1) := by decide +kernel
theorem dL_isLike_430 : decode cL_isLike 430 = .ok (.if_icmp .ne 21, 3) := by decide +kernel
theorem dL_isLike_433 : decode cL_isLike 433 = .ok (.aload_n 1, 1) := by decide +kernel
theorem dL_isLike_434 : decode cL_isLike 434 = .ok (.iload_n 2, 1) := by decide +kernel
theorem dL_isLike_435 : decode cL_isLike 435 = .ok (.iload_n 3, 1) := by decide +kernel
theorem dL_isLike_436 : decode cL_isLike 436 = .ok (.iconst 0, 1) := by decide +kernel
theorem dL_isLike_437 : decode cL_isLike 437 = .ok (.invokevirtual 223, 3) := by decide +kernel
theorem dL_isLike_440 : decode cL_isLike 440 = .ok (.aload_n 0, 1) := by decide +kernel
theorem dL_isLike_441 : decode cL_isLike 441 = .ok (.getfield 67, 3) := by decide +kernel
theorem dL_isLike_444 : decode cL_isLike 444 = .ok (.iload_n 2, 1) := by decide +kernel
theorem dL_isLike_445 : decode cL_isLike 445 = .ok (.aaload, 1) := by decide +kernel
theorem dL_isLike_446 : decode cL_isLike 446 = .ok (.iload_n 3, 1) := by decide +kernel
theorem dL_isLike_447 : decode cL_isLike 447 = .ok (.iaload, 1) := by decide +kernel
theorem dL_isLike_448 : decode cL_isLike 448 = .ok (.if_icmp .eq 5, 3) := by decide +kernel
theorem dL_isLike_451 : decode cL_isLike 451 = .ok (.iconst 0, 1) := by decide +kernel
theorem dL_isLike_452 : decode cL_isLike 452 = .ok (.ireturn, 1) := by decide +kernel
theorem dL_isLike_453 : decode cL_isLike 453 = .ok (.iinc 3 1, 3) := by decide +kernel
theorem dL_isLike_456 : decode cL_isLike 456 = .ok (.goto (-52), 3) := by decide +kernel
theorem dL_isLike_459 : decode cL_isLike 459 = .ok (.iinc 2 1, 3) := by decide +kernel
theorem dL_isLike_462 : decode cL_isLike 462 = .ok (.goto (-192), 3) := by decide +kernel
theorem dL_isLike_465 : decode cL_isLike 465 = .ok (.aload_n 1, 1) := by decide +kernel
theorem dL_isLike_466 : decode cL_isLike 466 = .ok (.invokevirtual 227, 3) := by decide +kernel
theorem dL_isLike_469 : decode cL_isLike 469 = .ok (.ireturn, 1) := by decide +kernel
theorem dL_law_0 : decode cL_law 0 = .ok (.new 84, 3) := by decide +kernel
theorem dL_law_3 : decode cL_law 3 = .ok (.dup, 1) := by decide +kernel
theorem dL_law_4 : decode cL_law 4 = .ok (.invokespecial 231, 3) := by decide +kernel
theorem dL_law_7 : decode cL_law 7 = .ok (.astore_n 1, 1) := by decide +kernel
theorem dL_law_8 : decode cL_law 8 = .ok (.new 8, 3) := by decide +kernel
theorem dL_law_11 : decode cL_law 11 = .ok (.dup, 1) := by decide +kernel
theorem dL_law_12 : decode cL_law 12 = .ok (.invokespecial 232, 3) := by decide +kernel
theorem dL_law_15 : decode cL_law 15 = .ok (.astore_n 2, 1) := by decide +kernel
theorem dL_law_16 : decode cL_law 16 = .ok (.aload_n 0, 1) := by decide +kernel
theorem dL_law_17 : decode cL_law 17 = .ok (.iconst 0, 1) := by decide +kernel
theorem dL_law_18 : decode cL_law 18 = .ok (.invokestatic 233, 3) := by decide +kernel
theorem dL_law_21 : decode cL_law 21 = .ok (.istore_n 3, 1) := by decide +kernel
theorem dL_law_22 : decode cL_law 22 = .ok (.aload_n 2, 1) := by decide +kernel
theorem dL_law_23 : decode cL_law 23 = .ok (.iconst 3, 1) := by decide +kernel
theorem dL_law_24 : decode cL_law 24 = .ok (.iload_n 3, 1) := by decide +kernel
theorem dL_law_25 : decode cL_law 25 = .ok (.iconst 0, 1) := by decide +kernel
theorem dL_law_26 : decode cL_law 26 = .ok (.iconst 4, 1) := by decide +kernel
theorem dL_law_27 : decode cL_law 27 = .ok (.invokestatic 184, 3) := by decide +kernel
theorem dL_law_30 : decode cL_law 30 = .ok (.iconst 3, 1) := by decide +kernel
theorem dL_law_31 : decode cL_law 31 = .ok (.irem, 1) := by decide +kernel
theorem dL_law_32 : decode cL_law 32 = .ok (.iadd, 1) := by decide +kernel
theorem dL_law_33 : decode cL_law 33 = .ok (.putfield 93, 3) := by decide +kernel
theorem dL_law_36 : decode cL_law 36 = .ok (.aload_n 2, 1) := by decide +kernel
theorem dL_law_37 : decode cL_law 37 = .ok (.iload_n 3, 1) := by decide +kernel
theorem dL_law_38 : decode cL_law 38 = .ok (.iconst 4, 1) := by decide +kernel
theorem dL_law_39 : decode cL_law 39 = .ok (.iconst 4, 1) := by decide +kernel
theorem dL_law_40 : decode cL_law 40 = .ok (.invokestatic 184, 3) := by decide +kernel
theorem dL_law_43 : decode cL_law 43 = .ok (.bipush 10, 2) := by decide +kernel
theorem dL_law_45 : decode cL_law 45 = .ok (.irem, 1) := by decide +kernel
theorem dL_law_46 : decode cL_law 46 = .ok (.putfield 119, 3) := by decide +kernel
theorem dL_law_49 : decode cL_law 49 = .ok (.aload_n 2, 1) := by decide +kernel
theorem dL_law_50 : decode cL_law 50 = .ok (.bipush 20, 2) := by decide +kernel
theorem dL_law_52 : decode cL_law 52 = .ok (.iload_n 3, 1) := by decide +kernel
theorem dL_law_53 : decode cL_law 53 = .ok (.bipush 8, 2) := by decide +kernel
theorem dL_law_55 : decode cL_law 55 = .ok (.iconst 5, 1) := by decide +kernel
theorem dL_law_56 : decode cL_law 56 = .ok (.invokestatic 184, 3) := by decide +kernel
theorem dL_law_59 : decode cL_law 59 = .ok (.iadd, 1) := by decide +kernel
theorem dL_law_60 : decode cL_law 60 = .ok (.putfield 160, 3) := by decide +kernel
theorem dL_law_63 : decode cL_law 63 = .ok (.aload_n 2, 1) := by decide +kernel
theorem dL_law_64 : decode cL_law 64 = .ok (.iload_n 3, 1) := by decide +kernel
theorem dL_law_65 : decode cL_law 65 = .ok (.bipush 13, 2) := by decide +kernel
theorem dL_law_67 : decode cL_law 67 = .ok (.iconst 2, 1) := by decide +kernel
theorem dL_law_68 : decode cL_law 68 = .ok (.invokestatic 184, 3) := by decide +kernel
theorem dL_law_71 : decode cL_law 71 = .ok (.putfield 131, 3) := by decide +kernel
theorem dL_law_74 : decode cL_law 74 = .ok (.new 237, 3) := by decide +kernel
theorem dL_law_77 : decode cL_law 77 = .ok (.dup, 1) := by decide +kernel
theorem dL_law_78 : decode cL_law 78 = .ok (.invokespecial 239, 3) := by decide +kernel
theorem dL_law_81 : decode cL_law 81 = .ok (.astore 4, 2) := by decide +kernel
theorem dL_law_83 : decode cL_law 83 = .ok (.iconst 0, 1) := by decide +kernel
theorem dL_law_84 : decode cL_law 84 = .ok (.istore 5, 2) := by decide +kernel
theorem dL_law_86 : decode cL_law 86 = .ok (.iload 5, 2) := by decide +kernel
theorem dL_law_88 : decode cL_law 88 = .ok (.aload_n 2, 1) := by decide +kernel
theorem dL_law_89 : decode cL_law 89 = .ok (.getfield 93, 3) := by decide +kernel
theorem dL_law_92 : decode cL_law 92 = .ok (.if_icmp .ge 164, 3) := by decide +kernel
theorem dL_law_95 : decode cL_law 95 = .ok (.aload_n 0, 1) := by decide +kernel
theorem dL_law_96 : decode cL_law 96 = .ok (.iconst 1, 1) := by decide +kernel
theorem dL_law_97 : decode cL_law 97 = .ok (.iload 5, 2) := by decide +kernel
theorem dL_law_99 : decode cL_law 99 = .ok (.iadd, 1) := by decide +kernel
theorem dL_law_100 : decode cL_law 100 = .ok (.invokestatic 233, 3) := by decide +kernel
theorem dL_law_103 : decode cL_law 103 = .ok (.istore 6, 2) := by decide +kernel
theorem dL_law_105 : decode cL_law 105 = .ok (.aload_n 2, 1) := by decide +kernel
theorem dL_law_106 : decode cL_law 106 = .ok (.getfield 7, 3) := by decide +kernel
theorem dL_law_109 : decode cL_law 109 = .ok (.iload 5, 2) := by decide +kernel
theorem dL_law_111 : decode cL_law 111 = .ok (.iconst 1, 1) := by decide +kernel
theorem dL_law_112 : decode cL_law 112 = .ok (.iload 6, 2) := by decide +kernel
theorem dL_law_114 : decode cL_law 114 = .ok (.iconst 0, 1) := by decide +kernel
theorem dL_law_115 : decode cL_law 115 = .ok (.iconst 3, 1) := by decide +kernel
theorem dL_law_116 : decode cL_law 116 = .ok (.invokestatic 184, 3) := by decide +kernel
theorem dL_law_119 : decode cL_law 119 = .ok (.iadd, 1) := by decide +kernel
theorem dL_law_120 : decode cL_law 120 = .ok (.iastore, 1) := by decide +kernel
theorem dL_law_121 : decode cL_law 121 = .ok (.aload_n 2, 1) := by decide +kernel
theorem dL_law_122 : decode cL_law 122 = .ok (.getfield 13, 3) := by decide +kernel
theorem dL_law_125 : decode cL_law 125 = .ok (.iload 5, 2) := by decide +kernel
theorem dL_law_127 : decode cL_law 127 = .ok (.iload 6, 2) := by decide +kernel
theorem dL_law_129 : decode cL_law 129 = .ok (.iconst 3, 1) := by decide +kernel
theorem dL_law_130 : decode cL_law 130 = .ok (.iconst 4, 1) := by decide +kernel
theorem dL_law_131 : decode cL_law 131 = .ok (.invokestatic 184, 3) := by decide +kernel
theorem dL_law_134 : decode cL_law 134 = .ok (.bipush 10, 2) := by decide +kernel
theorem dL_law_136 : decode cL_law 136 = .ok (.irem, 1) := by decide +kernel
theorem dL_law_137 : decode cL_law 137 = .ok (.iastore, 1) := by decide +kernel
theorem dL_law_138 : decode cL_law 138 = .ok (.aload_n 2, 1) := by decide +kernel
theorem dL_law_139 : decode cL_law 139 = .ok (.getfield 16, 3) := by decide +kernel
theorem dL_law_142 : decode cL_law 142 = .ok (.iload 5, 2) := by decide +kernel
theorem dL_law_144 : decode cL_law 144 = .ok (.iload 6, 2) := by decide +kernel
theorem dL_law_146 : decode cL_law 146 = .ok (.bipush 7, 2) := by decide +kernel
theorem dL_law_148 : decode cL_law 148 = .ok (.iconst 2, 1) := by decide +kernel
theorem dL_law_149 : decode cL_law 149 = .ok (.invokestatic 184, 3) := by decide +kernel
theorem dL_law_152 : decode cL_law 152 = .ok (.iastore, 1) := by decide +kernel
theorem dL_law_153 : decode cL_law 153 = .ok (.aload_n 2, 1) := by decide +kernel
theorem dL_law_154 : decode cL_law 154 = .ok (.getfield 19, 3) := by decide +kernel
theorem dL_law_157 : decode cL_law 157 = .ok (.iload 5, 2) := by decide +kernel
theorem dL_law_159 : decode cL_law 159 = .ok (.iload 6, 2) := by decide +kernel
theorem dL_law_161 : decode cL_law 161 = .ok (.bipush 9, 2) := by decide +kernel
theorem dL_law_163 : decode cL_law 163 = .ok (.iconst 5, 1) := by decide +kernel
theorem dL_law_164 : decode cL_law 164 = .ok (.invokestatic 184, 3) := by decide +kernel
theorem dL_law_167 : decode cL_law 167 = .ok (.iastore, 1) := by decide +kernel
theorem dL_law_168 : decode cL_law 168 = .ok (.aload 4, 2) := by decide +kernel
theorem dL_law_170 : decode cL_law 170 = .ok (.ldc 240, 2) := by decide +kernel
theorem dL_law_172 : decode cL_law 172 = .ok (.invokevirtual 242, 3) := by decide +kernel
theorem dL_law_175 : decode cL_law 175 = .ok (.bipush 97, 2) := by decide +kernel
theorem dL_law_177 : decode cL_law 177 = .ok (.iload 5, 2) := by decide +kernel
theorem dL_law_179 : decode cL_law 179 = .ok (.iadd, 1) := by decide +kernel
theorem dL_law_180 : decode cL_law 180 = .ok (.i2c, 1) := by decide +kernel
theorem dL_law_181 : decode cL_law 181 = .ok (.invokevirtual 246, 3) := by decide +kernel
theorem dL_law_184 : decode cL_law 184 = .ok (.bipush 32, 2) := by decide +kernel
theorem dL_law_186 : decode cL_law 186 = .ok (.invokevirtual 246, 3) := by decide +kernel
theorem dL_law_189 : decode cL_law 189 = .ok (.aload_n 2, 1) := by decide +kernel
theorem dL_law_190 : decode cL_law 190 = .ok (.getfield 7, 3) := by decide +kernel
theorem dL_law_193 : decode cL_law 193 = .ok (.iload 5, 2) := by decide +kernel
theorem dL_law_195 : decode cL_law 195 = .ok (.iaload, 1) := by decide +kernel
theorem dL_law_196 : decode cL_law 196 = .ok (.invokevirtual 249, 3) := by decide +kernel
theorem dL_law_199 : decode cL_law 199 = .ok (.bipush 32, 2) := by decide +kernel
theorem dL_law_201 : decode cL_law 201 = .ok (.invokevirtual 246, 3) := by decide +kernel
theorem dL_law_204 : decode cL_law 204 = .ok (.aload_n 2, 1) := by decide +kernel
theorem dL_law_205 : decode cL_law 205 = .ok (.getfield 13, 3) := by decide +kernel
theorem dL_law_208 : decode cL_law 208 = .ok (.iload 5, 2) := by decide +kernel
theorem dL_law_210 : decode cL_law 210 = .ok (.iaload, 1) := by decide +kernel
theorem dL_law_211 : decode cL_law 211 = .ok (.invokevirtual 249, 3) := by decide +kernel
theorem dL_law_214 : decode cL_law 214 = .ok (.bipush 32, 2) := by decide +kernel
theorem dL_law_216 : decode cL_law 216 = .ok (.invokevirtual 246, 3) := by decide +kernel
theorem dL_law_219 : decode cL_law 219 = .ok (.aload_n 2, 1) := by decide +kernel
theorem dL_law_220 : decode cL_law 220 = .ok (.getfield 16, 3) := by decide +kernel
theorem dL_law_223 : decode cL_law 223 = .ok (.iload 5, 2) := by decide +kernel
theorem dL_law_225 : decode cL_law 225 = .ok (.iaload, 1) := by decide +kernel
theorem dL_law_226 : decode cL_law 226 = .ok (.invokevirtual 249, 3) := by decide +kernel
theorem dL_law_229 : decode cL_law 229 = .ok (.bipush 32, 2) := by decide +kernel
theorem dL_law_231 : decode cL_law 231 = .ok (.invokevirtual 246, 3) := by decide +kernel
theorem dL_law_234 : decode cL_law 234 = .ok (.aload_n 2, 1) := by decide +kernel
theorem dL_law_235 : decode cL_law 235 = .ok (.getfield 19, 3) := by decide +kernel
theorem dL_law_238 : decode cL_law 238 = .ok (.iload 5, 2) := by decide +kernel
theorem dL_law_240 : decode cL_law 240 = .ok (.iaload, 1) := by decide +kernel
theorem dL_law_241 : decode cL_law 241 = .ok (.invokevirtual 249, 3) := by decide +kernel
theorem dL_law_244 : decode cL_law 244 = .ok (.bipush 59, 2) := by decide +kernel
theorem dL_law_246 : decode cL_law 246 = .ok (.invokevirtual 246, 3) := by decide +kernel
theorem dL_law_249 : decode cL_law 249 = .ok (.pop, 1) := by decide +kernel
theorem dL_law_250 : decode cL_law 250 = .ok (.iinc 5 1, 3) := by decide +kernel
theorem dL_law_253 : decode cL_law 253 = .ok (.goto (-167), 3) := by decide +kernel
theorem dL_law_256 : decode cL_law 256 = .ok (.iconst 0, 1) := by decide +kernel
theorem dL_law_257 : decode cL_law 257 = .ok (.istore 5, 2) := by decide +kernel
theorem dL_law_259 : decode cL_law 259 = .ok (.iconst 0, 1) := by decide +kernel
theorem dL_law_260 : decode cL_law 260 = .ok (.istore 6, 2) := by decide +kernel
theorem dL_law_262 : decode cL_law 262 = .ok (.iload 6, 2) := by decide +kernel
theorem dL_law_264 : decode cL_law 264 = .ok (.aload_n 2, 1) := by decide +kernel
theorem dL_law_265 : decode cL_law 265 = .ok (.getfield 93, 3) := by decide +kernel
theorem dL_law_268 : decode cL_law 268 = .ok (.if_icmp .ge 158, 3) := by decide +kernel
theorem dL_law_271 : decode cL_law 271 = .ok (.iload 6, 2) := by decide +kernel
theorem dL_law_273 : decode cL_law 273 = .ok (.iconst 1, 1) := by decide +kernel
theorem dL_law_274 : decode cL_law 274 = .ok (.iadd, 1) := by decide +kernel
theorem dL_law_275 : decode cL_law 275 = .ok (.istore 7, 2) := by decide +kernel
theorem dL_law_277 : decode cL_law 277 = .ok (.iload 7, 2) := by decide +kernel
theorem dL_law_279 : decode cL_law 279 = .ok (.aload_n 2, 1) := by decide +kernel
theorem dL_law_280 : decode cL_law 280 = .ok (.getfield 93, 3) := by decide +kernel
theorem dL_law_283 : decode cL_law 283 = .ok (.if_icmp .ge 137, 3) := by decide +kernel
theorem dL_law_286 : decode cL_law 286 = .ok (.aload_n 0, 1) := by decide +kernel
theorem dL_law_287 : decode cL_law 287 = .ok (.bipush 6, 2) := by decide +kernel
theorem dL_law_289 : decode cL_law 289 = .ok (.iconst 5, 1) := by decide +kernel
theorem dL_law_290 : decode cL_law 290 = .ok (.iload 6, 2) := by decide +kernel
theorem dL_law_292 : decode cL_law 292 = .ok (.imul, 1) := by decide +kernel
theorem dL_law_293 : decode cL_law 293 = .ok (.iadd, 1) := by decide +kernel
theorem dL_law_294 : decode cL_law 294 = .ok (.iload 7, 2) := by decide +kernel
theorem dL_law_296 : decode cL_law 296 = .ok (.iadd, 1) := by decide +kernel
theorem dL_law_297 : decode cL_law 297 = .ok (.invokestatic 233, 3) := by decide +kernel
theorem dL_law_300 : decode cL_law 300 = .ok (.istore 8, 2) := by decide +kernel
theorem dL_law_302 : decode cL_law 302 = .ok (.iload 8, 2) := by decide +kernel
theorem dL_law_304 : decode cL_law 304 = .ok (.iconst 0, 1) := by decide +kernel
theorem dL_law_305 : decode cL_law 305 = .ok (.iconst 2, 1) := by decide +kernel
theorem dL_law_306 : decode cL_law 306 = .ok (.invokestatic 184, 3) := by decide +kernel
theorem dL_law_309 : decode cL_law 309 = .ok (.ifCond .ne 6, 3) := by decide +kernel
theorem dL_law_312 : decode cL_law 312 = .ok (.goto 102, 3) := by decide +kernel
theorem dL_law_315 : decode cL_law 315 = .ok (.aload_n 2, 1) := by decide +kernel
theorem dL_law_316 : decode cL_law 316 = .ok (.getfield 30, 3) := by decide +kernel
theorem dL_law_319 : decode cL_law 319 = .ok (.iload 6, 2) := by decide +kernel
theorem dL_law_321 : decode cL_law 321 = .ok (.aaload, 1) := by decide +kernel
theorem dL_law_322 : decode cL_law 322 = .ok (.iload 7, 2) := by decide +kernel
theorem dL_law_324 : decode cL_law 324 = .ok (.iconst 1, 1) := by decide +kernel
theorem dL_law_325 : decode cL_law 325 = .ok (.iload 8, 2) := by decide +kernel
theorem dL_law_327 : decode cL_law 327 = .ok (.iconst 2, 1) := by decide +kernel
theorem dL_law_328 : decode cL_law 328 = .ok (.iconst 4, 1) := by decide +kernel
theorem dL_law_329 : decode cL_law 329 = .ok (.invokestatic 184, 3) := by decide +kernel
theorem dL_law_332 : decode cL_law 332 = .ok (.bipush 9, 2) := by decide +kernel
theorem dL_law_334 : decode cL_law 334 = .ok (.irem, 1) := by decide +kernel
theorem dL_law_335 : decode cL_law 335 = .ok (.iadd, 1) := by decide +kernel
theorem dL_law_336 : decode cL_law 336 = .ok (.iastore, 1) := by decide +kernel
theorem dL_law_337 : decode cL_law 337 = .ok (.aload_n 2, 1) := by decide +kernel
theorem dL_law_338 : decode cL_law 338 = .ok (.getfield 30, 3) := by decide +kernel
theorem dL_law_341 : decode cL_law 341 = .ok (.iload 7, 2) := by decide +kernel
theorem dL_law_343 : decode cL_law 343 = .ok (.aaload, 1) := by decide +kernel
theorem dL_law_344 : decode cL_law 344 = .ok (.iload 6, 2) := by decide +kernel
theorem dL_law_346 : decode cL_law 346 = .ok (.aload_n 2, 1) := by decide +kernel
theorem dL_law_347 : decode cL_law 347 = .ok (.getfield 30, 3) := by decide +kernel
theorem dL_law_350 : decode cL_law 350 = .ok (.iload 6, 2) := by decide +kernel
theorem dL_law_352 : decode cL_law 352 = .ok (.aaload, 1) := by decide +kernel
theorem dL_law_353 : decode cL_law 353 = .ok (.iload 7, 2) := by decide +kernel
theorem dL_law_355 : decode cL_law 355 = .ok (.iaload, 1) := by decide +kernel
theorem dL_law_356 : decode cL_law 356 = .ok (.iastore, 1) := by decide +kernel
theorem dL_law_357 : decode cL_law 357 = .ok (.aload 4, 2) := by decide +kernel
theorem dL_law_359 : decode cL_law 359 = .ok (.ldc 252, 2) := by decide +kernel
theorem dL_law_361 : decode cL_law 361 = .ok (.invokevirtual 242, 3) := by decide +kernel
theorem dL_law_364 : decode cL_law 364 = .ok (.bipush 97, 2) := by decide +kernel
theorem dL_law_366 : decode cL_law 366 = .ok (.iload 7, 2) := by decide +kernel
theorem dL_law_368 : decode cL_law 368 = .ok (.iadd, 1) := by decide +kernel
theorem dL_law_369 : decode cL_law 369 = .ok (.i2c, 1) := by decide +kernel
theorem dL_law_370 : decode cL_law 370 = .ok (.invokevirtual 246, 3) := by decide +kernel
theorem dL_law_373 : decode cL_law 373 = .ok (.bipush 32, 2) := by decide +kernel
theorem dL_law_375 : decode cL_law 375 = .ok (.invokevirtual 246, 3) := by decide +kernel
theorem dL_law_378 : decode cL_law 378 = .ok (.bipush 97, 2) := by decide +kernel
theorem dL_law_380 : decode cL_law 380 = .ok (.iload 6, 2) := by decide +kernel
theorem dL_law_382 : decode cL_law 382 = .ok (.iadd, 1) := by decide +kernel
theorem dL_law_383 : decode cL_law 383 = .ok (.i2c, 1) := by decide +kernel
theorem dL_law_384 : decode cL_law 384 = .ok (.invokevirtual 246, 3) := by decide +kernel
theorem dL_law_387 : decode cL_law 387 = .ok (.bipush 32, 2) := by decide +kernel
theorem dL_law_389 : decode cL_law 389 = .ok (.invokevirtual 246, 3) := by decide +kernel
theorem dL_law_392 : decode cL_law 392 = .ok (.aload_n 2, 1) := by decide +kernel
theorem dL_law_393 : decode cL_law 393 = .ok (.getfield 30, 3) := by decide +kernel
theorem dL_law_396 : decode cL_law 396 = .ok (.iload 6, 2) := by decide +kernel
theorem dL_law_398 : decode cL_law 398 = .ok (.aaload, 1) := by decide +kernel
theorem dL_law_399 : decode cL_law 399 = .ok (.iload 7, 2) := by decide +kernel
theorem dL_law_401 : decode cL_law 401 = .ok (.iaload, 1) := by decide +kernel
theorem dL_law_402 : decode cL_law 402 = .ok (.invokevirtual 249, 3) := by decide +kernel
theorem dL_law_405 : decode cL_law 405 = .ok (.bipush 59, 2) := by decide +kernel
theorem dL_law_407 : decode cL_law 407 = .ok (.invokevirtual 246, 3) := by decide +kernel
theorem dL_law_410 : decode cL_law 410 = .ok (.pop, 1) := by decide +kernel
theorem dL_law_411 : decode cL_law 411 = .ok (.iinc 5 1, 3) := by decide +kernel
theorem dL_law_414 : decode cL_law 414 = .ok (.iinc 7 1, 3) := by decide +kernel
theorem dL_law_417 : decode cL_law 417 = .ok (.goto (-140), 3) := by decide +kernel
theorem dL_law_420 : decode cL_law 420 = .ok (.iinc 6 1, 3) := by decide +kernel
theorem dL_law_423 : decode cL_law 423 = .ok (.goto (-161), 3) := by decide +kernel
theorem dL_law_426 : decode cL_law 426 = .ok (.aload_n 2, 1) := by decide +kernel
theorem dL_law_427 : decode cL_law 427 = .ok (.invokevirtual 192, 3) := by decide +kernel
theorem dL_law_430 : decode cL_law 430 = .ok (.aload_n 1, 1) := by decide +kernel
theorem dL_law_431 : decode cL_law 431 = .ok (.aload 4, 2) := by decide +kernel
theorem dL_law_433 : decode cL_law 433 = .ok (.ldc 254, 2) := by decide +kernel
theorem dL_law_435 : decode cL_law 435 = .ok (.invokevirtual 242, 3) := by decide +kernel
theorem dL_law_438 : decode cL_law 438 = .ok (.aload_n 2, 1) := by decide +kernel
theorem dL_law_439 : decode cL_law 439 = .ok (.getfield 119, 3) := by decide +kernel
theorem dL_law_442 : decode cL_law 442 = .ok (.invokevirtual 249, 3) := by decide +kernel
theorem dL_law_445 : decode cL_law 445 = .ok (.ldc_w 256, 3) := by decide +kernel
theorem dL_law_448 : decode cL_law 448 = .ok (.invokevirtual 242, 3) := by decide +kernel
theorem dL_law_451 : decode cL_law 451 = .ok (.aload_n 2, 1) := by decide +kernel
theorem dL_law_452 : decode cL_law 452 = .ok (.getfield 160, 3) := by decide +kernel
theorem dL_law_455 : decode cL_law 455 = .ok (.invokevirtual 249, 3) := by decide +kernel
theorem dL_law_458 : decode cL_law 458 = .ok (.ldc_w 258, 3) := by decide +kernel
theorem dL_law_461 : decode cL_law 461 = .ok (.invokevirtual 242, 3) := by decide +kernel
theorem dL_law_464 : decode cL_law 464 = .ok (.aload_n 2, 1) := by decide +kernel
theorem dL_law_465 : decode cL_law 465 = .ok (.getfield 131, 3) := by decide +kernel
theorem dL_law_468 : decode cL_law 468 = .ok (.invokevirtual 249, 3) := by decide +kernel
theorem dL_law_471 : decode cL_law 471 = .ok (.bipush 59, 2) := by decide +kernel
theorem dL_law_473 : decode cL_law 473 = .ok (.invokevirtual 246, 3) := by decide +kernel
theorem dL_law_476 : decode cL_law 476 = .ok (.invokevirtual 260, 3) := by decide +kernel
theorem dL_law_479 : decode cL_law 479 = .ok (.invokestatic 264, 3) := by decide +kernel
theorem dL_law_482 : decode cL_law 482 = .ok (.aload_n 1, 1) := by decide +kernel
theorem dL_law_483 : decode cL_law 483 = .ok (.invokevirtual 268, 3) := by decide +kernel
theorem dL_law_486 : decode cL_law 486 = .ok (.iload 5, 2) := by decide +kernel
theorem dL_law_488 : decode cL_law 488 = .ok (.if_icmp .ne 11, 3) := by decide +kernel
theorem dL_law_491 : decode cL_law 491 = .ok (.aload_n 2, 1) := by decide +kernel
theorem dL_law_492 : decode cL_law 492 = .ok (.aload_n 1, 1) := by decide +kernel
theorem dL_law_493 : decode cL_law 493 = .ok (.invokevirtual 271, 3) := by decide +kernel
theorem dL_law_496 : decode cL_law 496 = .ok (.ifCond .ne 5, 3) := by decide +kernel
theorem dL_law_499 : decode cL_law 499 = .ok (.iconst 0, 1) := by decide +kernel
theorem dL_law_500 : decode cL_law 500 = .ok (.ireturn, 1) := by decide +kernel
theorem dL_law_501 : decode cL_law 501 = .ok (.iconst 0, 1) := by decide +kernel
theorem dL_law_502 : decode cL_law 502 = .ok (.istore 6, 2) := by decide +kernel
theorem dL_law_504 : decode cL_law 504 = .ok (.iload 6, 2) := by decide +kernel
theorem dL_law_506 : decode cL_law 506 = .ok (.bipush 36, 2) := by decide +kernel
theorem dL_law_508 : decode cL_law 508 = .ok (.if_icmp .ge 46, 3) := by decide +kernel
theorem dL_law_511 : decode cL_law 511 = .ok (.aload_n 2, 1) := by decide +kernel
theorem dL_law_512 : decode cL_law 512 = .ok (.aload_n 1, 1) := by decide +kernel
theorem dL_law_513 : decode cL_law 513 = .ok (.aload_n 0, 1) := by decide +kernel
theorem dL_law_514 : decode cL_law 514 = .ok (.bipush 12, 2) := by decide +kernel
theorem dL_law_516 : decode cL_law 516 = .ok (.iload 6, 2) := by decide +kernel
theorem dL_law_518 : decode cL_law 518 = .ok (.iadd, 1) := by decide +kernel
theorem dL_law_519 : decode cL_law 519 = .ok (.invokestatic 233, 3) := by decide +kernel
theorem dL_law_522 : decode cL_law 522 = .ok (.invokevirtual 275, 3) := by decide +kernel
theorem dL_law_525 : decode cL_law 525 = .ok (.ifCond .ne 5, 3) := by decide +kernel
theorem dL_law_528 : decode cL_law 528 = .ok (.iconst 0, 1) := by decide +kernel
theorem dL_law_529 : decode cL_law 529 = .ok (.ireturn, 1) := by decide +kernel
theorem dL_law_530 : decode cL_law 530 = .ok (.iload 6, 2) := by decide +kernel
theorem dL_law_532 : decode cL_law 532 = .ok (.iconst 4, 1) := by decide +kernel
theorem dL_law_533 : decode cL_law 533 = .ok (.irem, 1) := by decide +kernel
theorem dL_law_534 : decode cL_law 534 = .ok (.iconst 3, 1) := by decide +kernel
theorem dL_law_535 : decode cL_law 535 = .ok (.if_icmp .ne 13, 3) := by decide +kernel
theorem dL_law_538 : decode cL_law 538 = .ok (.aload_n 2, 1) := by decide +kernel
theorem dL_law_539 : decode cL_law 539 = .ok (.aload_n 1, 1) := by decide +kernel
theorem dL_law_540 : decode cL_law 540 = .ok (.invokevirtual 271, 3) := by decide +kernel
theorem dL_law_543 : decode cL_law 543 = .ok (.ifCond .ne 5, 3) := by decide +kernel
theorem dL_law_546 : decode cL_law 546 = .ok (.iconst 0, 1) := by decide +kernel
theorem dL_law_547 : decode cL_law 547 = .ok (.ireturn, 1) := by decide +kernel
theorem dL_law_548 : decode cL_law 548 = .ok (.iinc 6 1, 3) := by decide +kernel
theorem dL_law_551 : decode cL_law 551 = .ok (.goto (-47), 3) := by decide +kernel
theorem dL_law_554 : decode cL_law 554 = .ok (.iconst 1, 1) := by decide +kernel
theorem dL_law_555 : decode cL_law 555 = .ok (.ireturn, 1) := by decide +kernel
