/-! the law, step by step -/
theorem dL_law_0 : decode cL_law 0 = .ok (.iconst 1, 1) := by decide +kernel
theorem dL_law_1 : decode cL_law 1 = .ok (.istore_n 1, 1) := by decide +kernel
theorem dL_law_2 : decode cL_law 2 = .ok (.iconst 0, 1) := by decide +kernel
theorem dL_law_3 : decode cL_law 3 = .ok (.istore_n 2, 1) := by decide +kernel
theorem dL_law_4 : decode cL_law 4 = .ok (.iload_n 2, 1) := by decide +kernel
theorem dL_law_5 : decode cL_law 5 = .ok (.aload_n 0, 1) := by decide +kernel
theorem dL_law_6 : decode cL_law 6 = .ok (.arraylength, 1) := by decide +kernel
theorem dL_law_7 : decode cL_law 7 = .ok (.if_icmp .ge 1135, 3) := by decide +kernel
theorem dL_law_10 : decode cL_law 10 = .ok (.iload_n 2, 1) := by decide +kernel
theorem dL_law_11 : decode cL_law 11 = .ok (.iconst 2, 1) := by decide +kernel
theorem dL_law_12 : decode cL_law 12 = .ok (.if_icmp .ge 1130, 3) := by decide +kernel
theorem dL_law_15 : decode cL_law 15 = .ok (.iload_n 1, 1) := by decide +kernel
theorem dL_law_16 : decode cL_law 16 = .ok (.ifCond .eq 1126, 3) := by decide +kernel
theorem dL_law_19 : decode cL_law 19 = .ok (.new 14, 3) := by decide +kernel
theorem dL_law_22 : decode cL_law 22 = .ok (.dup, 1) := by decide +kernel
theorem dL_law_23 : decode cL_law 23 = .ok (.invokespecial 200, 3) := by decide +kernel
theorem dL_law_26 : decode cL_law 26 = .ok (.astore_n 3, 1) := by decide +kernel
theorem dL_law_27 : decode cL_law 27 = .ok (.bipush 8, 2) := by decide +kernel
theorem dL_law_29 : decode cL_law 29 = .ok (.newarray .int, 2) := by decide +kernel
theorem dL_law_31 : decode cL_law 31 = .ok (.astore 4, 2) := by decide +kernel
theorem dL_law_33 : decode cL_law 33 = .ok (.new 108, 3) := by decide +kernel
theorem dL_law_36 : decode cL_law 36 = .ok (.dup, 1) := by decide +kernel
theorem dL_law_37 : decode cL_law 37 = .ok (.aload_n 0, 1) := by decide +kernel
theorem dL_law_38 : decode cL_law 38 = .ok (.iload_n 2, 1) := by decide +kernel
theorem dL_law_39 : decode cL_law 39 = .ok (.iaload, 1) := by decide +kernel
theorem dL_law_40 : decode cL_law 40 = .ok (.invokespecial 201, 3) := by decide +kernel
theorem dL_law_43 : decode cL_law 43 = .ok (.astore 5, 2) := by decide +kernel
theorem dL_law_45 : decode cL_law 45 = .ok (.aload_n 3, 1) := by decide +kernel
theorem dL_law_46 : decode cL_law 46 = .ok (.new 102, 3) := by decide +kernel
theorem dL_law_49 : decode cL_law 49 = .ok (.dup, 1) := by decide +kernel
theorem dL_law_50 : decode cL_law 50 = .ok (.invokespecial 104, 3) := by decide +kernel
theorem dL_law_53 : decode cL_law 53 = .ok (.invokestatic 204, 3) := by decide +kernel
theorem dL_law_56 : decode cL_law 56 = .ok (.ifCond .eq 70, 3) := by decide +kernel
theorem dL_law_59 : decode cL_law 59 = .ok (.aload_n 3, 1) := by decide +kernel
theorem dL_law_60 : decode cL_law 60 = .ok (.invokevirtual 208, 3) := by decide +kernel
theorem dL_law_63 : decode cL_law 63 = .ok (.iconst (-1), 1) := by decide +kernel
theorem dL_law_64 : decode cL_law 64 = .ok (.if_icmp .ne 62, 3) := by decide +kernel
theorem dL_law_67 : decode cL_law 67 = .ok (.aload_n 3, 1) := by decide +kernel
theorem dL_law_68 : decode cL_law 68 = .ok (.invokevirtual 211, 3) := by decide +kernel
theorem dL_law_71 : decode cL_law 71 = .ok (.iconst (-1), 1) := by decide +kernel
theorem dL_law_72 : decode cL_law 72 = .ok (.if_icmp .ne 54, 3) := by decide +kernel
theorem dL_law_75 : decode cL_law 75 = .ok (.aload_n 3, 1) := by decide +kernel
theorem dL_law_76 : decode cL_law 76 = .ok (.iconst 0, 1) := by decide +kernel
theorem dL_law_77 : decode cL_law 77 = .ok (.invokestatic 213, 3) := by decide +kernel
theorem dL_law_80 : decode cL_law 80 = .ok (.ldc 42, 2) := by decide +kernel
theorem dL_law_82 : decode cL_law 82 = .ok (.if_icmp .ne 44, 3) := by decide +kernel
theorem dL_law_85 : decode cL_law 85 = .ok (.aload_n 3, 1) := by decide +kernel
theorem dL_law_86 : decode cL_law 86 = .ok (.bipush 9, 2) := by decide +kernel
theorem dL_law_88 : decode cL_law 88 = .ok (.invokestatic 213, 3) := by decide +kernel
theorem dL_law_91 : decode cL_law 91 = .ok (.ifCond .ne 35, 3) := by decide +kernel
theorem dL_law_94 : decode cL_law 94 = .ok (.aload_n 3, 1) := by decide +kernel
theorem dL_law_95 : decode cL_law 95 = .ok (.invokevirtual 211, 3) := by decide +kernel
theorem dL_law_98 : decode cL_law 98 = .ok (.ifCond .ne 28, 3) := by decide +kernel
theorem dL_law_101 : decode cL_law 101 = .ok (.aload_n 3, 1) := by decide +kernel
theorem dL_law_102 : decode cL_law 102 = .ok (.iconst 0, 1) := by decide +kernel
theorem dL_law_103 : decode cL_law 103 = .ok (.iconst 1, 1) := by decide +kernel
theorem dL_law_104 : decode cL_law 104 = .ok (.invokestatic 215, 3) := by decide +kernel
theorem dL_law_107 : decode cL_law 107 = .ok (.ldc 52, 2) := by decide +kernel
theorem dL_law_109 : decode cL_law 109 = .ok (.if_icmp .ne 17, 3) := by decide +kernel
theorem dL_law_112 : decode cL_law 112 = .ok (.aload_n 3, 1) := by decide +kernel
theorem dL_law_113 : decode cL_law 113 = .ok (.iconst 0, 1) := by decide +kernel
theorem dL_law_114 : decode cL_law 114 = .ok (.invokestatic 217, 3) := by decide +kernel
theorem dL_law_117 : decode cL_law 117 = .ok (.ldc 52, 2) := by decide +kernel
theorem dL_law_119 : decode cL_law 119 = .ok (.if_icmp .ne 7, 3) := by decide +kernel
theorem dL_law_122 : decode cL_law 122 = .ok (.iconst 1, 1) := by decide +kernel
theorem dL_law_123 : decode cL_law 123 = .ok (.goto 4, 3) := by decide +kernel
theorem dL_law_126 : decode cL_law 126 = .ok (.iconst 0, 1) := by decide +kernel
theorem dL_law_127 : decode cL_law 127 = .ok (.istore_n 1, 1) := by decide +kernel
theorem dL_law_128 : decode cL_law 128 = .ok (.aload_n 3, 1) := by decide +kernel
theorem dL_law_129 : decode cL_law 129 = .ok (.aload 4, 2) := by decide +kernel
theorem dL_law_131 : decode cL_law 131 = .ok (.aload 5, 2) := by decide +kernel
theorem dL_law_133 : decode cL_law 133 = .ok (.invokestatic 219, 3) := by decide +kernel
theorem dL_law_136 : decode cL_law 136 = .ok (.astore 6, 2) := by decide +kernel
theorem dL_law_138 : decode cL_law 138 = .ok (.aload 6, 2) := by decide +kernel
theorem dL_law_140 : decode cL_law 140 = .ok (.ifnonnull 5, 3) := by decide +kernel
theorem dL_law_143 : decode cL_law 143 = .ok (.iconst 0, 1) := by decide +kernel
theorem dL_law_144 : decode cL_law 144 = .ok (.ireturn, 1) := by decide +kernel
theorem dL_law_145 : decode cL_law 145 = .ok (.iload_n 1, 1) := by decide +kernel
theorem dL_law_146 : decode cL_law 146 = .ok (.ifCond .eq 16, 3) := by decide +kernel
theorem dL_law_149 : decode cL_law 149 = .ok (.aload_n 3, 1) := by decide +kernel
theorem dL_law_150 : decode cL_law 150 = .ok (.aload 6, 2) := by decide +kernel
theorem dL_law_152 : decode cL_law 152 = .ok (.invokestatic 204, 3) := by decide +kernel
theorem dL_law_155 : decode cL_law 155 = .ok (.ifCond .eq 7, 3) := by decide +kernel
theorem dL_law_158 : decode cL_law 158 = .ok (.iconst 1, 1) := by decide +kernel
theorem dL_law_159 : decode cL_law 159 = .ok (.goto 4, 3) := by decide +kernel
theorem dL_law_162 : decode cL_law 162 = .ok (.iconst 0, 1) := by decide +kernel
theorem dL_law_163 : decode cL_law 163 = .ok (.istore_n 1, 1) := by decide +kernel
theorem dL_law_164 : decode cL_law 164 = .ok (.bipush 9, 2) := by decide +kernel
theorem dL_law_166 : decode cL_law 166 = .ok (.anewarray 102, 3) := by decide +kernel
theorem dL_law_169 : decode cL_law 169 = .ok (.astore 7, 2) := by decide +kernel
theorem dL_law_171 : decode cL_law 171 = .ok (.iconst 0, 1) := by decide +kernel
theorem dL_law_172 : decode cL_law 172 = .ok (.istore 8, 2) := by decide +kernel
theorem dL_law_174 : decode cL_law 174 = .ok (.iconst 0, 1) := by decide +kernel
theorem dL_law_175 : decode cL_law 175 = .ok (.istore 9, 2) := by decide +kernel
theorem dL_law_177 : decode cL_law 177 = .ok (.iload 9, 2) := by decide +kernel
theorem dL_law_179 : decode cL_law 179 = .ok (.bipush 35, 2) := by decide +kernel
theorem dL_law_181 : decode cL_law 181 = .ok (.if_icmp .ge 839, 3) := by decide +kernel
theorem dL_law_184 : decode cL_law 184 = .ok (.iload_n 1, 1) := by decide +kernel
theorem dL_law_185 : decode cL_law 185 = .ok (.ifCond .eq 835, 3) := by decide +kernel
theorem dL_law_188 : decode cL_law 188 = .ok (.aload 6, 2) := by decide +kernel
theorem dL_law_190 : decode cL_law 190 = .ok (.invokevirtual 223, 3) := by decide +kernel
theorem dL_law_193 : decode cL_law 193 = .ok (.astore 10, 2) := by decide +kernel
theorem dL_law_195 : decode cL_law 195 = .ok (.iconst 1, 1) := by decide +kernel
theorem dL_law_196 : decode cL_law 196 = .ok (.istore 11, 2) := by decide +kernel
theorem dL_law_198 : decode cL_law 198 = .ok (.ldc 52, 2) := by decide +kernel
theorem dL_law_200 : decode cL_law 200 = .ok (.istore 12, 2) := by decide +kernel
theorem dL_law_202 : decode cL_law 202 = .ok (.aload 6, 2) := by decide +kernel
theorem dL_law_204 : decode cL_law 204 = .ok (.getfield 132, 3) := by decide +kernel
theorem dL_law_207 : decode cL_law 207 = .ok (.arraylength, 1) := by decide +kernel
theorem dL_law_208 : decode cL_law 208 = .ok (.istore 13, 2) := by decide +kernel
theorem dL_law_210 : decode cL_law 210 = .ok (.aload 5, 2) := by decide +kernel
theorem dL_law_212 : decode cL_law 212 = .ok (.iload 13, 2) := by decide +kernel
theorem dL_law_214 : decode cL_law 214 = .ok (.aload 5, 2) := by decide +kernel
theorem dL_law_216 : decode cL_law 216 = .ok (.bipush 12, 2) := by decide +kernel
theorem dL_law_218 : decode cL_law 218 = .ok (.invokevirtual 107, 3) := by decide +kernel
theorem dL_law_221 : decode cL_law 221 = .ok (.ifCond .eq 8, 3) := by decide +kernel
theorem dL_law_224 : decode cL_law 224 = .ok (.iload 13, 2) := by decide +kernel
theorem dL_law_226 : decode cL_law 226 = .ok (.ifCond .ne 7, 3) := by decide +kernel
theorem dL_law_229 : decode cL_law 229 = .ok (.iconst 1, 1) := by decide +kernel
theorem dL_law_230 : decode cL_law 230 = .ok (.goto 4, 3) := by decide +kernel
theorem dL_law_233 : decode cL_law 233 = .ok (.iconst 0, 1) := by decide +kernel
theorem dL_law_234 : decode cL_law 234 = .ok (.iadd, 1) := by decide +kernel
theorem dL_law_235 : decode cL_law 235 = .ok (.invokevirtual 107, 3) := by decide +kernel
theorem dL_law_238 : decode cL_law 238 = .ok (.istore 14, 2) := by decide +kernel
theorem dL_law_240 : decode cL_law 240 = .ok (.iload 14, 2) := by decide +kernel
theorem dL_law_242 : decode cL_law 242 = .ok (.iload 13, 2) := by decide +kernel
theorem dL_law_244 : decode cL_law 244 = .ok (.if_icmp .ge 14, 3) := by decide +kernel
theorem dL_law_247 : decode cL_law 247 = .ok (.aload 6, 2) := by decide +kernel
theorem dL_law_249 : decode cL_law 249 = .ok (.getfield 132, 3) := by decide +kernel
theorem dL_law_252 : decode cL_law 252 = .ok (.iload 14, 2) := by decide +kernel
theorem dL_law_254 : decode cL_law 254 = .ok (.aaload, 1) := by decide +kernel
theorem dL_law_255 : decode cL_law 255 = .ok (.goto 4, 3) := by decide +kernel
theorem dL_law_258 : decode cL_law 258 = .ok (.aconst_null, 1) := by decide +kernel
theorem dL_law_259 : decode cL_law 259 = .ok (.astore 15, 2) := by decide +kernel
theorem dL_law_261 : decode cL_law 261 = .ok (.iconst 0, 1) := by decide +kernel
theorem dL_law_262 : decode cL_law 262 = .ok (.istore 16, 2) := by decide +kernel
theorem dL_law_264 : decode cL_law 264 = .ok (.iload 16, 2) := by decide +kernel
theorem dL_law_266 : decode cL_law 266 = .ok (.iload 13, 2) := by decide +kernel
theorem dL_law_268 : decode cL_law 268 = .ok (.if_icmp .ge 64, 3) := by decide +kernel
theorem dL_law_271 : decode cL_law 271 = .ok (.aload 15, 2) := by decide +kernel
theorem dL_law_273 : decode cL_law 273 = .ok (.ifnull 59, 3) := by decide +kernel
theorem dL_law_276 : decode cL_law 276 = .ok (.aload 15, 2) := by decide +kernel
theorem dL_law_278 : decode cL_law 278 = .ok (.getfield 227, 3) := by decide +kernel
theorem dL_law_281 : decode cL_law 281 = .ok (.iconst 5, 1) := by decide +kernel
theorem dL_law_282 : decode cL_law 282 = .ok (.if_icmp .eq 50, 3) := by decide +kernel
theorem dL_law_285 : decode cL_law 285 = .ok (.aload 6, 2) := by decide +kernel
theorem dL_law_287 : decode cL_law 287 = .ok (.getfield 132, 3) := by decide +kernel
theorem dL_law_290 : decode cL_law 290 = .ok (.iload 16, 2) := by decide +kernel
theorem dL_law_292 : decode cL_law 292 = .ok (.aaload, 1) := by decide +kernel
theorem dL_law_293 : decode cL_law 293 = .ok (.getfield 227, 3) := by decide +kernel
theorem dL_law_296 : decode cL_law 296 = .ok (.iconst 5, 1) := by decide +kernel
theorem dL_law_297 : decode cL_law 297 = .ok (.if_icmp .ne 29, 3) := by decide +kernel
theorem dL_law_300 : decode cL_law 300 = .ok (.aload 5, 2) := by decide +kernel
theorem dL_law_302 : decode cL_law 302 = .ok (.iconst 2, 1) := by decide +kernel
theorem dL_law_303 : decode cL_law 303 = .ok (.invokevirtual 107, 3) := by decide +kernel
theorem dL_law_306 : decode cL_law 306 = .ok (.ifCond .ne 6, 3) := by decide +kernel
theorem dL_law_309 : decode cL_law 309 = .ok (.goto 17, 3) := by decide +kernel
theorem dL_law_312 : decode cL_law 312 = .ok (.iload 16, 2) := by decide +kernel
theorem dL_law_314 : decode cL_law 314 = .ok (.istore 14, 2) := by decide +kernel
theorem dL_law_316 : decode cL_law 316 = .ok (.aload 6, 2) := by decide +kernel
theorem dL_law_318 : decode cL_law 318 = .ok (.getfield 132, 3) := by decide +kernel
theorem dL_law_321 : decode cL_law 321 = .ok (.iload 16, 2) := by decide +kernel
theorem dL_law_323 : decode cL_law 323 = .ok (.aaload, 1) := by decide +kernel
theorem dL_law_324 : decode cL_law 324 = .ok (.astore 15, 2) := by decide +kernel
theorem dL_law_326 : decode cL_law 326 = .ok (.iinc 16 1, 3) := by decide +kernel
theorem dL_law_329 : decode cL_law 329 = .ok (.goto (-65), 3) := by decide +kernel
theorem dL_law_332 : decode cL_law 332 = .ok (.aload 15, 2) := by decide +kernel
theorem dL_law_334 : decode cL_law 334 = .ok (.ifnull 16, 3) := by decide +kernel
theorem dL_law_337 : decode cL_law 337 = .ok (.aload 15, 2) := by decide +kernel
theorem dL_law_339 : decode cL_law 339 = .ok (.getfield 227, 3) := by decide +kernel
theorem dL_law_342 : decode cL_law 342 = .ok (.iconst 5, 1) := by decide +kernel
theorem dL_law_343 : decode cL_law 343 = .ok (.if_icmp .ne 7, 3) := by decide +kernel
theorem dL_law_346 : decode cL_law 346 = .ok (.iconst 1, 1) := by decide +kernel
theorem dL_law_347 : decode cL_law 347 = .ok (.goto 4, 3) := by decide +kernel
theorem dL_law_350 : decode cL_law 350 = .ok (.iconst 0, 1) := by decide +kernel
theorem dL_law_351 : decode cL_law 351 = .ok (.istore 16, 2) := by decide +kernel
theorem dL_law_353 : decode cL_law 353 = .ok (.aload 15, 2) := by decide +kernel
theorem dL_law_355 : decode cL_law 355 = .ok (.ifnull 7, 3) := by decide +kernel
theorem dL_law_358 : decode cL_law 358 = .ok (.ldc 83, 2) := by decide +kernel
theorem dL_law_360 : decode cL_law 360 = .ok (.istore 12, 2) := by decide +kernel
theorem dL_law_362 : decode cL_law 362 = .ok (.aload 5, 2) := by decide +kernel
theorem dL_law_364 : decode cL_law 364 = .ok (.bipush 9, 2) := by decide +kernel
theorem dL_law_366 : decode cL_law 366 = .ok (.invokevirtual 107, 3) := by decide +kernel
theorem dL_law_369 : decode cL_law 369 = .ok (.tableswitch 474 0 3 #[31, 188, 242, 295], 31) := by decide +kernel
theorem dL_law_400 : decode cL_law 400 = .ok (.aload 5, 2) := by decide +kernel
theorem dL_law_402 : decode cL_law 402 = .ok (.aload 6, 2) := by decide +kernel
theorem dL_law_404 : decode cL_law 404 = .ok (.getfield 112, 3) := by decide +kernel
theorem dL_law_407 : decode cL_law 407 = .ok (.arraylength, 1) := by decide +kernel
theorem dL_law_408 : decode cL_law 408 = .ok (.iconst 1, 1) := by decide +kernel
theorem dL_law_409 : decode cL_law 409 = .ok (.iadd, 1) := by decide +kernel
theorem dL_law_410 : decode cL_law 410 = .ok (.invokevirtual 107, 3) := by decide +kernel
theorem dL_law_413 : decode cL_law 413 = .ok (.istore 17, 2) := by decide +kernel
theorem dL_law_415 : decode cL_law 415 = .ok (.aload 5, 2) := by decide +kernel
theorem dL_law_417 : decode cL_law 417 = .ok (.aload 5, 2) := by decide +kernel
theorem dL_law_419 : decode cL_law 419 = .ok (.bipush 6, 2) := by decide +kernel
theorem dL_law_421 : decode cL_law 421 = .ok (.invokevirtual 107, 3) := by decide +kernel
theorem dL_law_424 : decode cL_law 424 = .ok (.ifCond .ne 9, 3) := by decide +kernel
theorem dL_law_427 : decode cL_law 427 = .ok (.sipush 1100, 3) := by decide +kernel
theorem dL_law_430 : decode cL_law 430 = .ok (.goto 5, 3) := by decide +kernel
theorem dL_law_433 : decode cL_law 433 = .ok (.bipush 10, 2) := by decide +kernel
theorem dL_law_435 : decode cL_law 435 = .ok (.invokevirtual 107, 3) := by decide +kernel
theorem dL_law_438 : decode cL_law 438 = .ok (.istore 18, 2) := by decide +kernel
theorem dL_law_440 : decode cL_law 440 = .ok (.iload 18, 2) := by decide +kernel
theorem dL_law_442 : decode cL_law 442 = .ok (.ifCond .le 15, 3) := by decide +kernel
theorem dL_law_445 : decode cL_law 445 = .ok (.iload 18, 2) := by decide +kernel
theorem dL_law_447 : decode cL_law 447 = .ok (.sipush 1000, 3) := by decide +kernel
theorem dL_law_450 : decode cL_law 450 = .ok (.if_icmp .ge 7, 3) := by decide +kernel
theorem dL_law_453 : decode cL_law 453 = .ok (.iconst 1, 1) := by decide +kernel
theorem dL_law_454 : decode cL_law 454 = .ok (.goto 4, 3) := by decide +kernel
theorem dL_law_457 : decode cL_law 457 = .ok (.iconst 0, 1) := by decide +kernel
theorem dL_law_458 : decode cL_law 458 = .ok (.istore 19, 2) := by decide +kernel
theorem dL_law_460 : decode cL_law 460 = .ok (.iload 17, 2) := by decide +kernel
theorem dL_law_462 : decode cL_law 462 = .ok (.aload 6, 2) := by decide +kernel
theorem dL_law_464 : decode cL_law 464 = .ok (.getfield 112, 3) := by decide +kernel
theorem dL_law_467 : decode cL_law 467 = .ok (.arraylength, 1) := by decide +kernel
theorem dL_law_468 : decode cL_law 468 = .ok (.if_icmp .ge 12, 3) := by decide +kernel
theorem dL_law_471 : decode cL_law 471 = .ok (.iload 19, 2) := by decide +kernel
theorem dL_law_473 : decode cL_law 473 = .ok (.ifCond .eq 7, 3) := by decide +kernel
theorem dL_law_476 : decode cL_law 476 = .ok (.iconst 1, 1) := by decide +kernel
theorem dL_law_477 : decode cL_law 477 = .ok (.goto 4, 3) := by decide +kernel
theorem dL_law_480 : decode cL_law 480 = .ok (.iconst 0, 1) := by decide +kernel
theorem dL_law_481 : decode cL_law 481 = .ok (.istore 11, 2) := by decide +kernel
theorem dL_law_483 : decode cL_law 483 = .ok (.iload 17, 2) := by decide +kernel
theorem dL_law_485 : decode cL_law 485 = .ok (.aload 6, 2) := by decide +kernel
theorem dL_law_487 : decode cL_law 487 = .ok (.getfield 112, 3) := by decide +kernel
theorem dL_law_490 : decode cL_law 490 = .ok (.arraylength, 1) := by decide +kernel
theorem dL_law_491 : decode cL_law 491 = .ok (.if_icmp .ge 8, 3) := by decide +kernel
theorem dL_law_494 : decode cL_law 494 = .ok (.ldc 42, 2) := by decide +kernel
theorem dL_law_496 : decode cL_law 496 = .ok (.goto 5, 3) := by decide +kernel
theorem dL_law_499 : decode cL_law 499 = .ok (.ldc 52, 2) := by decide +kernel
theorem dL_law_501 : decode cL_law 501 = .ok (.istore 12, 2) := by decide +kernel
theorem dL_law_503 : decode cL_law 503 = .ok (.iload 11, 2) := by decide +kernel
theorem dL_law_505 : decode cL_law 505 = .ok (.ifCond .eq 30, 3) := by decide +kernel
theorem dL_law_508 : decode cL_law 508 = .ok (.aload 6, 2) := by decide +kernel
theorem dL_law_510 : decode cL_law 510 = .ok (.getfield 112, 3) := by decide +kernel
theorem dL_law_513 : decode cL_law 513 = .ok (.iload 17, 2) := by decide +kernel
theorem dL_law_515 : decode cL_law 515 = .ok (.aaload, 1) := by decide +kernel
theorem dL_law_516 : decode cL_law 516 = .ok (.iconst 0, 1) := by decide +kernel
theorem dL_law_517 : decode cL_law 517 = .ok (.dup2, 1) := by decide +kernel
theorem dL_law_518 : decode cL_law 518 = .ok (.iaload, 1) := by decide +kernel
theorem dL_law_519 : decode cL_law 519 = .ok (.iload 18, 2) := by decide +kernel
theorem dL_law_521 : decode cL_law 521 = .ok (.iadd, 1) := by decide +kernel
theorem dL_law_522 : decode cL_law 522 = .ok (.iastore, 1) := by decide +kernel
theorem dL_law_523 : decode cL_law 523 = .ok (.aload 6, 2) := by decide +kernel
theorem dL_law_525 : decode cL_law 525 = .ok (.getfield 112, 3) := by decide +kernel
theorem dL_law_528 : decode cL_law 528 = .ok (.iload 17, 2) := by decide +kernel
theorem dL_law_530 : decode cL_law 530 = .ok (.aaload, 1) := by decide +kernel
theorem dL_law_531 : decode cL_law 531 = .ok (.iconst 0, 1) := by decide +kernel
theorem dL_law_532 : decode cL_law 532 = .ok (.iaload, 1) := by decide +kernel
theorem dL_law_533 : decode cL_law 533 = .ok (.istore 12, 2) := by decide +kernel
theorem dL_law_535 : decode cL_law 535 = .ok (.aload_n 3, 1) := by decide +kernel
theorem dL_law_536 : decode cL_law 536 = .ok (.iload 17, 2) := by decide +kernel
theorem dL_law_538 : decode cL_law 538 = .ok (.iload 18, 2) := by decide +kernel
theorem dL_law_540 : decode cL_law 540 = .ok (.invokestatic 215, 3) := by decide +kernel
theorem dL_law_543 : decode cL_law 543 = .ok (.iload 12, 2) := by decide +kernel
theorem dL_law_545 : decode cL_law 545 = .ok (.if_icmp .ne 7, 3) := by decide +kernel
theorem dL_law_548 : decode cL_law 548 = .ok (.iconst 1, 1) := by decide +kernel
theorem dL_law_549 : decode cL_law 549 = .ok (.goto 4, 3) := by decide +kernel
theorem dL_law_552 : decode cL_law 552 = .ok (.iconst 0, 1) := by decide +kernel
theorem dL_law_553 : decode cL_law 553 = .ok (.istore_n 1, 1) := by decide +kernel
theorem dL_law_554 : decode cL_law 554 = .ok (.goto 400, 3) := by decide +kernel
theorem dL_law_557 : decode cL_law 557 = .ok (.iload 16, 2) := by decide +kernel
theorem dL_law_559 : decode cL_law 559 = .ok (.istore 11, 2) := by decide +kernel
theorem dL_law_561 : decode cL_law 561 = .ok (.iload 16, 2) := by decide +kernel
theorem dL_law_563 : decode cL_law 563 = .ok (.ifCond .eq 28, 3) := by decide +kernel
theorem dL_law_566 : decode cL_law 566 = .ok (.aload 15, 2) := by decide +kernel
theorem dL_law_568 : decode cL_law 568 = .ok (.invokevirtual 229, 3) := by decide +kernel
theorem dL_law_571 : decode cL_law 571 = .ok (.istore 12, 2) := by decide +kernel
theorem dL_law_573 : decode cL_law 573 = .ok (.aload 6, 2) := by decide +kernel
theorem dL_law_575 : decode cL_law 575 = .ok (.aload 15, 2) := by decide +kernel
theorem dL_law_577 : decode cL_law 577 = .ok (.getfield 148, 3) := by decide +kernel
theorem dL_law_580 : decode cL_law 580 = .ok (.iload 12, 2) := by decide +kernel
theorem dL_law_582 : decode cL_law 582 = .ok (.aaload, 1) := by decide +kernel
theorem dL_law_583 : decode cL_law 583 = .ok (.invokevirtual 232, 3) := by decide +kernel
theorem dL_law_586 : decode cL_law 586 = .ok (.aload 15, 2) := by decide +kernel
theorem dL_law_588 : decode cL_law 588 = .ok (.invokevirtual 236, 3) := by decide +kernel
theorem dL_law_591 : decode cL_law 591 = .ok (.aload_n 3, 1) := by decide +kernel
theorem dL_law_592 : decode cL_law 592 = .ok (.iload 14, 2) := by decide +kernel
theorem dL_law_594 : decode cL_law 594 = .ok (.invokestatic 217, 3) := by decide +kernel
theorem dL_law_597 : decode cL_law 597 = .ok (.iload 12, 2) := by decide +kernel
theorem dL_law_599 : decode cL_law 599 = .ok (.if_icmp .ne 7, 3) := by decide +kernel
theorem dL_law_602 : decode cL_law 602 = .ok (.iconst 1, 1) := by decide +kernel
theorem dL_law_603 : decode cL_law 603 = .ok (.goto 4, 3) := by decide +kernel
theorem dL_law_606 : decode cL_law 606 = .ok (.iconst 0, 1) := by decide +kernel
theorem dL_law_607 : decode cL_law 607 = .ok (.istore_n 1, 1) := by decide +kernel
theorem dL_law_608 : decode cL_law 608 = .ok (.goto 346, 3) := by decide +kernel
theorem dL_law_611 : decode cL_law 611 = .ok (.iload 16, 2) := by decide +kernel
theorem dL_law_613 : decode cL_law 613 = .ok (.istore 11, 2) := by decide +kernel
theorem dL_law_615 : decode cL_law 615 = .ok (.iload 16, 2) := by decide +kernel
theorem dL_law_617 : decode cL_law 617 = .ok (.ifCond .eq 27, 3) := by decide +kernel
theorem dL_law_620 : decode cL_law 620 = .ok (.aload 15, 2) := by decide +kernel
theorem dL_law_622 : decode cL_law 622 = .ok (.invokevirtual 229, 3) := by decide +kernel
theorem dL_law_625 : decode cL_law 625 = .ok (.istore 12, 2) := by decide +kernel
theorem dL_law_627 : decode cL_law 627 = .ok (.aload 15, 2) := by decide +kernel
theorem dL_law_629 : decode cL_law 629 = .ok (.getfield 148, 3) := by decide +kernel
theorem dL_law_632 : decode cL_law 632 = .ok (.iload 12, 2) := by decide +kernel
theorem dL_law_634 : decode cL_law 634 = .ok (.aaload, 1) := by decide +kernel
theorem dL_law_635 : decode cL_law 635 = .ok (.iconst 4, 1) := by decide +kernel
theorem dL_law_636 : decode cL_law 636 = .ok (.bipush 6, 2) := by decide +kernel
theorem dL_law_638 : decode cL_law 638 = .ok (.iastore, 1) := by decide +kernel
theorem dL_law_639 : decode cL_law 639 = .ok (.aload 15, 2) := by decide +kernel
theorem dL_law_641 : decode cL_law 641 = .ok (.invokevirtual 236, 3) := by decide +kernel
theorem dL_law_644 : decode cL_law 644 = .ok (.aload_n 3, 1) := by decide +kernel
theorem dL_law_645 : decode cL_law 645 = .ok (.iload 14, 2) := by decide +kernel
theorem dL_law_647 : decode cL_law 647 = .ok (.invokestatic 239, 3) := by decide +kernel
theorem dL_law_650 : decode cL_law 650 = .ok (.iload 12, 2) := by decide +kernel
theorem dL_law_652 : decode cL_law 652 = .ok (.if_icmp .ne 7, 3) := by decide +kernel
theorem dL_law_655 : decode cL_law 655 = .ok (.iconst 1, 1) := by decide +kernel
theorem dL_law_656 : decode cL_law 656 = .ok (.goto 4, 3) := by decide +kernel
theorem dL_law_659 : decode cL_law 659 = .ok (.iconst 0, 1) := by decide +kernel
theorem dL_law_660 : decode cL_law 660 = .ok (.istore_n 1, 1) := by decide +kernel
theorem dL_law_661 : decode cL_law 661 = .ok (.goto 293, 3) := by decide +kernel
theorem dL_law_664 : decode cL_law 664 = .ok (.iload 16, 2) := by decide +kernel
theorem dL_law_666 : decode cL_law 666 = .ok (.istore 11, 2) := by decide +kernel
theorem dL_law_668 : decode cL_law 668 = .ok (.iload 16, 2) := by decide +kernel
theorem dL_law_670 : decode cL_law 670 = .ok (.ifCond .eq 153, 3) := by decide +kernel
theorem dL_law_673 : decode cL_law 673 = .ok (.iconst 0, 1) := by decide +kernel
theorem dL_law_674 : decode cL_law 674 = .ok (.istore 20, 2) := by decide +kernel
theorem dL_law_676 : decode cL_law 676 = .ok (.iload 20, 2) := by decide +kernel
theorem dL_law_678 : decode cL_law 678 = .ok (.aload 15, 2) := by decide +kernel
theorem dL_law_680 : decode cL_law 680 = .ok (.getfield 141, 3) := by decide +kernel
theorem dL_law_683 : decode cL_law 683 = .ok (.if_icmp .ge 19, 3) := by decide +kernel
theorem dL_law_686 : decode cL_law 686 = .ok (.aload 15, 2) := by decide +kernel
theorem dL_law_688 : decode cL_law 688 = .ok (.iload 20, 2) := by decide +kernel
theorem dL_law_690 : decode cL_law 690 = .ok (.invokevirtual 241, 3) := by decide +kernel
theorem dL_law_693 : decode cL_law 693 = .ok (.ifCond .eq 9, 3) := by decide +kernel
theorem dL_law_696 : decode cL_law 696 = .ok (.iinc 20 1, 3) := by decide +kernel
theorem dL_law_699 : decode cL_law 699 = .ok (.goto (-23), 3) := by decide +kernel
theorem dL_law_702 : decode cL_law 702 = .ok (.iload 20, 2) := by decide +kernel
theorem dL_law_704 : decode cL_law 704 = .ok (.aload 15, 2) := by decide +kernel
theorem dL_law_706 : decode cL_law 706 = .ok (.getfield 141, 3) := by decide +kernel
theorem dL_law_709 : decode cL_law 709 = .ok (.if_icmp .ne 7, 3) := by decide +kernel
theorem dL_law_712 : decode cL_law 712 = .ok (.iconst (-1), 1) := by decide +kernel
theorem dL_law_713 : decode cL_law 713 = .ok (.goto 5, 3) := by decide +kernel
theorem dL_law_716 : decode cL_law 716 = .ok (.iload 20, 2) := by decide +kernel
theorem dL_law_718 : decode cL_law 718 = .ok (.istore 12, 2) := by decide +kernel
theorem dL_law_720 : decode cL_law 720 = .ok (.iload 12, 2) := by decide +kernel
theorem dL_law_722 : decode cL_law 722 = .ok (.ifCond .lt 101, 3) := by decide +kernel
theorem dL_law_725 : decode cL_law 725 = .ok (.aload 15, 2) := by decide +kernel
theorem dL_law_727 : decode cL_law 727 = .ok (.getfield 148, 3) := by decide +kernel
theorem dL_law_730 : decode cL_law 730 = .ok (.astore 21, 2) := by decide +kernel
theorem dL_law_732 : decode cL_law 732 = .ok (.aload 21, 2) := by decide +kernel
theorem dL_law_734 : decode cL_law 734 = .ok (.arraylength, 1) := by decide +kernel
theorem dL_law_735 : decode cL_law 735 = .ok (.istore 22, 2) := by decide +kernel
theorem dL_law_737 : decode cL_law 737 = .ok (.iconst 0, 1) := by decide +kernel
theorem dL_law_738 : decode cL_law 738 = .ok (.istore 23, 2) := by decide +kernel
theorem dL_law_740 : decode cL_law 740 = .ok (.iload 23, 2) := by decide +kernel
theorem dL_law_742 : decode cL_law 742 = .ok (.iload 22, 2) := by decide +kernel
theorem dL_law_744 : decode cL_law 744 = .ok (.if_icmp .ge 60, 3) := by decide +kernel
theorem dL_law_747 : decode cL_law 747 = .ok (.aload 21, 2) := by decide +kernel
theorem dL_law_749 : decode cL_law 749 = .ok (.iload 23, 2) := by decide +kernel
theorem dL_law_751 : decode cL_law 751 = .ok (.aaload, 1) := by decide +kernel
theorem dL_law_752 : decode cL_law 752 = .ok (.astore 24, 2) := by decide +kernel
theorem dL_law_754 : decode cL_law 754 = .ok (.aload 24, 2) := by decide +kernel
theorem dL_law_756 : decode cL_law 756 = .ok (.iconst 0, 1) := by decide +kernel
theorem dL_law_757 : decode cL_law 757 = .ok (.iaload, 1) := by decide +kernel
theorem dL_law_758 : decode cL_law 758 = .ok (.iload 20, 2) := by decide +kernel
theorem dL_law_760 : decode cL_law 760 = .ok (.if_icmp .lt 38, 3) := by decide +kernel
theorem dL_law_763 : decode cL_law 763 = .ok (.aload 24, 2) := by decide +kernel
theorem dL_law_765 : decode cL_law 765 = .ok (.iconst 4, 1) := by decide +kernel
theorem dL_law_766 : decode cL_law 766 = .ok (.iaload, 1) := by decide +kernel
theorem dL_law_767 : decode cL_law 767 = .ok (.iconst 3, 1) := by decide +kernel
theorem dL_law_768 : decode cL_law 768 = .ok (.if_icmp .eq 30, 3) := by decide +kernel
theorem dL_law_771 : decode cL_law 771 = .ok (.aload 24, 2) := by decide +kernel
theorem dL_law_773 : decode cL_law 773 = .ok (.iconst 4, 1) := by decide +kernel
theorem dL_law_774 : decode cL_law 774 = .ok (.iaload, 1) := by decide +kernel
theorem dL_law_775 : decode cL_law 775 = .ok (.bipush 6, 2) := by decide +kernel
theorem dL_law_777 : decode cL_law 777 = .ok (.if_icmp .ne 6, 3) := by decide +kernel
theorem dL_law_780 : decode cL_law 780 = .ok (.goto 18, 3) := by decide +kernel
theorem dL_law_783 : decode cL_law 783 = .ok (.aload 24, 2) := by decide +kernel
theorem dL_law_785 : decode cL_law 785 = .ok (.iconst 4, 1) := by decide +kernel
theorem dL_law_786 : decode cL_law 786 = .ok (.iconst 0, 1) := by decide +kernel
theorem dL_law_787 : decode cL_law 787 = .ok (.iastore, 1) := by decide +kernel
theorem dL_law_788 : decode cL_law 788 = .ok (.aload 24, 2) := by decide +kernel
theorem dL_law_790 : decode cL_law 790 = .ok (.bipush 6, 2) := by decide +kernel
theorem dL_law_792 : decode cL_law 792 = .ok (.aload 24, 2) := by decide +kernel
theorem dL_law_794 : decode cL_law 794 = .ok (.bipush 7, 2) := by decide +kernel
theorem dL_law_796 : decode cL_law 796 = .ok (.iaload, 1) := by decide +kernel
theorem dL_law_797 : decode cL_law 797 = .ok (.iastore, 1) := by decide +kernel
theorem dL_law_798 : decode cL_law 798 = .ok (.iinc 23 1, 3) := by decide +kernel
theorem dL_law_801 : decode cL_law 801 = .ok (.goto (-61), 3) := by decide +kernel
theorem dL_law_804 : decode cL_law 804 = .ok (.aload 15, 2) := by decide +kernel
theorem dL_law_806 : decode cL_law 806 = .ok (.iconst 1, 1) := by decide +kernel
theorem dL_law_807 : decode cL_law 807 = .ok (.putfield 227, 3) := by decide +kernel
theorem dL_law_810 : decode cL_law 810 = .ok (.aload 15, 2) := by decide +kernel
theorem dL_law_812 : decode cL_law 812 = .ok (.iconst (-1), 1) := by decide +kernel
theorem dL_law_813 : decode cL_law 813 = .ok (.putfield 245, 3) := by decide +kernel
theorem dL_law_816 : decode cL_law 816 = .ok (.aload 15, 2) := by decide +kernel
theorem dL_law_818 : decode cL_law 818 = .ok (.iload 20, 2) := by decide +kernel
theorem dL_law_820 : decode cL_law 820 = .ok (.invokevirtual 248, 3) := by decide +kernel
theorem dL_law_823 : decode cL_law 823 = .ok (.aload_n 3, 1) := by decide +kernel
theorem dL_law_824 : decode cL_law 824 = .ok (.iload 14, 2) := by decide +kernel
theorem dL_law_826 : decode cL_law 826 = .ok (.invokestatic 251, 3) := by decide +kernel
theorem dL_law_829 : decode cL_law 829 = .ok (.iload 12, 2) := by decide +kernel
theorem dL_law_831 : decode cL_law 831 = .ok (.if_icmp .ne 7, 3) := by decide +kernel
theorem dL_law_834 : decode cL_law 834 = .ok (.iconst 1, 1) := by decide +kernel
theorem dL_law_835 : decode cL_law 835 = .ok (.goto 4, 3) := by decide +kernel
theorem dL_law_838 : decode cL_law 838 = .ok (.iconst 0, 1) := by decide +kernel
theorem dL_law_839 : decode cL_law 839 = .ok (.istore_n 1, 1) := by decide +kernel
theorem dL_law_840 : decode cL_law 840 = .ok (.goto 114, 3) := by decide +kernel
theorem dL_law_843 : decode cL_law 843 = .ok (.aload 5, 2) := by decide +kernel
theorem dL_law_845 : decode cL_law 845 = .ok (.aload 5, 2) := by decide +kernel
theorem dL_law_847 : decode cL_law 847 = .ok (.iconst 5, 1) := by decide +kernel
theorem dL_law_848 : decode cL_law 848 = .ok (.invokevirtual 107, 3) := by decide +kernel
theorem dL_law_851 : decode cL_law 851 = .ok (.ifCond .ne 8, 3) := by decide +kernel
theorem dL_law_854 : decode cL_law 854 = .ok (.bipush 25, 2) := by decide +kernel
theorem dL_law_856 : decode cL_law 856 = .ok (.goto 4, 3) := by decide +kernel
theorem dL_law_859 : decode cL_law 859 = .ok (.iconst 5, 1) := by decide +kernel
theorem dL_law_860 : decode cL_law 860 = .ok (.invokevirtual 107, 3) := by decide +kernel
theorem dL_law_863 : decode cL_law 863 = .ok (.istore 20, 2) := by decide +kernel
theorem dL_law_865 : decode cL_law 865 = .ok (.iload 20, 2) := by decide +kernel
theorem dL_law_867 : decode cL_law 867 = .ok (.ifCond .le 7, 3) := by decide +kernel
theorem dL_law_870 : decode cL_law 870 = .ok (.iconst 1, 1) := by decide +kernel
theorem dL_law_871 : decode cL_law 871 = .ok (.goto 4, 3) := by decide +kernel
theorem dL_law_874 : decode cL_law 874 = .ok (.iconst 0, 1) := by decide +kernel
theorem dL_law_875 : decode cL_law 875 = .ok (.istore 11, 2) := by decide +kernel
theorem dL_law_877 : decode cL_law 877 = .ok (.aload 6, 2) := by decide +kernel
theorem dL_law_879 : decode cL_law 879 = .ok (.iconst 3, 1) := by decide +kernel
theorem dL_law_880 : decode cL_law 880 = .ok (.invokevirtual 253, 3) := by decide +kernel
theorem dL_law_883 : decode cL_law 883 = .ok (.aload 6, 2) := by decide +kernel
theorem dL_law_885 : decode cL_law 885 = .ok (.iconst 4, 1) := by decide +kernel
theorem dL_law_886 : decode cL_law 886 = .ok (.invokevirtual 253, 3) := by decide +kernel
theorem dL_law_889 : decode cL_law 889 = .ok (.iadd, 1) := by decide +kernel
theorem dL_law_890 : decode cL_law 890 = .ok (.istore 21, 2) := by decide +kernel
theorem dL_law_892 : decode cL_law 892 = .ok (.iconst 0, 1) := by decide +kernel
theorem dL_law_893 : decode cL_law 893 = .ok (.istore 22, 2) := by decide +kernel
theorem dL_law_895 : decode cL_law 895 = .ok (.iload 22, 2) := by decide +kernel
theorem dL_law_897 : decode cL_law 897 = .ok (.iload 20, 2) := by decide +kernel
theorem dL_law_899 : decode cL_law 899 = .ok (.if_icmp .ge 14, 3) := by decide +kernel
theorem dL_law_902 : decode cL_law 902 = .ok (.aload 6, 2) := by decide +kernel
theorem dL_law_904 : decode cL_law 904 = .ok (.invokevirtual 256, 3) := by decide +kernel
theorem dL_law_907 : decode cL_law 907 = .ok (.iinc 22 1, 3) := by decide +kernel
theorem dL_law_910 : decode cL_law 910 = .ok (.goto (-15), 3) := by decide +kernel
theorem dL_law_913 : decode cL_law 913 = .ok (.aload_n 3, 1) := by decide +kernel
theorem dL_law_914 : decode cL_law 914 = .ok (.iload 20, 2) := by decide +kernel
theorem dL_law_916 : decode cL_law 916 = .ok (.invokestatic 213, 3) := by decide +kernel
theorem dL_law_919 : decode cL_law 919 = .ok (.iload 11, 2) := by decide +kernel
theorem dL_law_921 : decode cL_law 921 = .ok (.ifCond .eq 22, 3) := by decide +kernel
theorem dL_law_924 : decode cL_law 924 = .ok (.aload 6, 2) := by decide +kernel
theorem dL_law_926 : decode cL_law 926 = .ok (.iconst 3, 1) := by decide +kernel
theorem dL_law_927 : decode cL_law 927 = .ok (.invokevirtual 253, 3) := by decide +kernel
theorem dL_law_930 : decode cL_law 930 = .ok (.aload 6, 2) := by decide +kernel
theorem dL_law_932 : decode cL_law 932 = .ok (.iconst 4, 1) := by decide +kernel
theorem dL_law_933 : decode cL_law 933 = .ok (.invokevirtual 253, 3) := by decide +kernel
theorem dL_law_936 : decode cL_law 936 = .ok (.iadd, 1) := by decide +kernel
theorem dL_law_937 : decode cL_law 937 = .ok (.iload 21, 2) := by decide +kernel
theorem dL_law_939 : decode cL_law 939 = .ok (.isub, 1) := by decide +kernel
theorem dL_law_940 : decode cL_law 940 = .ok (.goto 5, 3) := by decide +kernel
theorem dL_law_943 : decode cL_law 943 = .ok (.ldc 42, 2) := by decide +kernel
theorem dL_law_945 : decode cL_law 945 = .ok (.if_icmp .ne 7, 3) := by decide +kernel
theorem dL_law_948 : decode cL_law 948 = .ok (.iconst 1, 1) := by decide +kernel
theorem dL_law_949 : decode cL_law 949 = .ok (.goto 4, 3) := by decide +kernel
theorem dL_law_952 : decode cL_law 952 = .ok (.iconst 0, 1) := by decide +kernel
theorem dL_law_953 : decode cL_law 953 = .ok (.istore_n 1, 1) := by decide +kernel
theorem dL_law_954 : decode cL_law 954 = .ok (.iload 11, 2) := by decide +kernel
theorem dL_law_956 : decode cL_law 956 = .ok (.ifCond .eq 39, 3) := by decide +kernel
theorem dL_law_959 : decode cL_law 959 = .ok (.bipush 8, 2) := by decide +kernel
theorem dL_law_961 : decode cL_law 961 = .ok (.istore 17, 2) := by decide +kernel
theorem dL_law_963 : decode cL_law 963 = .ok (.iload 17, 2) := by decide +kernel
theorem dL_law_965 : decode cL_law 965 = .ok (.ifCond .le 21, 3) := by decide +kernel
theorem dL_law_968 : decode cL_law 968 = .ok (.aload 7, 2) := by decide +kernel
theorem dL_law_970 : decode cL_law 970 = .ok (.iload 17, 2) := by decide +kernel
theorem dL_law_972 : decode cL_law 972 = .ok (.aload 7, 2) := by decide +kernel
theorem dL_law_974 : decode cL_law 974 = .ok (.iload 17, 2) := by decide +kernel
theorem dL_law_976 : decode cL_law 976 = .ok (.iconst 1, 1) := by decide +kernel
theorem dL_law_977 : decode cL_law 977 = .ok (.isub, 1) := by decide +kernel
theorem dL_law_978 : decode cL_law 978 = .ok (.aaload, 1) := by decide +kernel
theorem dL_law_979 : decode cL_law 979 = .ok (.aastore, 1) := by decide +kernel
theorem dL_law_980 : decode cL_law 980 = .ok (.iinc 17 (-1), 3) := by decide +kernel
theorem dL_law_983 : decode cL_law 983 = .ok (.goto (-20), 3) := by decide +kernel
theorem dL_law_986 : decode cL_law 986 = .ok (.aload 7, 2) := by decide +kernel
theorem dL_law_988 : decode cL_law 988 = .ok (.iconst 0, 1) := by decide +kernel
theorem dL_law_989 : decode cL_law 989 = .ok (.aload 10, 2) := by decide +kernel
theorem dL_law_991 : decode cL_law 991 = .ok (.aastore, 1) := by decide +kernel
theorem dL_law_992 : decode cL_law 992 = .ok (.iinc 8 1, 3) := by decide +kernel
theorem dL_law_995 : decode cL_law 995 = .ok (.iload_n 1, 1) := by decide +kernel
theorem dL_law_996 : decode cL_law 996 = .ok (.ifCond .eq 16, 3) := by decide +kernel
theorem dL_law_999 : decode cL_law 999 = .ok (.aload_n 3, 1) := by decide +kernel
theorem dL_law_1000 : decode cL_law 1000 = .ok (.aload 6, 2) := by decide +kernel
theorem dL_law_1002 : decode cL_law 1002 = .ok (.invokestatic 204, 3) := by decide +kernel
theorem dL_law_1005 : decode cL_law 1005 = .ok (.ifCond .eq 7, 3) := by decide +kernel
theorem dL_law_1008 : decode cL_law 1008 = .ok (.iconst 1, 1) := by decide +kernel
theorem dL_law_1009 : decode cL_law 1009 = .ok (.goto 4, 3) := by decide +kernel
theorem dL_law_1012 : decode cL_law 1012 = .ok (.iconst 0, 1) := by decide +kernel
theorem dL_law_1013 : decode cL_law 1013 = .ok (.istore_n 1, 1) := by decide +kernel
theorem dL_law_1014 : decode cL_law 1014 = .ok (.iinc 9 1, 3) := by decide +kernel
theorem dL_law_1017 : decode cL_law 1017 = .ok (.goto (-840), 3) := by decide +kernel
theorem dL_law_1020 : decode cL_law 1020 = .ok (.iconst 0, 1) := by decide +kernel
theorem dL_law_1021 : decode cL_law 1021 = .ok (.istore 9, 2) := by decide +kernel
theorem dL_law_1023 : decode cL_law 1023 = .ok (.iload 9, 2) := by decide +kernel
theorem dL_law_1025 : decode cL_law 1025 = .ok (.bipush 8, 2) := by decide +kernel
theorem dL_law_1027 : decode cL_law 1027 = .ok (.if_icmp .ge 45, 3) := by decide +kernel
theorem dL_law_1030 : decode cL_law 1030 = .ok (.iload 9, 2) := by decide +kernel
theorem dL_law_1032 : decode cL_law 1032 = .ok (.iload 8, 2) := by decide +kernel
theorem dL_law_1034 : decode cL_law 1034 = .ok (.if_icmp .ge 38, 3) := by decide +kernel
theorem dL_law_1037 : decode cL_law 1037 = .ok (.iload_n 1, 1) := by decide +kernel
theorem dL_law_1038 : decode cL_law 1038 = .ok (.ifCond .eq 34, 3) := by decide +kernel
theorem dL_law_1041 : decode cL_law 1041 = .ok (.aload_n 3, 1) := by decide +kernel
theorem dL_law_1042 : decode cL_law 1042 = .ok (.invokevirtual 211, 3) := by decide +kernel
theorem dL_law_1045 : decode cL_law 1045 = .ok (.ifCond .lt 19, 3) := by decide +kernel
theorem dL_law_1048 : decode cL_law 1048 = .ok (.aload_n 3, 1) := by decide +kernel
theorem dL_law_1049 : decode cL_law 1049 = .ok (.aload 7, 2) := by decide +kernel
theorem dL_law_1051 : decode cL_law 1051 = .ok (.iload 9, 2) := by decide +kernel
theorem dL_law_1053 : decode cL_law 1053 = .ok (.aaload, 1) := by decide +kernel
theorem dL_law_1054 : decode cL_law 1054 = .ok (.invokestatic 204, 3) := by decide +kernel
theorem dL_law_1057 : decode cL_law 1057 = .ok (.ifCond .eq 7, 3) := by decide +kernel
theorem dL_law_1060 : decode cL_law 1060 = .ok (.iconst 1, 1) := by decide +kernel
theorem dL_law_1061 : decode cL_law 1061 = .ok (.goto 4, 3) := by decide +kernel
theorem dL_law_1064 : decode cL_law 1064 = .ok (.iconst 0, 1) := by decide +kernel
theorem dL_law_1065 : decode cL_law 1065 = .ok (.istore_n 1, 1) := by decide +kernel
theorem dL_law_1066 : decode cL_law 1066 = .ok (.iinc 9 1, 3) := by decide +kernel
theorem dL_law_1069 : decode cL_law 1069 = .ok (.goto (-46), 3) := by decide +kernel
theorem dL_law_1072 : decode cL_law 1072 = .ok (.iload_n 1, 1) := by decide +kernel
theorem dL_law_1073 : decode cL_law 1073 = .ok (.ifCond .eq 61, 3) := by decide +kernel
theorem dL_law_1076 : decode cL_law 1076 = .ok (.aload_n 3, 1) := by decide +kernel
theorem dL_law_1077 : decode cL_law 1077 = .ok (.iconst 1, 1) := by decide +kernel
theorem dL_law_1078 : decode cL_law 1078 = .ok (.invokestatic 19, 3) := by decide +kernel
theorem dL_law_1081 : decode cL_law 1081 = .ok (.ldc 42, 2) := by decide +kernel
theorem dL_law_1083 : decode cL_law 1083 = .ok (.if_icmp .ne 51, 3) := by decide +kernel
theorem dL_law_1086 : decode cL_law 1086 = .ok (.aload_n 3, 1) := by decide +kernel
theorem dL_law_1087 : decode cL_law 1087 = .ok (.iconst (-1), 1) := by decide +kernel
theorem dL_law_1088 : decode cL_law 1088 = .ok (.iconst 0, 1) := by decide +kernel
theorem dL_law_1089 : decode cL_law 1089 = .ok (.invokestatic 259, 3) := by decide +kernel
theorem dL_law_1092 : decode cL_law 1092 = .ok (.ldc 52, 2) := by decide +kernel
theorem dL_law_1094 : decode cL_law 1094 = .ok (.if_icmp .ne 40, 3) := by decide +kernel
theorem dL_law_1097 : decode cL_law 1097 = .ok (.aload_n 3, 1) := by decide +kernel
theorem dL_law_1098 : decode cL_law 1098 = .ok (.bipush 8, 2) := by decide +kernel
theorem dL_law_1100 : decode cL_law 1100 = .ok (.invokestatic 261, 3) := by decide +kernel
theorem dL_law_1103 : decode cL_law 1103 = .ok (.ldc 52, 2) := by decide +kernel
theorem dL_law_1105 : decode cL_law 1105 = .ok (.if_icmp .ne 29, 3) := by decide +kernel
theorem dL_law_1108 : decode cL_law 1108 = .ok (.aload_n 3, 1) := by decide +kernel
theorem dL_law_1109 : decode cL_law 1109 = .ok (.iconst (-1), 1) := by decide +kernel
theorem dL_law_1110 : decode cL_law 1110 = .ok (.iconst 0, 1) := by decide +kernel
theorem dL_law_1111 : decode cL_law 1111 = .ok (.invokestatic 263, 3) := by decide +kernel
theorem dL_law_1114 : decode cL_law 1114 = .ok (.ldc 52, 2) := by decide +kernel
theorem dL_law_1116 : decode cL_law 1116 = .ok (.if_icmp .ne 18, 3) := by decide +kernel
theorem dL_law_1119 : decode cL_law 1119 = .ok (.aload_n 3, 1) := by decide +kernel
theorem dL_law_1120 : decode cL_law 1120 = .ok (.iconst (-1), 1) := by decide +kernel
theorem dL_law_1121 : decode cL_law 1121 = .ok (.iconst 0, 1) := by decide +kernel
theorem dL_law_1122 : decode cL_law 1122 = .ok (.invokestatic 265, 3) := by decide +kernel
theorem dL_law_1125 : decode cL_law 1125 = .ok (.ldc 52, 2) := by decide +kernel
theorem dL_law_1127 : decode cL_law 1127 = .ok (.if_icmp .ne 7, 3) := by decide +kernel
theorem dL_law_1130 : decode cL_law 1130 = .ok (.iconst 1, 1) := by decide +kernel
theorem dL_law_1131 : decode cL_law 1131 = .ok (.goto 4, 3) := by decide +kernel
theorem dL_law_1134 : decode cL_law 1134 = .ok (.iconst 0, 1) := by decide +kernel
theorem dL_law_1135 : decode cL_law 1135 = .ok (.istore_n 1, 1) := by decide +kernel
theorem dL_law_1136 : decode cL_law 1136 = .ok (.iinc 2 1, 3) := by decide +kernel
theorem dL_law_1139 : decode cL_law 1139 = .ok (.goto (-1135), 3) := by decide +kernel
theorem dL_law_1142 : decode cL_law 1142 = .ok (.iload_n 1, 1) := by decide +kernel
theorem dL_law_1143 : decode cL_law 1143 = .ok (.ireturn, 1) := by decide +kernel
