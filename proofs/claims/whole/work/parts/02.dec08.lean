theorem dX10_areAlike_276 : decode cX10_areAlike 276 = .ok (.goto 132, 3) := by decide +kernel
theorem dX10_areAlike_279 : decode cX10_areAlike 279 = .ok (.iload_n 3, 1) := by decide +kernel
theorem dX10_areAlike_280 : decode cX10_areAlike 280 = .ok (.ifCond .eq 128, 3) := by decide +kernel
theorem dX10_areAlike_283 : decode cX10_areAlike 283 = .ok (.iload 8, 2) := by decide +kernel
theorem dX10_areAlike_285 : decode cX10_areAlike 285 = .ok (.ifCond .eq 92, 3) := by decide +kernel
theorem dX10_areAlike_288 : decode cX10_areAlike 288 = .ok (.iload 5, 2) := by decide +kernel
theorem dX10_areAlike_290 : decode cX10_areAlike 290 = .ok (.iload 9, 2) := by decide +kernel
theorem dX10_areAlike_292 : decode cX10_areAlike 292 = .ok (.iconst 1, 1) := by decide +kernel
theorem dX10_areAlike_293 : decode cX10_areAlike 293 = .ok (.isub, 1) := by decide +kernel
theorem dX10_areAlike_294 : decode cX10_areAlike 294 = .ok (.if_icmp .ne 83, 3) := by decide +kernel
theorem dX10_areAlike_297 : decode cX10_areAlike 297 = .ok (.aload_n 0, 1) := by decide +kernel
theorem dX10_areAlike_298 : decode cX10_areAlike 298 = .ok (.getfield 60, 3) := by decide +kernel
theorem dX10_areAlike_301 : decode cX10_areAlike 301 = .ok (.iload 4, 2) := by decide +kernel
theorem dX10_areAlike_303 : decode cX10_areAlike 303 = .ok (.aload_n 0, 1) := by decide +kernel
theorem dX10_areAlike_304 : decode cX10_areAlike 304 = .ok (.getfield 81, 3) := by decide +kernel
theorem dX10_areAlike_307 : decode cX10_areAlike 307 = .ok (.aload_n 0, 1) := by decide +kernel
theorem dX10_areAlike_308 : decode cX10_areAlike 308 = .ok (.getfield 36, 3) := by decide +kernel
theorem dX10_areAlike_311 : decode cX10_areAlike 311 = .ok (.iload 6, 2) := by decide +kernel
theorem dX10_areAlike_313 : decode cX10_areAlike 313 = .ok (.iaload, 1) := by decide +kernel
theorem dX10_areAlike_314 : decode cX10_areAlike 314 = .ok (.iaload, 1) := by decide +kernel
theorem dX10_areAlike_315 : decode cX10_areAlike 315 = .ok (.iastore, 1) := by decide +kernel
theorem dX10_areAlike_316 : decode cX10_areAlike 316 = .ok (.aload_n 0, 1) := by decide +kernel
theorem dX10_areAlike_317 : decode cX10_areAlike 317 = .ok (.getfield 63, 3) := by decide +kernel
theorem dX10_areAlike_320 : decode cX10_areAlike 320 = .ok (.iload 4, 2) := by decide +kernel
theorem dX10_areAlike_322 : decode cX10_areAlike 322 = .ok (.aload_n 0, 1) := by decide +kernel
theorem dX10_areAlike_323 : decode cX10_areAlike 323 = .ok (.getfield 84, 3) := by decide +kernel
theorem dX10_areAlike_326 : decode cX10_areAlike 326 = .ok (.aload_n 0, 1) := by decide +kernel
theorem dX10_areAlike_327 : decode cX10_areAlike 327 = .ok (.getfield 36, 3) := by decide +kernel
theorem dX10_areAlike_330 : decode cX10_areAlike 330 = .ok (.iload 7, 2) := by decide +kernel
theorem dX10_areAlike_332 : decode cX10_areAlike 332 = .ok (.iaload, 1) := by decide +kernel
theorem dX10_areAlike_333 : decode cX10_areAlike 333 = .ok (.iaload, 1) := by decide +kernel
theorem dX10_areAlike_334 : decode cX10_areAlike 334 = .ok (.iastore, 1) := by decide +kernel
theorem dX10_areAlike_335 : decode cX10_areAlike 335 = .ok (.aload_n 0, 1) := by decide +kernel
theorem dX10_areAlike_336 : decode cX10_areAlike 336 = .ok (.getfield 81, 3) := by decide +kernel
theorem dX10_areAlike_339 : decode cX10_areAlike 339 = .ok (.aload_n 0, 1) := by decide +kernel
theorem dX10_areAlike_340 : decode cX10_areAlike 340 = .ok (.getfield 36, 3) := by decide +kernel
theorem dX10_areAlike_343 : decode cX10_areAlike 343 = .ok (.iload 6, 2) := by decide +kernel
theorem dX10_areAlike_345 : decode cX10_areAlike 345 = .ok (.iaload, 1) := by decide +kernel
theorem dX10_areAlike_346 : decode cX10_areAlike 346 = .ok (.aload_n 0, 1) := by decide +kernel
theorem dX10_areAlike_347 : decode cX10_areAlike 347 = .ok (.getfield 175, 3) := by decide +kernel
theorem dX10_areAlike_350 : decode cX10_areAlike 350 = .ok (.iastore, 1) := by decide +kernel
theorem dX10_areAlike_351 : decode cX10_areAlike 351 = .ok (.aload_n 0, 1) := by decide +kernel
theorem dX10_areAlike_352 : decode cX10_areAlike 352 = .ok (.getfield 84, 3) := by decide +kernel
theorem dX10_areAlike_355 : decode cX10_areAlike 355 = .ok (.aload_n 0, 1) := by decide +kernel
theorem dX10_areAlike_356 : decode cX10_areAlike 356 = .ok (.getfield 36, 3) := by decide +kernel
theorem dX10_areAlike_359 : decode cX10_areAlike 359 = .ok (.iload 7, 2) := by decide +kernel
theorem dX10_areAlike_361 : decode cX10_areAlike 361 = .ok (.iaload, 1) := by decide +kernel
theorem dX10_areAlike_362 : decode cX10_areAlike 362 = .ok (.aload_n 0, 1) := by decide +kernel
theorem dX10_areAlike_363 : decode cX10_areAlike 363 = .ok (.getfield 175, 3) := by decide +kernel
theorem dX10_areAlike_366 : decode cX10_areAlike 366 = .ok (.iastore, 1) := by decide +kernel
theorem dX10_areAlike_367 : decode cX10_areAlike 367 = .ok (.aload_n 0, 1) := by decide +kernel
theorem dX10_areAlike_368 : decode cX10_areAlike 368 = .ok (.dup, 1) := by decide +kernel
theorem dX10_areAlike_369 : decode cX10_areAlike 369 = .ok (.getfield 175, 3) := by decide +kernel
theorem dX10_areAlike_372 : decode cX10_areAlike 372 = .ok (.iconst 1, 1) := by decide +kernel
theorem dX10_areAlike_373 : decode cX10_areAlike 373 = .ok (.iadd, 1) := by decide +kernel
theorem dX10_areAlike_374 : decode cX10_areAlike 374 = .ok (.putfield 175, 3) := by decide +kernel
theorem dX10_areAlike_377 : decode cX10_areAlike 377 = .ok (.aload_n 0, 1) := by decide +kernel
theorem dX10_areAlike_378 : decode cX10_areAlike 378 = .ok (.aload_n 0, 1) := by decide +kernel
theorem dX10_areAlike_379 : decode cX10_areAlike 379 = .ok (.iload 6, 2) := by decide +kernel
theorem dX10_areAlike_381 : decode cX10_areAlike 381 = .ok (.iload 5, 2) := by decide +kernel
theorem dX10_areAlike_383 : decode cX10_areAlike 383 = .ok (.invokevirtual 126, 3) := by decide +kernel
theorem dX10_areAlike_386 : decode cX10_areAlike 386 = .ok (.invokevirtual 154, 3) := by decide +kernel
theorem dX10_areAlike_389 : decode cX10_areAlike 389 = .ok (.aload_n 0, 1) := by decide +kernel
theorem dX10_areAlike_390 : decode cX10_areAlike 390 = .ok (.getfield 72, 3) := by decide +kernel
theorem dX10_areAlike_393 : decode cX10_areAlike 393 = .ok (.aload_n 0, 1) := by decide +kernel
theorem dX10_areAlike_394 : decode cX10_areAlike 394 = .ok (.getfield 145, 3) := by decide +kernel
theorem dX10_areAlike_397 : decode cX10_areAlike 397 = .ok (.iconst 1, 1) := by decide +kernel
theorem dX10_areAlike_398 : decode cX10_areAlike 398 = .ok (.isub, 1) := by decide +kernel
theorem dX10_areAlike_399 : decode cX10_areAlike 399 = .ok (.aload_n 0, 1) := by decide +kernel
theorem dX10_areAlike_400 : decode cX10_areAlike 400 = .ok (.iload 7, 2) := by decide +kernel
theorem dX10_areAlike_402 : decode cX10_areAlike 402 = .ok (.iload 5, 2) := by decide +kernel
theorem dX10_areAlike_404 : decode cX10_areAlike 404 = .ok (.invokevirtual 126, 3) := by decide +kernel
theorem dX10_areAlike_407 : decode cX10_areAlike 407 = .ok (.iastore, 1) := by decide +kernel
theorem dX10_areAlike_408 : decode cX10_areAlike 408 = .ok (.goto (-322), 3) := by decide +kernel
theorem dX10_areAlike_411 : decode cX10_areAlike 411 = .ok (.iload_n 3, 1) := by decide +kernel
theorem dX10_areAlike_412 : decode cX10_areAlike 412 = .ok (.ireturn, 1) := by decide +kernel
theorem dX10_isLikeHere_0 : decode cX10_isLikeHere 0 = .ok (.aload_n 0, 1) := by decide +kernel
theorem dX10_isLikeHere_1 : decode cX10_isLikeHere 1 = .ok (.getfield 30, 3) := by decide +kernel
theorem dX10_isLikeHere_4 : decode cX10_isLikeHere 4 = .ok (.iload_n 1, 1) := by decide +kernel
theorem dX10_isLikeHere_5 : decode cX10_isLikeHere 5 = .ok (.iaload, 1) := by decide +kernel
theorem dX10_isLikeHere_6 : decode cX10_isLikeHere 6 = .ok (.aload_n 0, 1) := by decide +kernel
theorem dX10_isLikeHere_7 : decode cX10_isLikeHere 7 = .ok (.getfield 30, 3) := by decide +kernel
theorem dX10_isLikeHere_10 : decode cX10_isLikeHere 10 = .ok (.iload_n 2, 1) := by decide +kernel
theorem dX10_isLikeHere_11 : decode cX10_isLikeHere 11 = .ok (.iaload, 1) := by decide +kernel
theorem dX10_isLikeHere_12 : decode cX10_isLikeHere 12 = .ok (.if_icmp .eq 5, 3) := by decide +kernel
theorem dX10_isLikeHere_15 : decode cX10_isLikeHere 15 = .ok (.iconst 0, 1) := by decide +kernel
theorem dX10_isLikeHere_16 : decode cX10_isLikeHere 16 = .ok (.ireturn, 1) := by decide +kernel
theorem dX10_isLikeHere_17 : decode cX10_isLikeHere 17 = .ok (.aload_n 0, 1) := by decide +kernel
theorem dX10_isLikeHere_18 : decode cX10_isLikeHere 18 = .ok (.getfield 30, 3) := by decide +kernel
theorem dX10_isLikeHere_21 : decode cX10_isLikeHere 21 = .ok (.iload_n 1, 1) := by decide +kernel
theorem dX10_isLikeHere_22 : decode cX10_isLikeHere 22 = .ok (.iaload, 1) := by decide +kernel
theorem dX10_isLikeHere_23 : decode cX10_isLikeHere 23 = .ok (.iconst 1, 1) := by decide +kernel
theorem dX10_isLikeHere_24 : decode cX10_isLikeHere 24 = .ok (.if_icmp .ne 57, 3) := by decide +kernel
theorem dX10_isLikeHere_27 : decode cX10_isLikeHere 27 = .ok (.aload_n 0, 1) := by decide +kernel
theorem dX10_isLikeHere_28 : decode cX10_isLikeHere 28 = .ok (.getfield 36, 3) := by decide +kernel
theorem dX10_isLikeHere_31 : decode cX10_isLikeHere 31 = .ok (.iload_n 1, 1) := by decide +kernel
theorem dX10_isLikeHere_32 : decode cX10_isLikeHere 32 = .ok (.iaload, 1) := by decide +kernel
theorem dX10_isLikeHere_33 : decode cX10_isLikeHere 33 = .ok (.istore_n 3, 1) := by decide +kernel
theorem dX10_isLikeHere_34 : decode cX10_isLikeHere 34 = .ok (.aload_n 0, 1) := by decide +kernel
theorem dX10_isLikeHere_35 : decode cX10_isLikeHere 35 = .ok (.getfield 36, 3) := by decide +kernel
theorem dX10_isLikeHere_38 : decode cX10_isLikeHere 38 = .ok (.iload_n 2, 1) := by decide +kernel
theorem dX10_isLikeHere_39 : decode cX10_isLikeHere 39 = .ok (.iaload, 1) := by decide +kernel
theorem dX10_isLikeHere_40 : decode cX10_isLikeHere 40 = .ok (.istore 4, 2) := by decide +kernel
theorem dX10_isLikeHere_42 : decode cX10_isLikeHere 42 = .ok (.aload_n 0, 1) := by decide +kernel
theorem dX10_isLikeHere_43 : decode cX10_isLikeHere 43 = .ok (.getfield 81, 3) := by decide +kernel
theorem dX10_isLikeHere_46 : decode cX10_isLikeHere 46 = .ok (.iload_n 3, 1) := by decide +kernel
theorem dX10_isLikeHere_47 : decode cX10_isLikeHere 47 = .ok (.iaload, 1) := by decide +kernel
theorem dX10_isLikeHere_48 : decode cX10_isLikeHere 48 = .ok (.aload_n 0, 1) := by decide +kernel
theorem dX10_isLikeHere_49 : decode cX10_isLikeHere 49 = .ok (.getfield 84, 3) := by decide +kernel
theorem dX10_isLikeHere_52 : decode cX10_isLikeHere 52 = .ok (.iload 4, 2) := by decide +kernel
theorem dX10_isLikeHere_54 : decode cX10_isLikeHere 54 = .ok (.iaload, 1) := by decide +kernel
theorem dX10_isLikeHere_55 : decode cX10_isLikeHere 55 = .ok (.if_icmp .ne 24, 3) := by decide +kernel
theorem dX10_isLikeHere_58 : decode cX10_isLikeHere 58 = .ok (.aload_n 0, 1) := by decide +kernel
theorem dX10_isLikeHere_59 : decode cX10_isLikeHere 59 = .ok (.getfield 81, 3) := by decide +kernel
theorem dX10_isLikeHere_62 : decode cX10_isLikeHere 62 = .ok (.iload_n 3, 1) := by decide +kernel
theorem dX10_isLikeHere_63 : decode cX10_isLikeHere 63 = .ok (.iaload, 1) := by decide +kernel
theorem dX10_isLikeHere_64 : decode cX10_isLikeHere 64 = .ok (.bipush (-2), 2) := by decide +kernel
theorem dX10_isLikeHere_66 : decode cX10_isLikeHere 66 = .ok (.if_icmp .ne 9, 3) := by decide +kernel
theorem dX10_isLikeHere_69 : decode cX10_isLikeHere 69 = .ok (.iload_n 3, 1) := by decide +kernel
theorem dX10_isLikeHere_70 : decode cX10_isLikeHere 70 = .ok (.iload 4, 2) := by decide +kernel
theorem dX10_isLikeHere_72 : decode cX10_isLikeHere 72 = .ok (.if_icmp .ne 7, 3) := by decide +kernel
theorem dX10_isLikeHere_75 : decode cX10_isLikeHere 75 = .ok (.iconst 1, 1) := by decide +kernel
theorem dX10_isLikeHere_76 : decode cX10_isLikeHere 76 = .ok (.goto 4, 3) := by decide +kernel
theorem dX10_isLikeHere_79 : decode cX10_isLikeHere 79 = .ok (.iconst 0, 1) := by decide +kernel
theorem dX10_isLikeHere_80 : decode cX10_isLikeHere 80 = .ok (.ireturn, 1) := by decide +kernel
theorem dX10_isLikeHere_81 : decode cX10_isLikeHere 81 = .ok (.aload_n 0, 1) := by decide +kernel
theorem dX10_isLikeHere_82 : decode cX10_isLikeHere 82 = .ok (.getfield 30, 3) := by decide +kernel
theorem dX10_isLikeHere_85 : decode cX10_isLikeHere 85 = .ok (.iload_n 1, 1) := by decide +kernel
theorem dX10_isLikeHere_86 : decode cX10_isLikeHere 86 = .ok (.iaload, 1) := by decide +kernel
theorem dX10_isLikeHere_87 : decode cX10_isLikeHere 87 = .ok (.ifCond .ne 26, 3) := by decide +kernel
theorem dX10_isLikeHere_90 : decode cX10_isLikeHere 90 = .ok (.aload_n 0, 1) := by decide +kernel
theorem dX10_isLikeHere_91 : decode cX10_isLikeHere 91 = .ok (.getfield 33, 3) := by decide +kernel
theorem dX10_isLikeHere_94 : decode cX10_isLikeHere 94 = .ok (.iload_n 1, 1) := by decide +kernel
theorem dX10_isLikeHere_95 : decode cX10_isLikeHere 95 = .ok (.iaload, 1) := by decide +kernel
theorem dX10_isLikeHere_96 : decode cX10_isLikeHere 96 = .ok (.aload_n 0, 1) := by decide +kernel
theorem dX10_isLikeHere_97 : decode cX10_isLikeHere 97 = .ok (.getfield 33, 3) := by decide +kernel
theorem dX10_isLikeHere_100 : decode cX10_isLikeHere 100 = .ok (.iload_n 2, 1) := by decide +kernel
theorem dX10_isLikeHere_101 : decode cX10_isLikeHere 101 = .ok (.iaload, 1) := by decide +kernel
theorem dX10_isLikeHere_102 : decode cX10_isLikeHere 102 = .ok (.if_icmp .ne 7, 3) := by decide +kernel
theorem dX10_isLikeHere_105 : decode cX10_isLikeHere 105 = .ok (.iconst 1, 1) := by decide +kernel
theorem dX10_isLikeHere_106 : decode cX10_isLikeHere 106 = .ok (.goto 37, 3) := by decide +kernel
theorem dX10_isLikeHere_109 : decode cX10_isLikeHere 109 = .ok (.iconst 0, 1) := by decide +kernel
theorem dX10_isLikeHere_110 : decode cX10_isLikeHere 110 = .ok (.goto 33, 3) := by decide +kernel
theorem dX10_isLikeHere_113 : decode cX10_isLikeHere 113 = .ok (.aload_n 0, 1) := by decide +kernel
theorem dX10_isLikeHere_114 : decode cX10_isLikeHere 114 = .ok (.getfield 30, 3) := by decide +kernel
theorem dX10_isLikeHere_117 : decode cX10_isLikeHere 117 = .ok (.iload_n 1, 1) := by decide +kernel
theorem dX10_isLikeHere_118 : decode cX10_isLikeHere 118 = .ok (.iaload, 1) := by decide +kernel
theorem dX10_isLikeHere_119 : decode cX10_isLikeHere 119 = .ok (.iconst 2, 1) := by decide +kernel
theorem dX10_isLikeHere_120 : decode cX10_isLikeHere 120 = .ok (.if_icmp .ne 18, 3) := by decide +kernel
theorem dX10_isLikeHere_123 : decode cX10_isLikeHere 123 = .ok (.aload_n 0, 1) := by decide +kernel
theorem dX10_isLikeHere_124 : decode cX10_isLikeHere 124 = .ok (.getfield 39, 3) := by decide +kernel
theorem dX10_isLikeHere_127 : decode cX10_isLikeHere 127 = .ok (.iload_n 1, 1) := by decide +kernel
theorem dX10_isLikeHere_128 : decode cX10_isLikeHere 128 = .ok (.iaload, 1) := by decide +kernel
theorem dX10_isLikeHere_129 : decode cX10_isLikeHere 129 = .ok (.aload_n 0, 1) := by decide +kernel
theorem dX10_isLikeHere_130 : decode cX10_isLikeHere 130 = .ok (.getfield 39, 3) := by decide +kernel
theorem dX10_isLikeHere_133 : decode cX10_isLikeHere 133 = .ok (.iload_n 2, 1) := by decide +kernel
theorem dX10_isLikeHere_134 : decode cX10_isLikeHere 134 = .ok (.iaload, 1) := by decide +kernel
theorem dX10_isLikeHere_135 : decode cX10_isLikeHere 135 = .ok (.if_icmp .ne 7, 3) := by decide +kernel
theorem dX10_isLikeHere_138 : decode cX10_isLikeHere 138 = .ok (.iconst 1, 1) := by decide +kernel
theorem dX10_isLikeHere_139 : decode cX10_isLikeHere 139 = .ok (.goto 4, 3) := by decide +kernel
theorem dX10_isLikeHere_142 : decode cX10_isLikeHere 142 = .ok (.iconst 0, 1) := by decide +kernel
theorem dX10_isLikeHere_143 : decode cX10_isLikeHere 143 = .ok (.ireturn, 1) := by decide +kernel
theorem dX10_alike_0 : decode cX10_alike 0 = .ok (.aload_n 0, 1) := by decide +kernel
theorem dX10_alike_1 : decode cX10_alike 1 = .ok (.iload_n 1, 1) := by decide +kernel
theorem dX10_alike_2 : decode cX10_alike 2 = .ok (.invokevirtual 136, 3) := by decide +kernel
theorem dX10_alike_5 : decode cX10_alike 5 = .ok (.ifCond .eq 11, 3) := by decide +kernel
theorem dX10_alike_8 : decode cX10_alike 8 = .ok (.aload_n 0, 1) := by decide +kernel
theorem dX10_alike_9 : decode cX10_alike 9 = .ok (.iload_n 2, 1) := by decide +kernel
theorem dX10_alike_10 : decode cX10_alike 10 = .ok (.invokevirtual 136, 3) := by decide +kernel
theorem dX10_alike_13 : decode cX10_alike 13 = .ok (.ifCond .ne 7, 3) := by decide +kernel
theorem dX10_alike_16 : decode cX10_alike 16 = .ok (.iconst (-1), 1) := by decide +kernel
theorem dX10_alike_17 : decode cX10_alike 17 = .ok (.goto 17, 3) := by decide +kernel
theorem dX10_alike_20 : decode cX10_alike 20 = .ok (.aload_n 0, 1) := by decide +kernel
theorem dX10_alike_21 : decode cX10_alike 21 = .ok (.iload_n 1, 1) := by decide +kernel
theorem dX10_alike_22 : decode cX10_alike 22 = .ok (.iload_n 2, 1) := by decide +kernel
theorem dX10_alike_23 : decode cX10_alike 23 = .ok (.invokevirtual 181, 3) := by decide +kernel
theorem dX10_alike_26 : decode cX10_alike 26 = .ok (.ifCond .eq 7, 3) := by decide +kernel
theorem dX10_alike_29 : decode cX10_alike 29 = .ok (.iconst 1, 1) := by decide +kernel
theorem dX10_alike_30 : decode cX10_alike 30 = .ok (.goto 4, 3) := by decide +kernel
theorem dX10_alike_33 : decode cX10_alike 33 = .ok (.iconst 0, 1) := by decide +kernel
theorem dX10_alike_34 : decode cX10_alike 34 = .ok (.ireturn, 1) := by decide +kernel
theorem dX10_least_0 : decode cX10_least 0 = .ok (.aload_n 0, 1) := by decide +kernel
theorem dX10_least_1 : decode cX10_least 1 = .ok (.iload_n 1, 1) := by decide +kernel
theorem dX10_least_2 : decode cX10_least 2 = .ok (.invokevirtual 136, 3) := by decide +kernel
theorem dX10_least_5 : decode cX10_least 5 = .ok (.ifCond .ne 5, 3) := by decide +kernel
theorem dX10_least_8 : decode cX10_least 8 = .ok (.iconst (-1), 1) := by decide +kernel
theorem dX10_least_9 : decode cX10_least 9 = .ok (.ireturn, 1) := by decide +kernel
theorem dX10_least_10 : decode cX10_least 10 = .ok (.iconst 0, 1) := by decide +kernel
theorem dX10_least_11 : decode cX10_least 11 = .ok (.istore_n 2, 1) := by decide +kernel
theorem dX10_least_12 : decode cX10_least 12 = .ok (.aload_n 0, 1) := by decide +kernel
theorem dX10_least_13 : decode cX10_least 13 = .ok (.iload_n 1, 1) := by decide +kernel
theorem dX10_least_14 : decode cX10_least 14 = .ok (.iload_n 2, 1) := by decide +kernel
theorem dX10_least_15 : decode cX10_least 15 = .ok (.invokevirtual 181, 3) := by decide +kernel
theorem dX10_least_18 : decode cX10_least 18 = .ok (.ifCond .ne 9, 3) := by decide +kernel
theorem dX10_least_21 : decode cX10_least 21 = .ok (.iinc 2 1, 3) := by decide +kernel
theorem dX10_least_24 : decode cX10_least 24 = .ok (.goto (-12), 3) := by decide +kernel
theorem dX10_least_27 : decode cX10_least 27 = .ok (.iload_n 2, 1) := by decide +kernel
theorem dX10_least_28 : decode cX10_least 28 = .ok (.ireturn, 1) := by decide +kernel
theorem dX10_pushPut_0 : decode cX10_pushPut 0 = .ok (.aload_n 0, 1) := by decide +kernel
theorem dX10_pushPut_1 : decode cX10_pushPut 1 = .ok (.iload_n 1, 1) := by decide +kernel
theorem dX10_pushPut_2 : decode cX10_pushPut 2 = .ok (.invokevirtual 154, 3) := by decide +kernel
theorem dX10_pushPut_5 : decode cX10_pushPut 5 = .ok (.aload_n 0, 1) := by decide +kernel
theorem dX10_pushPut_6 : decode cX10_pushPut 6 = .ok (.getfield 69, 3) := by decide +kernel
theorem dX10_pushPut_9 : decode cX10_pushPut 9 = .ok (.aload_n 0, 1) := by decide +kernel
theorem dX10_pushPut_10 : decode cX10_pushPut 10 = .ok (.getfield 145, 3) := by decide +kernel
theorem dX10_pushPut_13 : decode cX10_pushPut 13 = .ok (.iconst 1, 1) := by decide +kernel
theorem dX10_pushPut_14 : decode cX10_pushPut 14 = .ok (.isub, 1) := by decide +kernel
theorem dX10_pushPut_15 : decode cX10_pushPut 15 = .ok (.iload_n 2, 1) := by decide +kernel
theorem dX10_pushPut_16 : decode cX10_pushPut 16 = .ok (.iastore, 1) := by decide +kernel
theorem dX10_pushPut_17 : decode cX10_pushPut 17 = .ok (.aload_n 0, 1) := by decide +kernel
theorem dX10_pushPut_18 : decode cX10_pushPut 18 = .ok (.getfield 72, 3) := by decide +kernel
theorem dX10_pushPut_21 : decode cX10_pushPut 21 = .ok (.aload_n 0, 1) := by decide +kernel
theorem dX10_pushPut_22 : decode cX10_pushPut 22 = .ok (.getfield 145, 3) := by decide +kernel
theorem dX10_pushPut_25 : decode cX10_pushPut 25 = .ok (.iconst 1, 1) := by decide +kernel
theorem dX10_pushPut_26 : decode cX10_pushPut 26 = .ok (.isub, 1) := by decide +kernel
theorem dX10_pushPut_27 : decode cX10_pushPut 27 = .ok (.iload_n 3, 1) := by decide +kernel
theorem dX10_pushPut_28 : decode cX10_pushPut 28 = .ok (.iastore, 1) := by decide +kernel
theorem dX10_pushPut_29 : decode cX10_pushPut 29 = .ok (.return_, 1) := by decide +kernel
theorem dX10_newLetter_0 : decode cX10_newLetter 0 = .ok (.iconst 0, 1) := by decide +kernel
theorem dX10_newLetter_1 : decode cX10_newLetter 1 = .ok (.istore_n 3, 1) := by decide +kernel
theorem dX10_newLetter_2 : decode cX10_newLetter 2 = .ok (.iload_n 3, 1) := by decide +kernel
theorem dX10_newLetter_3 : decode cX10_newLetter 3 = .ok (.bipush 26, 2) := by decide +kernel
theorem dX10_newLetter_5 : decode cX10_newLetter 5 = .ok (.if_icmp .ge 27, 3) := by decide +kernel
theorem dX10_newLetter_8 : decode cX10_newLetter 8 = .ok (.aload_n 0, 1) := by decide +kernel
theorem dX10_newLetter_9 : decode cX10_newLetter 9 = .ok (.iload_n 1, 1) := by decide +kernel
theorem dX10_newLetter_10 : decode cX10_newLetter 10 = .ok (.iload_n 3, 1) := by decide +kernel
theorem dX10_newLetter_11 : decode cX10_newLetter 11 = .ok (.invokevirtual 141, 3) := by decide +kernel
theorem dX10_newLetter_14 : decode cX10_newLetter 14 = .ok (.ifCond .ne 12, 3) := by decide +kernel
theorem dX10_newLetter_17 : decode cX10_newLetter 17 = .ok (.aload_n 0, 1) := by decide +kernel
theorem dX10_newLetter_18 : decode cX10_newLetter 18 = .ok (.iload_n 2, 1) := by decide +kernel
theorem dX10_newLetter_19 : decode cX10_newLetter 19 = .ok (.iload_n 3, 1) := by decide +kernel
theorem dX10_newLetter_20 : decode cX10_newLetter 20 = .ok (.invokevirtual 141, 3) := by decide +kernel
theorem dX10_newLetter_23 : decode cX10_newLetter 23 = .ok (.ifCond .eq 9, 3) := by decide +kernel
theorem dX10_newLetter_26 : decode cX10_newLetter 26 = .ok (.iinc 3 1, 3) := by decide +kernel
theorem dX10_newLetter_29 : decode cX10_newLetter 29 = .ok (.goto (-27), 3) := by decide +kernel
theorem dX10_newLetter_32 : decode cX10_newLetter 32 = .ok (.iload_n 3, 1) := by decide +kernel
theorem dX10_newLetter_33 : decode cX10_newLetter 33 = .ok (.bipush 26, 2) := by decide +kernel
theorem dX10_newLetter_35 : decode cX10_newLetter 35 = .ok (.if_icmp .ge 7, 3) := by decide +kernel
theorem dX10_newLetter_38 : decode cX10_newLetter 38 = .ok (.iload_n 3, 1) := by decide +kernel
theorem dX10_newLetter_39 : decode cX10_newLetter 39 = .ok (.goto 5, 3) := by decide +kernel
theorem dX10_newLetter_42 : decode cX10_newLetter 42 = .ok (.bipush (-3), 2) := by decide +kernel
theorem dX10_newLetter_44 : decode cX10_newLetter 44 = .ok (.ireturn, 1) := by decide +kernel
theorem dX10_remade_0 : decode cX10_remade 0 = .ok (.iload_n 2, 1) := by decide +kernel
theorem dX10_remade_1 : decode cX10_remade 1 = .ok (.aload_n 0, 1) := by decide +kernel
theorem dX10_remade_2 : decode cX10_remade 2 = .ok (.getfield 36, 3) := by decide +kernel
theorem dX10_remade_5 : decode cX10_remade 5 = .ok (.iload_n 1, 1) := by decide +kernel
theorem dX10_remade_6 : decode cX10_remade 6 = .ok (.iaload, 1) := by decide +kernel
theorem dX10_remade_7 : decode cX10_remade 7 = .ok (.if_icmp .ne 39, 3) := by decide +kernel
theorem dX10_remade_10 : decode cX10_remade 10 = .ok (.iload_n 3, 1) := by decide +kernel
theorem dX10_remade_11 : decode cX10_remade 11 = .ok (.aload_n 0, 1) := by decide +kernel
theorem dX10_remade_12 : decode cX10_remade 12 = .ok (.iload_n 1, 1) := by decide +kernel
theorem dX10_remade_13 : decode cX10_remade 13 = .ok (.iconst 0, 1) := by decide +kernel
theorem dX10_remade_14 : decode cX10_remade 14 = .ok (.invokevirtual 126, 3) := by decide +kernel
theorem dX10_remade_17 : decode cX10_remade 17 = .ok (.if_icmp .ne 29, 3) := by decide +kernel
theorem dX10_remade_20 : decode cX10_remade 20 = .ok (.iload 4, 2) := by decide +kernel
theorem dX10_remade_22 : decode cX10_remade 22 = .ok (.aload_n 0, 1) := by decide +kernel
theorem dX10_remade_23 : decode cX10_remade 23 = .ok (.iload_n 1, 1) := by decide +kernel
theorem dX10_remade_24 : decode cX10_remade 24 = .ok (.iconst 1, 1) := by decide +kernel
theorem dX10_remade_25 : decode cX10_remade 25 = .ok (.invokevirtual 126, 3) := by decide +kernel
theorem dX10_remade_28 : decode cX10_remade 28 = .ok (.if_icmp .ne 18, 3) := by decide +kernel
theorem dX10_remade_31 : decode cX10_remade 31 = .ok (.iload 5, 2) := by decide +kernel
theorem dX10_remade_33 : decode cX10_remade 33 = .ok (.aload_n 0, 1) := by decide +kernel
theorem dX10_remade_34 : decode cX10_remade 34 = .ok (.iload_n 1, 1) := by decide +kernel
theorem dX10_remade_35 : decode cX10_remade 35 = .ok (.iconst 2, 1) := by decide +kernel
theorem dX10_remade_36 : decode cX10_remade 36 = .ok (.invokevirtual 126, 3) := by decide +kernel
theorem dX10_remade_39 : decode cX10_remade 39 = .ok (.if_icmp .ne 7, 3) := by decide +kernel
theorem dX10_remade_42 : decode cX10_remade 42 = .ok (.iconst 1, 1) := by decide +kernel
theorem dX10_remade_43 : decode cX10_remade 43 = .ok (.goto 4, 3) := by decide +kernel
theorem dX10_remade_46 : decode cX10_remade 46 = .ok (.iconst 0, 1) := by decide +kernel
theorem dX10_remade_47 : decode cX10_remade 47 = .ok (.istore 6, 2) := by decide +kernel
theorem dX10_remade_49 : decode cX10_remade 49 = .ok (.iload 6, 2) := by decide +kernel
theorem dX10_remade_51 : decode cX10_remade 51 = .ok (.ifCond .eq 7, 3) := by decide +kernel
theorem dX10_remade_54 : decode cX10_remade 54 = .ok (.iload_n 1, 1) := by decide +kernel
theorem dX10_remade_55 : decode cX10_remade 55 = .ok (.goto 26, 3) := by decide +kernel
theorem dX10_remade_58 : decode cX10_remade 58 = .ok (.aload_n 0, 1) := by decide +kernel
theorem dX10_remade_59 : decode cX10_remade 59 = .ok (.aload_n 0, 1) := by decide +kernel
theorem dX10_remade_60 : decode cX10_remade 60 = .ok (.getfield 30, 3) := by decide +kernel
theorem dX10_remade_63 : decode cX10_remade 63 = .ok (.iload_n 1, 1) := by decide +kernel
theorem dX10_remade_64 : decode cX10_remade 64 = .ok (.iaload, 1) := by decide +kernel
theorem dX10_remade_65 : decode cX10_remade 65 = .ok (.iconst 0, 1) := by decide +kernel
theorem dX10_remade_66 : decode cX10_remade 66 = .ok (.iload_n 2, 1) := by decide +kernel
theorem dX10_remade_67 : decode cX10_remade 67 = .ok (.aload_n 0, 1) := by decide +kernel
theorem dX10_remade_68 : decode cX10_remade 68 = .ok (.getfield 39, 3) := by decide +kernel
theorem dX10_remade_71 : decode cX10_remade 71 = .ok (.iload_n 1, 1) := by decide +kernel
theorem dX10_remade_72 : decode cX10_remade 72 = .ok (.iaload, 1) := by decide +kernel
theorem dX10_remade_73 : decode cX10_remade 73 = .ok (.iload_n 3, 1) := by decide +kernel
theorem dX10_remade_74 : decode cX10_remade 74 = .ok (.iload 4, 2) := by decide +kernel
theorem dX10_remade_76 : decode cX10_remade 76 = .ok (.iload 5, 2) := by decide +kernel
theorem dX10_remade_78 : decode cX10_remade 78 = .ok (.invokevirtual 132, 3) := by decide +kernel
theorem dX10_remade_81 : decode cX10_remade 81 = .ok (.ireturn, 1) := by decide +kernel
theorem dX10_putBody_0 : decode cX10_putBody 0 = .ok (.aload_n 0, 1) := by decide +kernel
theorem dX10_putBody_1 : decode cX10_putBody 1 = .ok (.getfield 69, 3) := by decide +kernel
theorem dX10_putBody_4 : decode cX10_putBody 4 = .ok (.iload_n 1, 1) := by decide +kernel
theorem dX10_putBody_5 : decode cX10_putBody 5 = .ok (.iaload, 1) := by decide +kernel
theorem dX10_putBody_6 : decode cX10_putBody 6 = .ok (.istore 4, 2) := by decide +kernel
theorem dX10_putBody_8 : decode cX10_putBody 8 = .ok (.aload_n 0, 1) := by decide +kernel
theorem dX10_putBody_9 : decode cX10_putBody 9 = .ok (.getfield 72, 3) := by decide +kernel
theorem dX10_putBody_12 : decode cX10_putBody 12 = .ok (.iload_n 1, 1) := by decide +kernel
theorem dX10_putBody_13 : decode cX10_putBody 13 = .ok (.iaload, 1) := by decide +kernel
theorem dX10_putBody_14 : decode cX10_putBody 14 = .ok (.istore 5, 2) := by decide +kernel
theorem dX10_putBody_16 : decode cX10_putBody 16 = .ok (.aload_n 0, 1) := by decide +kernel
theorem dX10_putBody_17 : decode cX10_putBody 17 = .ok (.getfield 30, 3) := by decide +kernel
theorem dX10_putBody_20 : decode cX10_putBody 20 = .ok (.iload_n 2, 1) := by decide +kernel
theorem dX10_putBody_21 : decode cX10_putBody 21 = .ok (.iaload, 1) := by decide +kernel
theorem dX10_putBody_22 : decode cX10_putBody 22 = .ok (.iconst 4, 1) := by decide +kernel
theorem dX10_putBody_23 : decode cX10_putBody 23 = .ok (.if_icmp .ne 7, 3) := by decide +kernel
theorem dX10_putBody_26 : decode cX10_putBody 26 = .ok (.iconst 1, 1) := by decide +kernel
theorem dX10_putBody_27 : decode cX10_putBody 27 = .ok (.goto 4, 3) := by decide +kernel
theorem dX10_putBody_30 : decode cX10_putBody 30 = .ok (.iconst 0, 1) := by decide +kernel
theorem dX10_putBody_31 : decode cX10_putBody 31 = .ok (.istore 6, 2) := by decide +kernel
theorem dX10_putBody_33 : decode cX10_putBody 33 = .ok (.aload_n 0, 1) := by decide +kernel
theorem dX10_putBody_34 : decode cX10_putBody 34 = .ok (.iload_n 2, 1) := by decide +kernel
theorem dX10_putBody_35 : decode cX10_putBody 35 = .ok (.iload 6, 2) := by decide +kernel
theorem dX10_putBody_37 : decode cX10_putBody 37 = .ok (.ifCond .eq 7, 3) := by decide +kernel
theorem dX10_putBody_40 : decode cX10_putBody 40 = .ok (.iconst 1, 1) := by decide +kernel
theorem dX10_putBody_41 : decode cX10_putBody 41 = .ok (.goto 4, 3) := by decide +kernel
theorem dX10_putBody_44 : decode cX10_putBody 44 = .ok (.iconst 0, 1) := by decide +kernel
theorem dX10_putBody_45 : decode cX10_putBody 45 = .ok (.invokevirtual 126, 3) := by decide +kernel
theorem dX10_putBody_48 : decode cX10_putBody 48 = .ok (.istore 7, 2) := by decide +kernel
theorem dX10_putBody_50 : decode cX10_putBody 50 = .ok (.aload_n 0, 1) := by decide +kernel
theorem dX10_putBody_51 : decode cX10_putBody 51 = .ok (.getfield 36, 3) := by decide +kernel
theorem dX10_putBody_54 : decode cX10_putBody 54 = .ok (.iload_n 2, 1) := by decide +kernel
theorem dX10_putBody_55 : decode cX10_putBody 55 = .ok (.iaload, 1) := by decide +kernel
theorem dX10_putBody_56 : decode cX10_putBody 56 = .ok (.istore 8, 2) := by decide +kernel
theorem dX10_putBody_58 : decode cX10_putBody 58 = .ok (.iload_n 3, 1) := by decide +kernel
theorem dX10_putBody_59 : decode cX10_putBody 59 = .ok (.ifCond .ne 165, 3) := by decide +kernel
theorem dX10_putBody_62 : decode cX10_putBody 62 = .ok (.aload_n 0, 1) := by decide +kernel
theorem dX10_putBody_63 : decode cX10_putBody 63 = .ok (.getfield 63, 3) := by decide +kernel
theorem dX10_putBody_66 : decode cX10_putBody 66 = .ok (.iload_n 1, 1) := by decide +kernel
theorem dX10_putBody_67 : decode cX10_putBody 67 = .ok (.iload 8, 2) := by decide +kernel
theorem dX10_putBody_69 : decode cX10_putBody 69 = .ok (.iastore, 1) := by decide +kernel
theorem dX10_putBody_70 : decode cX10_putBody 70 = .ok (.iload 6, 2) := by decide +kernel
theorem dX10_putBody_72 : decode cX10_putBody 72 = .ok (.ifCond .eq 38, 3) := by decide +kernel
theorem dX10_putBody_75 : decode cX10_putBody 75 = .ok (.iload 8, 2) := by decide +kernel
theorem dX10_putBody_77 : decode cX10_putBody 77 = .ok (.iload 4, 2) := by decide +kernel
theorem dX10_putBody_79 : decode cX10_putBody 79 = .ok (.if_icmp .eq 14, 3) := by decide +kernel
theorem dX10_putBody_82 : decode cX10_putBody 82 = .ok (.aload_n 0, 1) := by decide +kernel
theorem dX10_putBody_83 : decode cX10_putBody 83 = .ok (.iload 7, 2) := by decide +kernel
theorem dX10_putBody_85 : decode cX10_putBody 85 = .ok (.iload 4, 2) := by decide +kernel
theorem dX10_putBody_87 : decode cX10_putBody 87 = .ok (.invokevirtual 141, 3) := by decide +kernel
theorem dX10_putBody_90 : decode cX10_putBody 90 = .ok (.ifCond .ne 20, 3) := by decide +kernel
theorem dX10_putBody_93 : decode cX10_putBody 93 = .ok (.aload_n 0, 1) := by decide +kernel
theorem dX10_putBody_94 : decode cX10_putBody 94 = .ok (.getfield 57, 3) := by decide +kernel
theorem dX10_putBody_97 : decode cX10_putBody 97 = .ok (.iload_n 1, 1) := by decide +kernel
theorem dX10_putBody_98 : decode cX10_putBody 98 = .ok (.bipush 13, 2) := by decide +kernel
theorem dX10_putBody_100 : decode cX10_putBody 100 = .ok (.iastore, 1) := by decide +kernel
theorem dX10_putBody_101 : decode cX10_putBody 101 = .ok (.aload_n 0, 1) := by decide +kernel
theorem dX10_putBody_102 : decode cX10_putBody 102 = .ok (.iload 7, 2) := by decide +kernel
theorem dX10_putBody_104 : decode cX10_putBody 104 = .ok (.putfield 151, 3) := by decide +kernel
theorem dX10_putBody_107 : decode cX10_putBody 107 = .ok (.goto 209, 3) := by decide +kernel
theorem dX10_putBody_110 : decode cX10_putBody 110 = .ok (.aload_n 0, 1) := by decide +kernel
theorem dX10_putBody_111 : decode cX10_putBody 111 = .ok (.iload 5, 2) := by decide +kernel
theorem dX10_putBody_113 : decode cX10_putBody 113 = .ok (.iload 8, 2) := by decide +kernel
theorem dX10_putBody_115 : decode cX10_putBody 115 = .ok (.invokevirtual 141, 3) := by decide +kernel
theorem dX10_putBody_118 : decode cX10_putBody 118 = .ok (.ifCond .ne 24, 3) := by decide +kernel
theorem dX10_putBody_121 : decode cX10_putBody 121 = .ok (.aload_n 0, 1) := by decide +kernel
theorem dX10_putBody_122 : decode cX10_putBody 122 = .ok (.getfield 57, 3) := by decide +kernel
theorem dX10_putBody_125 : decode cX10_putBody 125 = .ok (.iload_n 1, 1) := by decide +kernel
theorem dX10_putBody_126 : decode cX10_putBody 126 = .ok (.bipush 13, 2) := by decide +kernel
theorem dX10_putBody_128 : decode cX10_putBody 128 = .ok (.iastore, 1) := by decide +kernel
theorem dX10_putBody_129 : decode cX10_putBody 129 = .ok (.aload_n 0, 1) := by decide +kernel
theorem dX10_putBody_130 : decode cX10_putBody 130 = .ok (.iload 7, 2) := by decide +kernel
theorem dX10_putBody_132 : decode cX10_putBody 132 = .ok (.iload 4, 2) := by decide +kernel
theorem dX10_putBody_134 : decode cX10_putBody 134 = .ok (.iload 5, 2) := by decide +kernel
theorem dX10_putBody_136 : decode cX10_putBody 136 = .ok (.invokevirtual 184, 3) := by decide +kernel
theorem dX10_putBody_139 : decode cX10_putBody 139 = .ok (.goto 177, 3) := by decide +kernel
theorem dX10_putBody_142 : decode cX10_putBody 142 = .ok (.aload_n 0, 1) := by decide +kernel
theorem dX10_putBody_143 : decode cX10_putBody 143 = .ok (.iload 7, 2) := by decide +kernel
theorem dX10_putBody_145 : decode cX10_putBody 145 = .ok (.iload 5, 2) := by decide +kernel
theorem dX10_putBody_147 : decode cX10_putBody 147 = .ok (.invokevirtual 187, 3) := by decide +kernel
theorem dX10_putBody_150 : decode cX10_putBody 150 = .ok (.istore 9, 2) := by decide +kernel
theorem dX10_putBody_152 : decode cX10_putBody 152 = .ok (.aload_n 0, 1) := by decide +kernel
theorem dX10_putBody_153 : decode cX10_putBody 153 = .ok (.iload 9, 2) := by decide +kernel
theorem dX10_putBody_155 : decode cX10_putBody 155 = .ok (.bipush (-3), 2) := by decide +kernel
theorem dX10_putBody_157 : decode cX10_putBody 157 = .ok (.if_icmp .ne 8, 3) := by decide +kernel
theorem dX10_putBody_160 : decode cX10_putBody 160 = .ok (.bipush (-3), 2) := by decide +kernel
theorem dX10_putBody_162 : decode cX10_putBody 162 = .ok (.goto 19, 3) := by decide +kernel
theorem dX10_putBody_165 : decode cX10_putBody 165 = .ok (.aload_n 0, 1) := by decide +kernel
theorem dX10_putBody_166 : decode cX10_putBody 166 = .ok (.iconst 1, 1) := by decide +kernel
theorem dX10_putBody_167 : decode cX10_putBody 167 = .ok (.iconst 0, 1) := by decide +kernel
theorem dX10_putBody_168 : decode cX10_putBody 168 = .ok (.iload 9, 2) := by decide +kernel
theorem dX10_putBody_170 : decode cX10_putBody 170 = .ok (.bipush (-2), 2) := by decide +kernel
theorem dX10_putBody_172 : decode cX10_putBody 172 = .ok (.bipush (-2), 2) := by decide +kernel
theorem dX10_putBody_174 : decode cX10_putBody 174 = .ok (.bipush (-2), 2) := by decide +kernel
theorem dX10_putBody_176 : decode cX10_putBody 176 = .ok (.bipush (-2), 2) := by decide +kernel
theorem dX10_putBody_178 : decode cX10_putBody 178 = .ok (.invokevirtual 132, 3) := by decide +kernel
theorem dX10_putBody_181 : decode cX10_putBody 181 = .ok (.putfield 151, 3) := by decide +kernel
theorem dX10_putBody_184 : decode cX10_putBody 184 = .ok (.aload_n 0, 1) := by decide +kernel
theorem dX10_putBody_185 : decode cX10_putBody 185 = .ok (.getfield 63, 3) := by decide +kernel
theorem dX10_putBody_188 : decode cX10_putBody 188 = .ok (.iload_n 1, 1) := by decide +kernel
theorem dX10_putBody_189 : decode cX10_putBody 189 = .ok (.iload 9, 2) := by decide +kernel
theorem dX10_putBody_191 : decode cX10_putBody 191 = .ok (.iastore, 1) := by decide +kernel
theorem dX10_putBody_192 : decode cX10_putBody 192 = .ok (.aload_n 0, 1) := by decide +kernel
theorem dX10_putBody_193 : decode cX10_putBody 193 = .ok (.getfield 151, 3) := by decide +kernel
theorem dX10_putBody_196 : decode cX10_putBody 196 = .ok (.bipush (-3), 2) := by decide +kernel
theorem dX10_putBody_198 : decode cX10_putBody 198 = .ok (.if_icmp .eq 23, 3) := by decide +kernel
theorem dX10_putBody_201 : decode cX10_putBody 201 = .ok (.aload_n 0, 1) := by decide +kernel
theorem dX10_putBody_202 : decode cX10_putBody 202 = .ok (.getfield 57, 3) := by decide +kernel
theorem dX10_putBody_205 : decode cX10_putBody 205 = .ok (.iload_n 1, 1) := by decide +kernel
theorem dX10_putBody_206 : decode cX10_putBody 206 = .ok (.bipush 12, 2) := by decide +kernel
theorem dX10_putBody_208 : decode cX10_putBody 208 = .ok (.iastore, 1) := by decide +kernel
theorem dX10_putBody_209 : decode cX10_putBody 209 = .ok (.aload_n 0, 1) := by decide +kernel
theorem dX10_putBody_210 : decode cX10_putBody 210 = .ok (.iload 7, 2) := by decide +kernel
theorem dX10_putBody_212 : decode cX10_putBody 212 = .ok (.iload 8, 2) := by decide +kernel
theorem dX10_putBody_214 : decode cX10_putBody 214 = .ok (.aload_n 0, 1) := by decide +kernel
theorem dX10_putBody_215 : decode cX10_putBody 215 = .ok (.getfield 151, 3) := by decide +kernel
theorem dX10_putBody_218 : decode cX10_putBody 218 = .ok (.invokevirtual 184, 3) := by decide +kernel
theorem dX10_putBody_221 : decode cX10_putBody 221 = .ok (.goto 95, 3) := by decide +kernel
theorem dX10_putBody_224 : decode cX10_putBody 224 = .ok (.iload_n 3, 1) := by decide +kernel
theorem dX10_putBody_225 : decode cX10_putBody 225 = .ok (.iconst 2, 1) := by decide +kernel
theorem dX10_putBody_226 : decode cX10_putBody 226 = .ok (.if_icmp .ne 26, 3) := by decide +kernel
theorem dX10_putBody_229 : decode cX10_putBody 229 = .ok (.aload_n 0, 1) := by decide +kernel
theorem dX10_putBody_230 : decode cX10_putBody 230 = .ok (.getfield 57, 3) := by decide +kernel
theorem dX10_putBody_233 : decode cX10_putBody 233 = .ok (.iload_n 1, 1) := by decide +kernel
theorem dX10_putBody_234 : decode cX10_putBody 234 = .ok (.bipush 13, 2) := by decide +kernel
theorem dX10_putBody_236 : decode cX10_putBody 236 = .ok (.iastore, 1) := by decide +kernel
theorem dX10_putBody_237 : decode cX10_putBody 237 = .ok (.aload_n 0, 1) := by decide +kernel
theorem dX10_putBody_238 : decode cX10_putBody 238 = .ok (.aload_n 0, 1) := by decide +kernel
theorem dX10_putBody_239 : decode cX10_putBody 239 = .ok (.getfield 151, 3) := by decide +kernel
theorem dX10_putBody_242 : decode cX10_putBody 242 = .ok (.iload 4, 2) := by decide +kernel
theorem dX10_putBody_244 : decode cX10_putBody 244 = .ok (.iload 5, 2) := by decide +kernel
theorem dX10_putBody_246 : decode cX10_putBody 246 = .ok (.invokevirtual 184, 3) := by decide +kernel
theorem dX10_putBody_249 : decode cX10_putBody 249 = .ok (.goto 67, 3) := by decide +kernel
theorem dX10_putBody_252 : decode cX10_putBody 252 = .ok (.aload_n 0, 1) := by decide +kernel
theorem dX10_putBody_253 : decode cX10_putBody 253 = .ok (.iload 6, 2) := by decide +kernel
theorem dX10_putBody_255 : decode cX10_putBody 255 = .ok (.ifCond .eq 29, 3) := by decide +kernel
theorem dX10_putBody_258 : decode cX10_putBody 258 = .ok (.aload_n 0, 1) := by decide +kernel
theorem dX10_putBody_259 : decode cX10_putBody 259 = .ok (.iload_n 2, 1) := by decide +kernel
theorem dX10_putBody_260 : decode cX10_putBody 260 = .ok (.aload_n 0, 1) := by decide +kernel
theorem dX10_putBody_261 : decode cX10_putBody 261 = .ok (.getfield 63, 3) := by decide +kernel
theorem dX10_putBody_264 : decode cX10_putBody 264 = .ok (.iload_n 1, 1) := by decide +kernel
theorem dX10_putBody_265 : decode cX10_putBody 265 = .ok (.iaload, 1) := by decide +kernel
theorem dX10_putBody_266 : decode cX10_putBody 266 = .ok (.aload_n 0, 1) := by decide +kernel
theorem dX10_putBody_267 : decode cX10_putBody 267 = .ok (.getfield 60, 3) := by decide +kernel
theorem dX10_putBody_270 : decode cX10_putBody 270 = .ok (.iload_n 1, 1) := by decide +kernel
theorem dX10_putBody_271 : decode cX10_putBody 271 = .ok (.iaload, 1) := by decide +kernel
theorem dX10_putBody_272 : decode cX10_putBody 272 = .ok (.aload_n 0, 1) := by decide +kernel
theorem dX10_putBody_273 : decode cX10_putBody 273 = .ok (.getfield 151, 3) := by decide +kernel
theorem dX10_putBody_276 : decode cX10_putBody 276 = .ok (.bipush (-2), 2) := by decide +kernel
theorem dX10_putBody_278 : decode cX10_putBody 278 = .ok (.invokevirtual 190, 3) := by decide +kernel
theorem dX10_putBody_281 : decode cX10_putBody 281 = .ok (.goto 22, 3) := by decide +kernel
theorem dX10_putBody_284 : decode cX10_putBody 284 = .ok (.aload_n 0, 1) := by decide +kernel
theorem dX10_putBody_285 : decode cX10_putBody 285 = .ok (.iload_n 2, 1) := by decide +kernel
theorem dX10_putBody_286 : decode cX10_putBody 286 = .ok (.aload_n 0, 1) := by decide +kernel
theorem dX10_putBody_287 : decode cX10_putBody 287 = .ok (.getfield 63, 3) := by decide +kernel
theorem dX10_putBody_290 : decode cX10_putBody 290 = .ok (.iload_n 1, 1) := by decide +kernel
theorem dX10_putBody_291 : decode cX10_putBody 291 = .ok (.iaload, 1) := by decide +kernel
theorem dX10_putBody_292 : decode cX10_putBody 292 = .ok (.aload_n 0, 1) := by decide +kernel
theorem dX10_putBody_293 : decode cX10_putBody 293 = .ok (.getfield 151, 3) := by decide +kernel
theorem dX10_putBody_296 : decode cX10_putBody 296 = .ok (.bipush (-2), 2) := by decide +kernel
theorem dX10_putBody_298 : decode cX10_putBody 298 = .ok (.bipush (-2), 2) := by decide +kernel
theorem dX10_putBody_300 : decode cX10_putBody 300 = .ok (.invokevirtual 190, 3) := by decide +kernel
theorem dX10_putBody_303 : decode cX10_putBody 303 = .ok (.putfield 151, 3) := by decide +kernel
theorem dX10_putBody_306 : decode cX10_putBody 306 = .ok (.aload_n 0, 1) := by decide +kernel
theorem dX10_putBody_307 : decode cX10_putBody 307 = .ok (.dup, 1) := by decide +kernel
theorem dX10_putBody_308 : decode cX10_putBody 308 = .ok (.getfield 145, 3) := by decide +kernel
theorem dX10_putBody_311 : decode cX10_putBody 311 = .ok (.iconst 1, 1) := by decide +kernel
theorem dX10_putBody_312 : decode cX10_putBody 312 = .ok (.isub, 1) := by decide +kernel
theorem dX10_putBody_313 : decode cX10_putBody 313 = .ok (.putfield 145, 3) := by decide +kernel
theorem dX10_putBody_316 : decode cX10_putBody 316 = .ok (.return_, 1) := by decide +kernel
theorem dX10_putParts_0 : decode cX10_putParts 0 = .ok (.aload_n 0, 1) := by decide +kernel
theorem dX10_putParts_1 : decode cX10_putParts 1 = .ok (.getfield 30, 3) := by decide +kernel
theorem dX10_putParts_4 : decode cX10_putParts 4 = .ok (.iload_n 2, 1) := by decide +kernel
theorem dX10_putParts_5 : decode cX10_putParts 5 = .ok (.iaload, 1) := by decide +kernel
theorem dX10_putParts_6 : decode cX10_putParts 6 = .ok (.invokestatic 122, 3) := by decide +kernel
theorem dX10_putParts_9 : decode cX10_putParts 9 = .ok (.istore 4, 2) := by decide +kernel
theorem dX10_putParts_11 : decode cX10_putParts 11 = .ok (.iload_n 3, 1) := by decide +kernel
theorem dX10_putParts_12 : decode cX10_putParts 12 = .ok (.iconst 1, 1) := by decide +kernel
theorem dX10_putParts_13 : decode cX10_putParts 13 = .ok (.if_icmp .ne 16, 3) := by decide +kernel
theorem dX10_putParts_16 : decode cX10_putParts 16 = .ok (.aload_n 0, 1) := by decide +kernel
theorem dX10_putParts_17 : decode cX10_putParts 17 = .ok (.getfield 60, 3) := by decide +kernel
theorem dX10_putParts_20 : decode cX10_putParts 20 = .ok (.iload_n 1, 1) := by decide +kernel
theorem dX10_putParts_21 : decode cX10_putParts 21 = .ok (.aload_n 0, 1) := by decide +kernel
theorem dX10_putParts_22 : decode cX10_putParts 22 = .ok (.getfield 151, 3) := by decide +kernel
theorem dX10_putParts_25 : decode cX10_putParts 25 = .ok (.iastore, 1) := by decide +kernel
theorem dX10_putParts_26 : decode cX10_putParts 26 = .ok (.goto 36, 3) := by decide +kernel
theorem dX10_putParts_29 : decode cX10_putParts 29 = .ok (.iload_n 3, 1) := by decide +kernel
theorem dX10_putParts_30 : decode cX10_putParts 30 = .ok (.iconst 2, 1) := by decide +kernel
theorem dX10_putParts_31 : decode cX10_putParts 31 = .ok (.if_icmp .ne 16, 3) := by decide +kernel
theorem dX10_putParts_34 : decode cX10_putParts 34 = .ok (.aload_n 0, 1) := by decide +kernel
theorem dX10_putParts_35 : decode cX10_putParts 35 = .ok (.getfield 63, 3) := by decide +kernel
theorem dX10_putParts_38 : decode cX10_putParts 38 = .ok (.iload_n 1, 1) := by decide +kernel
theorem dX10_putParts_39 : decode cX10_putParts 39 = .ok (.aload_n 0, 1) := by decide +kernel
theorem dX10_putParts_40 : decode cX10_putParts 40 = .ok (.getfield 151, 3) := by decide +kernel
theorem dX10_putParts_43 : decode cX10_putParts 43 = .ok (.iastore, 1) := by decide +kernel
theorem dX10_putParts_44 : decode cX10_putParts 44 = .ok (.goto 18, 3) := by decide +kernel
theorem dX10_putParts_47 : decode cX10_putParts 47 = .ok (.iload_n 3, 1) := by decide +kernel
theorem dX10_putParts_48 : decode cX10_putParts 48 = .ok (.iconst 3, 1) := by decide +kernel
theorem dX10_putParts_49 : decode cX10_putParts 49 = .ok (.if_icmp .ne 13, 3) := by decide +kernel
theorem dX10_putParts_52 : decode cX10_putParts 52 = .ok (.aload_n 0, 1) := by decide +kernel
theorem dX10_putParts_53 : decode cX10_putParts 53 = .ok (.getfield 66, 3) := by decide +kernel
theorem dX10_putParts_56 : decode cX10_putParts 56 = .ok (.iload_n 1, 1) := by decide +kernel
theorem dX10_putParts_57 : decode cX10_putParts 57 = .ok (.aload_n 0, 1) := by decide +kernel
theorem dX10_putParts_58 : decode cX10_putParts 58 = .ok (.getfield 151, 3) := by decide +kernel
theorem dX10_putParts_61 : decode cX10_putParts 61 = .ok (.iastore, 1) := by decide +kernel
theorem dX10_putParts_62 : decode cX10_putParts 62 = .ok (.iload_n 3, 1) := by decide +kernel
theorem dX10_putParts_63 : decode cX10_putParts 63 = .ok (.iload 4, 2) := by decide +kernel
theorem dX10_putParts_65 : decode cX10_putParts 65 = .ok (.if_icmp .ge 28, 3) := by decide +kernel
theorem dX10_putParts_68 : decode cX10_putParts 68 = .ok (.aload_n 0, 1) := by decide +kernel
theorem dX10_putParts_69 : decode cX10_putParts 69 = .ok (.aload_n 0, 1) := by decide +kernel
theorem dX10_putParts_70 : decode cX10_putParts 70 = .ok (.iload_n 2, 1) := by decide +kernel
theorem dX10_putParts_71 : decode cX10_putParts 71 = .ok (.iload_n 3, 1) := by decide +kernel
theorem dX10_putParts_72 : decode cX10_putParts 72 = .ok (.invokevirtual 126, 3) := by decide +kernel
theorem dX10_putParts_75 : decode cX10_putParts 75 = .ok (.aload_n 0, 1) := by decide +kernel
theorem dX10_putParts_76 : decode cX10_putParts 76 = .ok (.getfield 69, 3) := by decide +kernel
theorem dX10_putParts_79 : decode cX10_putParts 79 = .ok (.iload_n 1, 1) := by decide +kernel
theorem dX10_putParts_80 : decode cX10_putParts 80 = .ok (.iaload, 1) := by decide +kernel
theorem dX10_putParts_81 : decode cX10_putParts 81 = .ok (.aload_n 0, 1) := by decide +kernel
theorem dX10_putParts_82 : decode cX10_putParts 82 = .ok (.getfield 72, 3) := by decide +kernel
theorem dX10_putParts_85 : decode cX10_putParts 85 = .ok (.iload_n 1, 1) := by decide +kernel
theorem dX10_putParts_86 : decode cX10_putParts 86 = .ok (.iaload, 1) := by decide +kernel
theorem dX10_putParts_87 : decode cX10_putParts 87 = .ok (.invokevirtual 184, 3) := by decide +kernel
theorem dX10_putParts_90 : decode cX10_putParts 90 = .ok (.goto 46, 3) := by decide +kernel
theorem dX10_putParts_93 : decode cX10_putParts 93 = .ok (.aload_n 0, 1) := by decide +kernel
theorem dX10_putParts_94 : decode cX10_putParts 94 = .ok (.aload_n 0, 1) := by decide +kernel
theorem dX10_putParts_95 : decode cX10_putParts 95 = .ok (.iload_n 2, 1) := by decide +kernel
theorem dX10_putParts_96 : decode cX10_putParts 96 = .ok (.aload_n 0, 1) := by decide +kernel
theorem dX10_putParts_97 : decode cX10_putParts 97 = .ok (.getfield 36, 3) := by decide +kernel
theorem dX10_putParts_100 : decode cX10_putParts 100 = .ok (.iload_n 2, 1) := by decide +kernel
theorem dX10_putParts_101 : decode cX10_putParts 101 = .ok (.iaload, 1) := by decide +kernel
theorem dX10_putParts_102 : decode cX10_putParts 102 = .ok (.aload_n 0, 1) := by decide +kernel
theorem dX10_putParts_103 : decode cX10_putParts 103 = .ok (.getfield 60, 3) := by decide +kernel
theorem dX10_putParts_106 : decode cX10_putParts 106 = .ok (.iload_n 1, 1) := by decide +kernel
theorem dX10_putParts_107 : decode cX10_putParts 107 = .ok (.iaload, 1) := by decide +kernel
theorem dX10_putParts_108 : decode cX10_putParts 108 = .ok (.aload_n 0, 1) := by decide +kernel
theorem dX10_putParts_109 : decode cX10_putParts 109 = .ok (.getfield 63, 3) := by decide +kernel
theorem dX10_putParts_112 : decode cX10_putParts 112 = .ok (.iload_n 1, 1) := by decide +kernel
theorem dX10_putParts_113 : decode cX10_putParts 113 = .ok (.iaload, 1) := by decide +kernel
theorem dX10_putParts_114 : decode cX10_putParts 114 = .ok (.aload_n 0, 1) := by decide +kernel
theorem dX10_putParts_115 : decode cX10_putParts 115 = .ok (.getfield 66, 3) := by decide +kernel
theorem dX10_putParts_118 : decode cX10_putParts 118 = .ok (.iload_n 1, 1) := by decide +kernel
theorem dX10_putParts_119 : decode cX10_putParts 119 = .ok (.iaload, 1) := by decide +kernel
theorem dX10_putParts_120 : decode cX10_putParts 120 = .ok (.invokevirtual 190, 3) := by decide +kernel
theorem dX10_putParts_123 : decode cX10_putParts 123 = .ok (.putfield 151, 3) := by decide +kernel
theorem dX10_putParts_126 : decode cX10_putParts 126 = .ok (.aload_n 0, 1) := by decide +kernel
theorem dX10_putParts_127 : decode cX10_putParts 127 = .ok (.dup, 1) := by decide +kernel
theorem dX10_putParts_128 : decode cX10_putParts 128 = .ok (.getfield 145, 3) := by decide +kernel
theorem dX10_putParts_131 : decode cX10_putParts 131 = .ok (.iconst 1, 1) := by decide +kernel
theorem dX10_putParts_132 : decode cX10_putParts 132 = .ok (.isub, 1) := by decide +kernel
theorem dX10_putParts_133 : decode cX10_putParts 133 = .ok (.putfield 145, 3) := by decide +kernel
theorem dX10_putParts_136 : decode cX10_putParts 136 = .ok (.return_, 1) := by decide +kernel
theorem dX10_putTurn_0 : decode cX10_putTurn 0 = .ok (.aload_n 0, 1) := by decide +kernel
theorem dX10_putTurn_1 : decode cX10_putTurn 1 = .ok (.getfield 145, 3) := by decide +kernel
theorem dX10_putTurn_4 : decode cX10_putTurn 4 = .ok (.iconst 1, 1) := by decide +kernel
theorem dX10_putTurn_5 : decode cX10_putTurn 5 = .ok (.isub, 1) := by decide +kernel
theorem dX10_putTurn_6 : decode cX10_putTurn 6 = .ok (.istore_n 1, 1) := by decide +kernel
theorem dX10_putTurn_7 : decode cX10_putTurn 7 = .ok (.aload_n 0, 1) := by decide +kernel
theorem dX10_putTurn_8 : decode cX10_putTurn 8 = .ok (.getfield 54, 3) := by decide +kernel
theorem dX10_putTurn_11 : decode cX10_putTurn 11 = .ok (.iload_n 1, 1) := by decide +kernel
theorem dX10_putTurn_12 : decode cX10_putTurn 12 = .ok (.iaload, 1) := by decide +kernel
theorem dX10_putTurn_13 : decode cX10_putTurn 13 = .ok (.istore_n 2, 1) := by decide +kernel
theorem dX10_putTurn_14 : decode cX10_putTurn 14 = .ok (.aload_n 0, 1) := by decide +kernel
theorem dX10_putTurn_15 : decode cX10_putTurn 15 = .ok (.getfield 57, 3) := by decide +kernel
theorem dX10_putTurn_18 : decode cX10_putTurn 18 = .ok (.iload_n 1, 1) := by decide +kernel
theorem dX10_putTurn_19 : decode cX10_putTurn 19 = .ok (.iaload, 1) := by decide +kernel
theorem dX10_putTurn_20 : decode cX10_putTurn 20 = .ok (.istore_n 3, 1) := by decide +kernel
theorem dX10_putTurn_21 : decode cX10_putTurn 21 = .ok (.aload_n 0, 1) := by decide +kernel
theorem dX10_putTurn_22 : decode cX10_putTurn 22 = .ok (.getfield 57, 3) := by decide +kernel
theorem dX10_putTurn_25 : decode cX10_putTurn 25 = .ok (.iload_n 1, 1) := by decide +kernel
theorem dX10_putTurn_26 : decode cX10_putTurn 26 = .ok (.dup2, 1) := by decide +kernel
theorem dX10_putTurn_27 : decode cX10_putTurn 27 = .ok (.iaload, 1) := by decide +kernel
theorem dX10_putTurn_28 : decode cX10_putTurn 28 = .ok (.iconst 1, 1) := by decide +kernel
theorem dX10_putTurn_29 : decode cX10_putTurn 29 = .ok (.iadd, 1) := by decide +kernel
theorem dX10_putTurn_30 : decode cX10_putTurn 30 = .ok (.iastore, 1) := by decide +kernel
theorem dX10_putTurn_31 : decode cX10_putTurn 31 = .ok (.aload_n 0, 1) := by decide +kernel
theorem dX10_putTurn_32 : decode cX10_putTurn 32 = .ok (.getfield 30, 3) := by decide +kernel
theorem dX10_putTurn_35 : decode cX10_putTurn 35 = .ok (.iload_n 2, 1) := by decide +kernel
theorem dX10_putTurn_36 : decode cX10_putTurn 36 = .ok (.iaload, 1) := by decide +kernel
theorem dX10_putTurn_37 : decode cX10_putTurn 37 = .ok (.istore 4, 2) := by decide +kernel
theorem dX10_putTurn_39 : decode cX10_putTurn 39 = .ok (.iload_n 3, 1) := by decide +kernel
theorem dX10_putTurn_40 : decode cX10_putTurn 40 = .ok (.ifCond .ne 35, 3) := by decide +kernel
theorem dX10_putTurn_43 : decode cX10_putTurn 43 = .ok (.aload_n 0, 1) := by decide +kernel
theorem dX10_putTurn_44 : decode cX10_putTurn 44 = .ok (.iload_n 2, 1) := by decide +kernel
theorem dX10_putTurn_45 : decode cX10_putTurn 45 = .ok (.aload_n 0, 1) := by decide +kernel
theorem dX10_putTurn_46 : decode cX10_putTurn 46 = .ok (.getfield 69, 3) := by decide +kernel
theorem dX10_putTurn_49 : decode cX10_putTurn 49 = .ok (.iload_n 1, 1) := by decide +kernel
theorem dX10_putTurn_50 : decode cX10_putTurn 50 = .ok (.iaload, 1) := by decide +kernel
theorem dX10_putTurn_51 : decode cX10_putTurn 51 = .ok (.invokevirtual 141, 3) := by decide +kernel
theorem dX10_putTurn_54 : decode cX10_putTurn 54 = .ok (.ifCond .ne 21, 3) := by decide +kernel
theorem dX10_putTurn_57 : decode cX10_putTurn 57 = .ok (.aload_n 0, 1) := by decide +kernel
theorem dX10_putTurn_58 : decode cX10_putTurn 58 = .ok (.iload_n 2, 1) := by decide +kernel
theorem dX10_putTurn_59 : decode cX10_putTurn 59 = .ok (.putfield 151, 3) := by decide +kernel
theorem dX10_putTurn_62 : decode cX10_putTurn 62 = .ok (.aload_n 0, 1) := by decide +kernel
theorem dX10_putTurn_63 : decode cX10_putTurn 63 = .ok (.dup, 1) := by decide +kernel
theorem dX10_putTurn_64 : decode cX10_putTurn 64 = .ok (.getfield 145, 3) := by decide +kernel
theorem dX10_putTurn_67 : decode cX10_putTurn 67 = .ok (.iconst 1, 1) := by decide +kernel
theorem dX10_putTurn_68 : decode cX10_putTurn 68 = .ok (.isub, 1) := by decide +kernel
theorem dX10_putTurn_69 : decode cX10_putTurn 69 = .ok (.putfield 145, 3) := by decide +kernel
theorem dX10_putTurn_72 : decode cX10_putTurn 72 = .ok (.goto 156, 3) := by decide +kernel
theorem dX10_putTurn_75 : decode cX10_putTurn 75 = .ok (.iload 4, 2) := by decide +kernel
theorem dX10_putTurn_77 : decode cX10_putTurn 77 = .ok (.iconst 1, 1) := by decide +kernel
theorem dX10_putTurn_78 : decode cX10_putTurn 78 = .ok (.if_icmp .ne 26, 3) := by decide +kernel
theorem dX10_putTurn_81 : decode cX10_putTurn 81 = .ok (.aload_n 0, 1) := by decide +kernel
theorem dX10_putTurn_82 : decode cX10_putTurn 82 = .ok (.aload_n 0, 1) := by decide +kernel
theorem dX10_putTurn_83 : decode cX10_putTurn 83 = .ok (.getfield 72, 3) := by decide +kernel
theorem dX10_putTurn_86 : decode cX10_putTurn 86 = .ok (.iload_n 1, 1) := by decide +kernel
theorem dX10_putTurn_87 : decode cX10_putTurn 87 = .ok (.iaload, 1) := by decide +kernel
theorem dX10_putTurn_88 : decode cX10_putTurn 88 = .ok (.putfield 151, 3) := by decide +kernel
theorem dX10_putTurn_91 : decode cX10_putTurn 91 = .ok (.aload_n 0, 1) := by decide +kernel
theorem dX10_putTurn_92 : decode cX10_putTurn 92 = .ok (.dup, 1) := by decide +kernel
theorem dX10_putTurn_93 : decode cX10_putTurn 93 = .ok (.getfield 145, 3) := by decide +kernel
theorem dX10_putTurn_96 : decode cX10_putTurn 96 = .ok (.iconst 1, 1) := by decide +kernel
theorem dX10_putTurn_97 : decode cX10_putTurn 97 = .ok (.isub, 1) := by decide +kernel
theorem dX10_putTurn_98 : decode cX10_putTurn 98 = .ok (.putfield 145, 3) := by decide +kernel
theorem dX10_putTurn_101 : decode cX10_putTurn 101 = .ok (.goto 127, 3) := by decide +kernel
theorem dX10_putTurn_104 : decode cX10_putTurn 104 = .ok (.iload 4, 2) := by decide +kernel
theorem dX10_putTurn_106 : decode cX10_putTurn 106 = .ok (.iconst 2, 1) := by decide +kernel
theorem dX10_putTurn_107 : decode cX10_putTurn 107 = .ok (.if_icmp .ne 26, 3) := by decide +kernel
theorem dX10_putTurn_110 : decode cX10_putTurn 110 = .ok (.aload_n 0, 1) := by decide +kernel
theorem dX10_putTurn_111 : decode cX10_putTurn 111 = .ok (.iload_n 1, 1) := by decide +kernel
theorem dX10_putTurn_112 : decode cX10_putTurn 112 = .ok (.iload_n 2, 1) := by decide +kernel
theorem dX10_putTurn_113 : decode cX10_putTurn 113 = .ok (.iload_n 3, 1) := by decide +kernel
theorem dX10_putTurn_114 : decode cX10_putTurn 114 = .ok (.bipush 9, 2) := by decide +kernel
theorem dX10_putTurn_116 : decode cX10_putTurn 116 = .ok (.if_icmp .le 10, 3) := by decide +kernel
theorem dX10_putTurn_119 : decode cX10_putTurn 119 = .ok (.iload_n 3, 1) := by decide +kernel
theorem dX10_putTurn_120 : decode cX10_putTurn 120 = .ok (.bipush 10, 2) := by decide +kernel
theorem dX10_putTurn_122 : decode cX10_putTurn 122 = .ok (.isub, 1) := by decide +kernel
theorem dX10_putTurn_123 : decode cX10_putTurn 123 = .ok (.goto 4, 3) := by decide +kernel
theorem dX10_putTurn_126 : decode cX10_putTurn 126 = .ok (.iconst 0, 1) := by decide +kernel
theorem dX10_putTurn_127 : decode cX10_putTurn 127 = .ok (.invokevirtual 194, 3) := by decide +kernel
theorem dX10_putTurn_130 : decode cX10_putTurn 130 = .ok (.goto 98, 3) := by decide +kernel
theorem dX10_putTurn_133 : decode cX10_putTurn 133 = .ok (.iload 4, 2) := by decide +kernel
theorem dX10_putTurn_135 : decode cX10_putTurn 135 = .ok (.iconst 4, 1) := by decide +kernel
theorem dX10_putTurn_136 : decode cX10_putTurn 136 = .ok (.if_icmp .ne 32, 3) := by decide +kernel
theorem dX10_putTurn_139 : decode cX10_putTurn 139 = .ok (.iload_n 3, 1) := by decide +kernel
theorem dX10_putTurn_140 : decode cX10_putTurn 140 = .ok (.ifCond .ne 28, 3) := by decide +kernel
theorem dX10_putTurn_143 : decode cX10_putTurn 143 = .ok (.aload_n 0, 1) := by decide +kernel
theorem dX10_putTurn_144 : decode cX10_putTurn 144 = .ok (.aload_n 0, 1) := by decide +kernel
theorem dX10_putTurn_145 : decode cX10_putTurn 145 = .ok (.iload_n 2, 1) := by decide +kernel
theorem dX10_putTurn_146 : decode cX10_putTurn 146 = .ok (.iconst 0, 1) := by decide +kernel
theorem dX10_putTurn_147 : decode cX10_putTurn 147 = .ok (.invokevirtual 126, 3) := by decide +kernel
theorem dX10_putTurn_150 : decode cX10_putTurn 150 = .ok (.aload_n 0, 1) := by decide +kernel
theorem dX10_putTurn_151 : decode cX10_putTurn 151 = .ok (.getfield 69, 3) := by decide +kernel
theorem dX10_putTurn_154 : decode cX10_putTurn 154 = .ok (.iload_n 1, 1) := by decide +kernel
theorem dX10_putTurn_155 : decode cX10_putTurn 155 = .ok (.iaload, 1) := by decide +kernel
theorem dX10_putTurn_156 : decode cX10_putTurn 156 = .ok (.aload_n 0, 1) := by decide +kernel
theorem dX10_putTurn_157 : decode cX10_putTurn 157 = .ok (.getfield 72, 3) := by decide +kernel
theorem dX10_putTurn_160 : decode cX10_putTurn 160 = .ok (.iload_n 1, 1) := by decide +kernel
theorem dX10_putTurn_161 : decode cX10_putTurn 161 = .ok (.iaload, 1) := by decide +kernel
theorem dX10_putTurn_162 : decode cX10_putTurn 162 = .ok (.invokevirtual 184, 3) := by decide +kernel
theorem dX10_putTurn_165 : decode cX10_putTurn 165 = .ok (.goto 63, 3) := by decide +kernel
theorem dX10_putTurn_168 : decode cX10_putTurn 168 = .ok (.iload 4, 2) := by decide +kernel
theorem dX10_putTurn_170 : decode cX10_putTurn 170 = .ok (.iconst 4, 1) := by decide +kernel
theorem dX10_putTurn_171 : decode cX10_putTurn 171 = .ok (.if_icmp .ne 50, 3) := by decide +kernel
theorem dX10_putTurn_174 : decode cX10_putTurn 174 = .ok (.aload_n 0, 1) := by decide +kernel
theorem dX10_putTurn_175 : decode cX10_putTurn 175 = .ok (.getfield 60, 3) := by decide +kernel
theorem dX10_putTurn_178 : decode cX10_putTurn 178 = .ok (.iload_n 1, 1) := by decide +kernel
theorem dX10_putTurn_179 : decode cX10_putTurn 179 = .ok (.iload_n 3, 1) := by decide +kernel
theorem dX10_putTurn_180 : decode cX10_putTurn 180 = .ok (.iconst 1, 1) := by decide +kernel
theorem dX10_putTurn_181 : decode cX10_putTurn 181 = .ok (.if_icmp .ne 10, 3) := by decide +kernel
theorem dX10_putTurn_184 : decode cX10_putTurn 184 = .ok (.aload_n 0, 1) := by decide +kernel
theorem dX10_putTurn_185 : decode cX10_putTurn 185 = .ok (.getfield 151, 3) := by decide +kernel
theorem dX10_putTurn_188 : decode cX10_putTurn 188 = .ok (.goto 9, 3) := by decide +kernel
theorem dX10_putTurn_191 : decode cX10_putTurn 191 = .ok (.aload_n 0, 1) := by decide +kernel
theorem dX10_putTurn_192 : decode cX10_putTurn 192 = .ok (.getfield 60, 3) := by decide +kernel
theorem dX10_putTurn_195 : decode cX10_putTurn 195 = .ok (.iload_n 1, 1) := by decide +kernel
theorem dX10_putTurn_196 : decode cX10_putTurn 196 = .ok (.iaload, 1) := by decide +kernel
theorem dX10_putTurn_197 : decode cX10_putTurn 197 = .ok (.iastore, 1) := by decide +kernel
theorem dX10_putTurn_198 : decode cX10_putTurn 198 = .ok (.aload_n 0, 1) := by decide +kernel
theorem dX10_putTurn_199 : decode cX10_putTurn 199 = .ok (.iload_n 1, 1) := by decide +kernel
theorem dX10_putTurn_200 : decode cX10_putTurn 200 = .ok (.iload_n 2, 1) := by decide +kernel
theorem dX10_putTurn_201 : decode cX10_putTurn 201 = .ok (.iload_n 3, 1) := by decide +kernel
theorem dX10_putTurn_202 : decode cX10_putTurn 202 = .ok (.bipush 9, 2) := by decide +kernel
theorem dX10_putTurn_204 : decode cX10_putTurn 204 = .ok (.if_icmp .le 10, 3) := by decide +kernel
theorem dX10_putTurn_207 : decode cX10_putTurn 207 = .ok (.iload_n 3, 1) := by decide +kernel
theorem dX10_putTurn_208 : decode cX10_putTurn 208 = .ok (.bipush 10, 2) := by decide +kernel
theorem dX10_putTurn_210 : decode cX10_putTurn 210 = .ok (.isub, 1) := by decide +kernel
theorem dX10_putTurn_211 : decode cX10_putTurn 211 = .ok (.goto 4, 3) := by decide +kernel
theorem dX10_putTurn_214 : decode cX10_putTurn 214 = .ok (.iconst 0, 1) := by decide +kernel
theorem dX10_putTurn_215 : decode cX10_putTurn 215 = .ok (.invokevirtual 194, 3) := by decide +kernel
theorem dX10_putTurn_218 : decode cX10_putTurn 218 = .ok (.goto 10, 3) := by decide +kernel
theorem dX10_putTurn_221 : decode cX10_putTurn 221 = .ok (.aload_n 0, 1) := by decide +kernel
theorem dX10_putTurn_222 : decode cX10_putTurn 222 = .ok (.iload_n 1, 1) := by decide +kernel
theorem dX10_putTurn_223 : decode cX10_putTurn 223 = .ok (.iload_n 2, 1) := by decide +kernel
theorem dX10_putTurn_224 : decode cX10_putTurn 224 = .ok (.iload_n 3, 1) := by decide +kernel
theorem dX10_putTurn_225 : decode cX10_putTurn 225 = .ok (.invokevirtual 197, 3) := by decide +kernel
theorem dX10_putTurn_228 : decode cX10_putTurn 228 = .ok (.return_, 1) := by decide +kernel
theorem dX10_putOf_0 : decode cX10_putOf 0 = .ok (.aload_n 0, 1) := by decide +kernel
theorem dX10_putOf_1 : decode cX10_putOf 1 = .ok (.getfield 119, 3) := by decide +kernel
theorem dX10_putOf_4 : decode cX10_putOf 4 = .ok (.istore 4, 2) := by decide +kernel
theorem dX10_putOf_6 : decode cX10_putOf 6 = .ok (.aload_n 0, 1) := by decide +kernel
theorem dX10_putOf_7 : decode cX10_putOf 7 = .ok (.iconst 0, 1) := by decide +kernel
theorem dX10_putOf_8 : decode cX10_putOf 8 = .ok (.putfield 145, 3) := by decide +kernel
theorem dX10_putOf_11 : decode cX10_putOf 11 = .ok (.aload_n 0, 1) := by decide +kernel
theorem dX10_putOf_12 : decode cX10_putOf 12 = .ok (.iload_n 1, 1) := by decide +kernel
theorem dX10_putOf_13 : decode cX10_putOf 13 = .ok (.putfield 151, 3) := by decide +kernel
theorem dX10_putOf_16 : decode cX10_putOf 16 = .ok (.aload_n 0, 1) := by decide +kernel
theorem dX10_putOf_17 : decode cX10_putOf 17 = .ok (.iload_n 1, 1) := by decide +kernel
theorem dX10_putOf_18 : decode cX10_putOf 18 = .ok (.iload_n 2, 1) := by decide +kernel
theorem dX10_putOf_19 : decode cX10_putOf 19 = .ok (.iload_n 3, 1) := by decide +kernel
theorem dX10_putOf_20 : decode cX10_putOf 20 = .ok (.invokevirtual 184, 3) := by decide +kernel
theorem dX10_putOf_23 : decode cX10_putOf 23 = .ok (.aload_n 0, 1) := by decide +kernel
theorem dX10_putOf_24 : decode cX10_putOf 24 = .ok (.getfield 145, 3) := by decide +kernel
theorem dX10_putOf_27 : decode cX10_putOf 27 = .ok (.ifCond .le 19, 3) := by decide +kernel
theorem dX10_putOf_30 : decode cX10_putOf 30 = .ok (.aload_n 0, 1) := by decide +kernel
theorem dX10_putOf_31 : decode cX10_putOf 31 = .ok (.getfield 151, 3) := by decide +kernel
theorem dX10_putOf_34 : decode cX10_putOf 34 = .ok (.bipush (-3), 2) := by decide +kernel
theorem dX10_putOf_36 : decode cX10_putOf 36 = .ok (.if_icmp .eq 10, 3) := by decide +kernel
theorem dX10_putOf_39 : decode cX10_putOf 39 = .ok (.aload_n 0, 1) := by decide +kernel
theorem dX10_putOf_40 : decode cX10_putOf 40 = .ok (.invokevirtual 200, 3) := by decide +kernel
