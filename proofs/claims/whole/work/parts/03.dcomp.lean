theorem dX0_init_0 : decode cX0_init 0 = .ok (.aload_n 0, 1) := by decide +kernel
theorem dX0_init_1 : decode cX0_init 1 = .ok (.invokespecial 3, 3) := by decide +kernel
theorem dX0_init_4 : decode cX0_init 4 = .ok (.aload_n 0, 1) := by decide +kernel
theorem dX0_init_5 : decode cX0_init 5 = .ok (.bipush 30, 2) := by decide +kernel
theorem dX0_init_7 : decode cX0_init 7 = .ok (.newarray .int, 2) := by decide +kernel
theorem dX0_init_9 : decode cX0_init 9 = .ok (.putfield 11, 3) := by decide +kernel
theorem dX0_init_12 : decode cX0_init 12 = .ok (.return_, 1) := by decide +kernel
theorem dX0_forget_0 : decode cX0_forget 0 = .ok (.aload_n 0, 1) := by decide +kernel
theorem dX0_forget_1 : decode cX0_forget 1 = .ok (.iconst 0, 1) := by decide +kernel
theorem dX0_forget_2 : decode cX0_forget 2 = .ok (.putfield 15, 3) := by decide +kernel
theorem dX0_forget_5 : decode cX0_forget 5 = .ok (.aload_n 0, 1) := by decide +kernel
theorem dX0_forget_6 : decode cX0_forget 6 = .ok (.iconst 0, 1) := by decide +kernel
theorem dX0_forget_7 : decode cX0_forget 7 = .ok (.putfield 19, 3) := by decide +kernel
theorem dX0_forget_10 : decode cX0_forget 10 = .ok (.return_, 1) := by decide +kernel
set_option maxRecDepth 20000 in
theorem ggX0_doAct_X0_run : GoodIn wsX0_doAct wsX0_run := goodIn_r _ [8, 4, 9, 3, 1, 2, 10, 11, 7, 12, 13, 14, 15, 16, 17, 18, 19, 20, 21, 22, 23, 24, 5, 6, 25, 26, 27, 28, 29, 30, 31, 32, 33, 34] (by decide +kernel) (by decide +kernel)
set_option maxRecDepth 20000 in
theorem gX0_doAct_X0_run : GoodIn wsX0_doAct (va_wsS RX0 32 yX0_run wsX0_run) := goodIn_app (goodIn_of _ (by decide +kernel)) ggX0_doAct_X0_run
theorem dX0_doAct_0 : decode cX0_doAct 0 = .ok (.aload_n 0, 1) := by decide +kernel
theorem dX0_doAct_1 : decode cX0_doAct 1 = .ok (.iload_n 1, 1) := by decide +kernel
theorem dX0_doAct_2 : decode cX0_doAct 2 = .ok (.putfield 23, 3) := by decide +kernel
theorem dX0_doAct_5 : decode cX0_doAct 5 = .ok (.aload_n 0, 1) := by decide +kernel
theorem dX0_doAct_6 : decode cX0_doAct 6 = .ok (.iload_n 2, 1) := by decide +kernel
theorem dX0_doAct_7 : decode cX0_doAct 7 = .ok (.putfield 26, 3) := by decide +kernel
theorem dX0_doAct_10 : decode cX0_doAct 10 = .ok (.aload_n 0, 1) := by decide +kernel
theorem dX0_doAct_11 : decode cX0_doAct 11 = .ok (.iload_n 3, 1) := by decide +kernel
theorem dX0_doAct_12 : decode cX0_doAct 12 = .ok (.putfield 29, 3) := by decide +kernel
theorem dX0_doAct_15 : decode cX0_doAct 15 = .ok (.aload_n 0, 1) := by decide +kernel
theorem dX0_doAct_16 : decode cX0_doAct 16 = .ok (.aload_n 0, 1) := by decide +kernel
theorem dX0_doAct_17 : decode cX0_doAct 17 = .ok (.getfield 29, 3) := by decide +kernel
theorem dX0_doAct_20 : decode cX0_doAct 20 = .ok (.iload 4, 2) := by decide +kernel
theorem dX0_doAct_22 : decode cX0_doAct 22 = .ok (.iload 5, 2) := by decide +kernel
theorem dX0_doAct_24 : decode cX0_doAct 24 = .ok (.iconst 0, 1) := by decide +kernel
theorem dX0_doAct_25 : decode cX0_doAct 25 = .ok (.invokestatic 32, 3) := by decide +kernel
theorem dX0_doAct_28 : decode cX0_doAct 28 = .ok (.istore 6, 2) := by decide +kernel
theorem dX0_doAct_30 : decode cX0_doAct 30 = .ok (.aload_n 0, 1) := by decide +kernel
theorem dX0_doAct_31 : decode cX0_doAct 31 = .ok (.getfield 19, 3) := by decide +kernel
theorem dX0_doAct_34 : decode cX0_doAct 34 = .ok (.ifCond .eq 8, 3) := by decide +kernel
theorem dX0_doAct_37 : decode cX0_doAct 37 = .ok (.bipush (-15), 2) := by decide +kernel
theorem dX0_doAct_39 : decode cX0_doAct 39 = .ok (.goto 5, 3) := by decide +kernel
theorem dX0_doAct_42 : decode cX0_doAct 42 = .ok (.iload 6, 2) := by decide +kernel
theorem dX0_doAct_44 : decode cX0_doAct 44 = .ok (.ireturn, 1) := by decide +kernel
set_option maxRecDepth 20000 in
theorem ggX0_run_X0_withBody : GoodIn wsX0_run wsX0_withBody := goodIn_r _ [9, 2, 10, 11, 12, 13, 14, 15] (by decide +kernel) (by decide +kernel)
set_option maxRecDepth 20000 in
theorem gX0_run_X0_withBody : GoodIn wsX0_run (va_wsS RX0 36 yX0_withBody wsX0_withBody) := goodIn_app (goodIn_of _ (by decide +kernel)) ggX0_run_X0_withBody
set_option maxRecDepth 20000 in
theorem ggX0_run_X0_note : GoodIn wsX0_run wsX0_note := goodIn_r _ [19, 20, 21, 28, 29, 30, 31, 32, 33] (by decide +kernel) (by decide +kernel)
set_option maxRecDepth 20000 in
theorem gX0_run_X0_note : GoodIn wsX0_run (wsV RX0 43 RX0 yX0_note wsX0_note) := goodIn_app (goodIn_of _ (by decide +kernel)) ggX0_run_X0_note
set_option maxRecDepth 20000 in
theorem ggX0_run_X0_run : GoodIn wsX0_run wsX0_run := goodIn_r _ [0, 1, 2, 3, 4, 5, 6, 7, 8, 9, 10, 11, 12, 13, 14, 15, 16, 17, 18, 19, 20, 21, 22, 23, 24, 25, 26, 27, 28, 29, 30, 31, 32, 33] (by decide +kernel) (by decide +kernel)
set_option maxRecDepth 20000 in
theorem gX0_run_X0_run : GoodIn wsX0_run (va_wsS RX0 32 yX0_run wsX0_run) := goodIn_app (goodIn_of _ (by decide +kernel)) ggX0_run_X0_run
set_option maxRecDepth 20000 in
theorem ggX0_run_X0_parted : GoodIn wsX0_run wsX0_parted := goodIn_r _ [27, 5, 4, 1, 28, 29, 30, 31, 32, 33] (by decide +kernel) (by decide +kernel)
set_option maxRecDepth 20000 in
theorem gX0_run_X0_parted : GoodIn wsX0_run (wsV RX0 50 RX0 yX0_parted wsX0_parted) := goodIn_app (goodIn_of _ (by decide +kernel)) ggX0_run_X0_parted
theorem dX0_run_0 : decode cX0_run 0 = .ok (.iload_n 1, 1) := by decide +kernel
theorem dX0_run_1 : decode cX0_run 1 = .ok (.iload_n 2, 1) := by decide +kernel
theorem dX0_run_2 : decode cX0_run 2 = .ok (.invokestatic 36, 3) := by decide +kernel
theorem dX0_run_5 : decode cX0_run 5 = .ok (.istore 5, 2) := by decide +kernel
theorem dX0_run_7 : decode cX0_run 7 = .ok (.aload_n 0, 1) := by decide +kernel
theorem dX0_run_8 : decode cX0_run 8 = .ok (.getfield 19, 3) := by decide +kernel
theorem dX0_run_11 : decode cX0_run 11 = .ok (.ifCond .ne 16, 3) := by decide +kernel
theorem dX0_run_14 : decode cX0_run 14 = .ok (.iload 5, 2) := by decide +kernel
theorem dX0_run_16 : decode cX0_run 16 = .ok (.iconst (-1), 1) := by decide +kernel
theorem dX0_run_17 : decode cX0_run 17 = .ok (.if_icmp .eq 10, 3) := by decide +kernel
theorem dX0_run_20 : decode cX0_run 20 = .ok (.iload 4, 2) := by decide +kernel
theorem dX0_run_22 : decode cX0_run 22 = .ok (.bipush 40, 2) := by decide +kernel
theorem dX0_run_24 : decode cX0_run 24 = .ok (.if_icmp .le 5, 3) := by decide +kernel
theorem dX0_run_27 : decode cX0_run 27 = .ok (.iconst 0, 1) := by decide +kernel
theorem dX0_run_28 : decode cX0_run 28 = .ok (.ireturn, 1) := by decide +kernel
theorem dX0_run_29 : decode cX0_run 29 = .ok (.getstatic 40, 3) := by decide +kernel
theorem dX0_run_32 : decode cX0_run 32 = .ok (.iload 5, 2) := by decide +kernel
theorem dX0_run_34 : decode cX0_run 34 = .ok (.iconst 4, 1) := by decide +kernel
theorem dX0_run_35 : decode cX0_run 35 = .ok (.imul, 1) := by decide +kernel
theorem dX0_run_36 : decode cX0_run 36 = .ok (.iload_n 2, 1) := by decide +kernel
theorem dX0_run_37 : decode cX0_run 37 = .ok (.iadd, 1) := by decide +kernel
theorem dX0_run_38 : decode cX0_run 38 = .ok (.iaload, 1) := by decide +kernel
theorem dX0_run_39 : decode cX0_run 39 = .ok (.istore 6, 2) := by decide +kernel
theorem dX0_run_41 : decode cX0_run 41 = .ok (.aload_n 0, 1) := by decide +kernel
theorem dX0_run_42 : decode cX0_run 42 = .ok (.iload 6, 2) := by decide +kernel
theorem dX0_run_44 : decode cX0_run 44 = .ok (.invokevirtual 43, 3) := by decide +kernel
theorem dX0_run_47 : decode cX0_run 47 = .ok (.aload_n 0, 1) := by decide +kernel
theorem dX0_run_48 : decode cX0_run 48 = .ok (.getfield 29, 3) := by decide +kernel
theorem dX0_run_51 : decode cX0_run 51 = .ok (.istore 7, 2) := by decide +kernel
theorem dX0_run_53 : decode cX0_run 53 = .ok (.getstatic 47, 3) := by decide +kernel
theorem dX0_run_56 : decode cX0_run 56 = .ok (.iload 5, 2) := by decide +kernel
theorem dX0_run_58 : decode cX0_run 58 = .ok (.iaload, 1) := by decide +kernel
theorem dX0_run_59 : decode cX0_run 59 = .ok (.istore 8, 2) := by decide +kernel
theorem dX0_run_61 : decode cX0_run 61 = .ok (.iload 4, 2) := by decide +kernel
theorem dX0_run_63 : decode cX0_run 63 = .ok (.iconst 1, 1) := by decide +kernel
theorem dX0_run_64 : decode cX0_run 64 = .ok (.iadd, 1) := by decide +kernel
theorem dX0_run_65 : decode cX0_run 65 = .ok (.istore 9, 2) := by decide +kernel
theorem dX0_run_67 : decode cX0_run 67 = .ok (.iload 6, 2) := by decide +kernel
theorem dX0_run_69 : decode cX0_run 69 = .ok (.tableswitch 430 10 61 #[223, 234, 250, 256, 430, 430, 430, 430, 430, 430, 270, 430, 430, 430, 430, 430, 430, 430, 430, 430, 283, 296, 430, 430, 430, 430, 430, 430, 430, 430, 321, 335, 430, 430, 430, 430, 430, 430, 430, 430, 360, 375, 430, 430, 430, 430, 430, 430, 430, 430, 391, 405], 223) := by decide +kernel
theorem dX0_run_292 : decode cX0_run 292 = .ok (.iload_n 3, 1) := by decide +kernel
theorem dX0_run_293 : decode cX0_run 293 = .ok (.iconst 3, 1) := by decide +kernel
theorem dX0_run_294 : decode cX0_run 294 = .ok (.imul, 1) := by decide +kernel
theorem dX0_run_295 : decode cX0_run 295 = .ok (.aload_n 0, 1) := by decide +kernel
theorem dX0_run_296 : decode cX0_run 296 = .ok (.getfield 23, 3) := by decide +kernel
theorem dX0_run_299 : decode cX0_run 299 = .ok (.iconst 2, 1) := by decide +kernel
theorem dX0_run_300 : decode cX0_run 300 = .ok (.imul, 1) := by decide +kernel
theorem dX0_run_301 : decode cX0_run 301 = .ok (.iadd, 1) := by decide +kernel
theorem dX0_run_302 : decode cX0_run 302 = .ok (.ireturn, 1) := by decide +kernel
theorem dX0_run_303 : decode cX0_run 303 = .ok (.aload_n 0, 1) := by decide +kernel
theorem dX0_run_304 : decode cX0_run 304 = .ok (.iload 7, 2) := by decide +kernel
theorem dX0_run_306 : decode cX0_run 306 = .ok (.iconst 0, 1) := by decide +kernel
theorem dX0_run_307 : decode cX0_run 307 = .ok (.iload_n 3, 1) := by decide +kernel
theorem dX0_run_308 : decode cX0_run 308 = .ok (.iload 9, 2) := by decide +kernel
theorem dX0_run_310 : decode cX0_run 310 = .ok (.invokestatic 32, 3) := by decide +kernel
theorem dX0_run_313 : decode cX0_run 313 = .ok (.aload_n 0, 1) := by decide +kernel
theorem dX0_run_314 : decode cX0_run 314 = .ok (.getfield 26, 3) := by decide +kernel
theorem dX0_run_317 : decode cX0_run 317 = .ok (.isub, 1) := by decide +kernel
theorem dX0_run_318 : decode cX0_run 318 = .ok (.ireturn, 1) := by decide +kernel
theorem dX0_run_319 : decode cX0_run 319 = .ok (.aload_n 0, 1) := by decide +kernel
theorem dX0_run_320 : decode cX0_run 320 = .ok (.iload_n 3, 1) := by decide +kernel
theorem dX0_run_321 : decode cX0_run 321 = .ok (.invokevirtual 50, 3) := by decide +kernel
theorem dX0_run_324 : decode cX0_run 324 = .ok (.ireturn, 1) := by decide +kernel
theorem dX0_run_325 : decode cX0_run 325 = .ok (.aload_n 0, 1) := by decide +kernel
theorem dX0_run_326 : decode cX0_run 326 = .ok (.iload 7, 2) := by decide +kernel
theorem dX0_run_328 : decode cX0_run 328 = .ok (.iconst 1, 1) := by decide +kernel
theorem dX0_run_329 : decode cX0_run 329 = .ok (.iload_n 3, 1) := by decide +kernel
theorem dX0_run_330 : decode cX0_run 330 = .ok (.iload 9, 2) := by decide +kernel
theorem dX0_run_332 : decode cX0_run 332 = .ok (.invokestatic 32, 3) := by decide +kernel
theorem dX0_run_335 : decode cX0_run 335 = .ok (.bipush 120, 2) := by decide +kernel
theorem dX0_run_337 : decode cX0_run 337 = .ok (.ixor, 1) := by decide +kernel
theorem dX0_run_338 : decode cX0_run 338 = .ok (.ireturn, 1) := by decide +kernel
theorem dX0_run_339 : decode cX0_run 339 = .ok (.aload_n 0, 1) := by decide +kernel
theorem dX0_run_340 : decode cX0_run 340 = .ok (.iload 8, 2) := by decide +kernel
theorem dX0_run_342 : decode cX0_run 342 = .ok (.iconst 1, 1) := by decide +kernel
theorem dX0_run_343 : decode cX0_run 343 = .ok (.iload_n 3, 1) := by decide +kernel
theorem dX0_run_344 : decode cX0_run 344 = .ok (.iload 9, 2) := by decide +kernel
theorem dX0_run_346 : decode cX0_run 346 = .ok (.invokestatic 32, 3) := by decide +kernel
theorem dX0_run_349 : decode cX0_run 349 = .ok (.iconst 4, 1) := by decide +kernel
theorem dX0_run_350 : decode cX0_run 350 = .ok (.imul, 1) := by decide +kernel
theorem dX0_run_351 : decode cX0_run 351 = .ok (.ireturn, 1) := by decide +kernel
theorem dX0_run_352 : decode cX0_run 352 = .ok (.iconst 0, 1) := by decide +kernel
theorem dX0_run_353 : decode cX0_run 353 = .ok (.aload_n 0, 1) := by decide +kernel
theorem dX0_run_354 : decode cX0_run 354 = .ok (.iload 8, 2) := by decide +kernel
theorem dX0_run_356 : decode cX0_run 356 = .ok (.iconst 0, 1) := by decide +kernel
theorem dX0_run_357 : decode cX0_run 357 = .ok (.iload_n 3, 1) := by decide +kernel
theorem dX0_run_358 : decode cX0_run 358 = .ok (.iload 9, 2) := by decide +kernel
theorem dX0_run_360 : decode cX0_run 360 = .ok (.invokestatic 32, 3) := by decide +kernel
theorem dX0_run_363 : decode cX0_run 363 = .ok (.isub, 1) := by decide +kernel
theorem dX0_run_364 : decode cX0_run 364 = .ok (.ireturn, 1) := by decide +kernel
theorem dX0_run_365 : decode cX0_run 365 = .ok (.aload_n 0, 1) := by decide +kernel
theorem dX0_run_366 : decode cX0_run 366 = .ok (.iload 8, 2) := by decide +kernel
theorem dX0_run_368 : decode cX0_run 368 = .ok (.iconst 3, 1) := by decide +kernel
theorem dX0_run_369 : decode cX0_run 369 = .ok (.iload_n 3, 1) := by decide +kernel
theorem dX0_run_370 : decode cX0_run 370 = .ok (.iload 9, 2) := by decide +kernel
theorem dX0_run_372 : decode cX0_run 372 = .ok (.invokestatic 32, 3) := by decide +kernel
theorem dX0_run_375 : decode cX0_run 375 = .ok (.aload_n 0, 1) := by decide +kernel
theorem dX0_run_376 : decode cX0_run 376 = .ok (.iload 7, 2) := by decide +kernel
theorem dX0_run_378 : decode cX0_run 378 = .ok (.iconst 2, 1) := by decide +kernel
theorem dX0_run_379 : decode cX0_run 379 = .ok (.aload_n 0, 1) := by decide +kernel
theorem dX0_run_380 : decode cX0_run 380 = .ok (.getfield 23, 3) := by decide +kernel
theorem dX0_run_383 : decode cX0_run 383 = .ok (.iload 9, 2) := by decide +kernel
theorem dX0_run_385 : decode cX0_run 385 = .ok (.invokestatic 32, 3) := by decide +kernel
theorem dX0_run_388 : decode cX0_run 388 = .ok (.iadd, 1) := by decide +kernel
theorem dX0_run_389 : decode cX0_run 389 = .ok (.ireturn, 1) := by decide +kernel
theorem dX0_run_390 : decode cX0_run 390 = .ok (.aload_n 0, 1) := by decide +kernel
theorem dX0_run_391 : decode cX0_run 391 = .ok (.iload 8, 2) := by decide +kernel
theorem dX0_run_393 : decode cX0_run 393 = .ok (.iconst 0, 1) := by decide +kernel
theorem dX0_run_394 : decode cX0_run 394 = .ok (.iload_n 3, 1) := by decide +kernel
theorem dX0_run_395 : decode cX0_run 395 = .ok (.iload 9, 2) := by decide +kernel
theorem dX0_run_397 : decode cX0_run 397 = .ok (.invokestatic 32, 3) := by decide +kernel
theorem dX0_run_400 : decode cX0_run 400 = .ok (.bipush 9, 2) := by decide +kernel
theorem dX0_run_402 : decode cX0_run 402 = .ok (.ixor, 1) := by decide +kernel
theorem dX0_run_403 : decode cX0_run 403 = .ok (.ireturn, 1) := by decide +kernel
theorem dX0_run_404 : decode cX0_run 404 = .ok (.aload_n 0, 1) := by decide +kernel
theorem dX0_run_405 : decode cX0_run 405 = .ok (.iload 8, 2) := by decide +kernel
theorem dX0_run_407 : decode cX0_run 407 = .ok (.iconst 1, 1) := by decide +kernel
theorem dX0_run_408 : decode cX0_run 408 = .ok (.iload_n 3, 1) := by decide +kernel
theorem dX0_run_409 : decode cX0_run 409 = .ok (.iload 9, 2) := by decide +kernel
theorem dX0_run_411 : decode cX0_run 411 = .ok (.invokestatic 32, 3) := by decide +kernel
theorem dX0_run_414 : decode cX0_run 414 = .ok (.aload_n 0, 1) := by decide +kernel
theorem dX0_run_415 : decode cX0_run 415 = .ok (.iload 7, 2) := by decide +kernel
theorem dX0_run_417 : decode cX0_run 417 = .ok (.iconst 0, 1) := by decide +kernel
theorem dX0_run_418 : decode cX0_run 418 = .ok (.aload_n 0, 1) := by decide +kernel
theorem dX0_run_419 : decode cX0_run 419 = .ok (.getfield 26, 3) := by decide +kernel
theorem dX0_run_422 : decode cX0_run 422 = .ok (.iload 9, 2) := by decide +kernel
theorem dX0_run_424 : decode cX0_run 424 = .ok (.invokestatic 32, 3) := by decide +kernel
theorem dX0_run_427 : decode cX0_run 427 = .ok (.iadd, 1) := by decide +kernel
theorem dX0_run_428 : decode cX0_run 428 = .ok (.ireturn, 1) := by decide +kernel
theorem dX0_run_429 : decode cX0_run 429 = .ok (.aload_n 0, 1) := by decide +kernel
theorem dX0_run_430 : decode cX0_run 430 = .ok (.iload 8, 2) := by decide +kernel
theorem dX0_run_432 : decode cX0_run 432 = .ok (.iconst 2, 1) := by decide +kernel
theorem dX0_run_433 : decode cX0_run 433 = .ok (.iload_n 3, 1) := by decide +kernel
theorem dX0_run_434 : decode cX0_run 434 = .ok (.iconst 2, 1) := by decide +kernel
theorem dX0_run_435 : decode cX0_run 435 = .ok (.imul, 1) := by decide +kernel
theorem dX0_run_436 : decode cX0_run 436 = .ok (.iload 9, 2) := by decide +kernel
theorem dX0_run_438 : decode cX0_run 438 = .ok (.invokestatic 32, 3) := by decide +kernel
theorem dX0_run_441 : decode cX0_run 441 = .ok (.iconst 3, 1) := by decide +kernel
theorem dX0_run_442 : decode cX0_run 442 = .ok (.isub, 1) := by decide +kernel
theorem dX0_run_443 : decode cX0_run 443 = .ok (.ireturn, 1) := by decide +kernel
theorem dX0_run_444 : decode cX0_run 444 = .ok (.aload_n 0, 1) := by decide +kernel
theorem dX0_run_445 : decode cX0_run 445 = .ok (.iload 8, 2) := by decide +kernel
theorem dX0_run_447 : decode cX0_run 447 = .ok (.iconst 0, 1) := by decide +kernel
theorem dX0_run_448 : decode cX0_run 448 = .ok (.iload_n 3, 1) := by decide +kernel
theorem dX0_run_449 : decode cX0_run 449 = .ok (.iload 9, 2) := by decide +kernel
theorem dX0_run_451 : decode cX0_run 451 = .ok (.invokestatic 32, 3) := by decide +kernel
theorem dX0_run_454 : decode cX0_run 454 = .ok (.aload_n 0, 1) := by decide +kernel
theorem dX0_run_455 : decode cX0_run 455 = .ok (.getfield 26, 3) := by decide +kernel
theorem dX0_run_458 : decode cX0_run 458 = .ok (.iadd, 1) := by decide +kernel
theorem dX0_run_459 : decode cX0_run 459 = .ok (.ireturn, 1) := by decide +kernel
theorem dX0_run_460 : decode cX0_run 460 = .ok (.bipush 7, 2) := by decide +kernel
theorem dX0_run_462 : decode cX0_run 462 = .ok (.aload_n 0, 1) := by decide +kernel
theorem dX0_run_463 : decode cX0_run 463 = .ok (.iload 8, 2) := by decide +kernel
theorem dX0_run_465 : decode cX0_run 465 = .ok (.iconst 3, 1) := by decide +kernel
theorem dX0_run_466 : decode cX0_run 466 = .ok (.iload_n 3, 1) := by decide +kernel
theorem dX0_run_467 : decode cX0_run 467 = .ok (.iload 9, 2) := by decide +kernel
theorem dX0_run_469 : decode cX0_run 469 = .ok (.invokestatic 32, 3) := by decide +kernel
theorem dX0_run_472 : decode cX0_run 472 = .ok (.isub, 1) := by decide +kernel
theorem dX0_run_473 : decode cX0_run 473 = .ok (.ireturn, 1) := by decide +kernel
theorem dX0_run_474 : decode cX0_run 474 = .ok (.aload_n 0, 1) := by decide +kernel
theorem dX0_run_475 : decode cX0_run 475 = .ok (.iload 8, 2) := by decide +kernel
theorem dX0_run_477 : decode cX0_run 477 = .ok (.iconst 2, 1) := by decide +kernel
theorem dX0_run_478 : decode cX0_run 478 = .ok (.iload_n 3, 1) := by decide +kernel
theorem dX0_run_479 : decode cX0_run 479 = .ok (.iload 9, 2) := by decide +kernel
theorem dX0_run_481 : decode cX0_run 481 = .ok (.invokestatic 32, 3) := by decide +kernel
theorem dX0_run_484 : decode cX0_run 484 = .ok (.aload_n 0, 1) := by decide +kernel
theorem dX0_run_485 : decode cX0_run 485 = .ok (.iload 7, 2) := by decide +kernel
theorem dX0_run_487 : decode cX0_run 487 = .ok (.iconst 0, 1) := by decide +kernel
theorem dX0_run_488 : decode cX0_run 488 = .ok (.aload_n 0, 1) := by decide +kernel
theorem dX0_run_489 : decode cX0_run 489 = .ok (.getfield 23, 3) := by decide +kernel
theorem dX0_run_492 : decode cX0_run 492 = .ok (.iload 9, 2) := by decide +kernel
theorem dX0_run_494 : decode cX0_run 494 = .ok (.invokestatic 32, 3) := by decide +kernel
theorem dX0_run_497 : decode cX0_run 497 = .ok (.isub, 1) := by decide +kernel
theorem dX0_run_498 : decode cX0_run 498 = .ok (.ireturn, 1) := by decide +kernel
theorem dX0_run_499 : decode cX0_run 499 = .ok (.iconst 0, 1) := by decide +kernel
theorem dX0_run_500 : decode cX0_run 500 = .ok (.ireturn, 1) := by decide +kernel
set_option maxRecDepth 20000 in
theorem ggX0_withBody_X5_isKind : GoodIn wsX0_withBody wsX5_isKind := goodIn_r _ [4, 5, 6, 3, 7] (by decide +kernel) (by decide +kernel)
set_option maxRecDepth 20000 in
theorem gX0_withBody_X5_isKind_n54 : GoodIn wsX0_withBody (wsX5_isKind) := ggX0_withBody_X5_isKind
theorem dX0_withBody_0 : decode cX0_withBody 0 = .ok (.iload_n 0, 1) := by decide +kernel
theorem dX0_withBody_1 : decode cX0_withBody 1 = .ok (.istore_n 2, 1) := by decide +kernel
theorem dX0_withBody_2 : decode cX0_withBody 2 = .ok (.iconst 0, 1) := by decide +kernel
theorem dX0_withBody_3 : decode cX0_withBody 3 = .ok (.istore_n 3, 1) := by decide +kernel
theorem dX0_withBody_4 : decode cX0_withBody 4 = .ok (.iload_n 3, 1) := by decide +kernel
theorem dX0_withBody_5 : decode cX0_withBody 5 = .ok (.bipush 6, 2) := by decide +kernel
theorem dX0_withBody_7 : decode cX0_withBody 7 = .ok (.if_icmp .ge 36, 3) := by decide +kernel
theorem dX0_withBody_10 : decode cX0_withBody 10 = .ok (.iload_n 2, 1) := by decide +kernel
theorem dX0_withBody_11 : decode cX0_withBody 11 = .ok (.invokestatic 54, 3) := by decide +kernel
theorem dX0_withBody_14 : decode cX0_withBody 14 = .ok (.ifCond .eq 29, 3) := by decide +kernel
theorem dX0_withBody_17 : decode cX0_withBody 17 = .ok (.getstatic 40, 3) := by decide +kernel
theorem dX0_withBody_20 : decode cX0_withBody 20 = .ok (.iload_n 2, 1) := by decide +kernel
theorem dX0_withBody_21 : decode cX0_withBody 21 = .ok (.iconst 4, 1) := by decide +kernel
theorem dX0_withBody_22 : decode cX0_withBody 22 = .ok (.imul, 1) := by decide +kernel
theorem dX0_withBody_23 : decode cX0_withBody 23 = .ok (.iload_n 1, 1) := by decide +kernel
theorem dX0_withBody_24 : decode cX0_withBody 24 = .ok (.iadd, 1) := by decide +kernel
theorem dX0_withBody_25 : decode cX0_withBody 25 = .ok (.iaload, 1) := by decide +kernel
theorem dX0_withBody_26 : decode cX0_withBody 26 = .ok (.ifCond .eq 5, 3) := by decide +kernel
theorem dX0_withBody_29 : decode cX0_withBody 29 = .ok (.iload_n 2, 1) := by decide +kernel
theorem dX0_withBody_30 : decode cX0_withBody 30 = .ok (.ireturn, 1) := by decide +kernel
theorem dX0_withBody_31 : decode cX0_withBody 31 = .ok (.getstatic 47, 3) := by decide +kernel
theorem dX0_withBody_34 : decode cX0_withBody 34 = .ok (.iload_n 2, 1) := by decide +kernel
theorem dX0_withBody_35 : decode cX0_withBody 35 = .ok (.iaload, 1) := by decide +kernel
theorem dX0_withBody_36 : decode cX0_withBody 36 = .ok (.istore_n 2, 1) := by decide +kernel
theorem dX0_withBody_37 : decode cX0_withBody 37 = .ok (.iinc 3 1, 3) := by decide +kernel
theorem dX0_withBody_40 : decode cX0_withBody 40 = .ok (.goto (-36), 3) := by decide +kernel
theorem dX0_withBody_43 : decode cX0_withBody 43 = .ok (.iconst (-1), 1) := by decide +kernel
theorem dX0_withBody_44 : decode cX0_withBody 44 = .ok (.ireturn, 1) := by decide +kernel
theorem dX0_note_0 : decode cX0_note 0 = .ok (.aload_n 0, 1) := by decide +kernel
theorem dX0_note_1 : decode cX0_note 1 = .ok (.getfield 15, 3) := by decide +kernel
theorem dX0_note_4 : decode cX0_note 4 = .ok (.bipush 30, 2) := by decide +kernel
theorem dX0_note_6 : decode cX0_note 6 = .ok (.if_icmp .ge 23, 3) := by decide +kernel
theorem dX0_note_9 : decode cX0_note 9 = .ok (.aload_n 0, 1) := by decide +kernel
theorem dX0_note_10 : decode cX0_note 10 = .ok (.getfield 11, 3) := by decide +kernel
theorem dX0_note_13 : decode cX0_note 13 = .ok (.aload_n 0, 1) := by decide +kernel
theorem dX0_note_14 : decode cX0_note 14 = .ok (.getfield 15, 3) := by decide +kernel
theorem dX0_note_17 : decode cX0_note 17 = .ok (.iload_n 1, 1) := by decide +kernel
theorem dX0_note_18 : decode cX0_note 18 = .ok (.iastore, 1) := by decide +kernel
theorem dX0_note_19 : decode cX0_note 19 = .ok (.aload_n 0, 1) := by decide +kernel
theorem dX0_note_20 : decode cX0_note 20 = .ok (.dup, 1) := by decide +kernel
theorem dX0_note_21 : decode cX0_note 21 = .ok (.getfield 15, 3) := by decide +kernel
theorem dX0_note_24 : decode cX0_note 24 = .ok (.iconst 1, 1) := by decide +kernel
theorem dX0_note_25 : decode cX0_note 25 = .ok (.iadd, 1) := by decide +kernel
theorem dX0_note_26 : decode cX0_note 26 = .ok (.putfield 15, 3) := by decide +kernel
theorem dX0_note_29 : decode cX0_note 29 = .ok (.return_, 1) := by decide +kernel
theorem dX0_parted_0 : decode cX0_parted 0 = .ok (.aload_n 0, 1) := by decide +kernel
theorem dX0_parted_1 : decode cX0_parted 1 = .ok (.getfield 26, 3) := by decide +kernel
theorem dX0_parted_4 : decode cX0_parted 4 = .ok (.aload_n 0, 1) := by decide +kernel
theorem dX0_parted_5 : decode cX0_parted 5 = .ok (.getfield 23, 3) := by decide +kernel
theorem dX0_parted_8 : decode cX0_parted 8 = .ok (.if_icmp .ne 10, 3) := by decide +kernel
theorem dX0_parted_11 : decode cX0_parted 11 = .ok (.aload_n 0, 1) := by decide +kernel
theorem dX0_parted_12 : decode cX0_parted 12 = .ok (.iconst 1, 1) := by decide +kernel
theorem dX0_parted_13 : decode cX0_parted 13 = .ok (.putfield 19, 3) := by decide +kernel
theorem dX0_parted_16 : decode cX0_parted 16 = .ok (.iconst 0, 1) := by decide +kernel
theorem dX0_parted_17 : decode cX0_parted 17 = .ok (.ireturn, 1) := by decide +kernel
theorem dX0_parted_18 : decode cX0_parted 18 = .ok (.iload_n 1, 1) := by decide +kernel
theorem dX0_parted_19 : decode cX0_parted 19 = .ok (.aload_n 0, 1) := by decide +kernel
theorem dX0_parted_20 : decode cX0_parted 20 = .ok (.getfield 26, 3) := by decide +kernel
theorem dX0_parted_23 : decode cX0_parted 23 = .ok (.aload_n 0, 1) := by decide +kernel
theorem dX0_parted_24 : decode cX0_parted 24 = .ok (.getfield 23, 3) := by decide +kernel
theorem dX0_parted_27 : decode cX0_parted 27 = .ok (.isub, 1) := by decide +kernel
theorem dX0_parted_28 : decode cX0_parted 28 = .ok (.idiv, 1) := by decide +kernel
theorem dX0_parted_29 : decode cX0_parted 29 = .ok (.ireturn, 1) := by decide +kernel
set_option maxRecDepth 20000 in
theorem ggX1_init_X1_clear : GoodIn wsX1_init wsX1_clear := goodIn_r _ [16, 5, 17, 18, 19, 20, 21, 22, 23, 24, 25, 15, 26, 9, 10, 27, 28, 29, 30, 31, 32, 33, 34, 35, 36] (by decide +kernel) (by decide +kernel)
set_option maxRecDepth 20000 in
theorem gX1_init_X1_clear : GoodIn wsX1_init (wsV RX1 34 RX1 yX1_clear wsX1_clear) := goodIn_app (goodIn_of _ (by decide +kernel)) ggX1_init_X1_clear
theorem dX1_init_0 : decode cX1_init 0 = .ok (.aload_n 0, 1) := by decide +kernel
theorem dX1_init_1 : decode cX1_init 1 = .ok (.invokespecial 3, 3) := by decide +kernel
theorem dX1_init_4 : decode cX1_init 4 = .ok (.aload_n 0, 1) := by decide +kernel
theorem dX1_init_5 : decode cX1_init 5 = .ok (.iconst 4, 1) := by decide +kernel
theorem dX1_init_6 : decode cX1_init 6 = .ok (.newarray .int, 2) := by decide +kernel
theorem dX1_init_8 : decode cX1_init 8 = .ok (.putfield 9, 3) := by decide +kernel
theorem dX1_init_11 : decode cX1_init 11 = .ok (.aload_n 0, 1) := by decide +kernel
theorem dX1_init_12 : decode cX1_init 12 = .ok (.bipush 8, 2) := by decide +kernel
theorem dX1_init_14 : decode cX1_init 14 = .ok (.newarray .int, 2) := by decide +kernel
theorem dX1_init_16 : decode cX1_init 16 = .ok (.putfield 15, 3) := by decide +kernel
theorem dX1_init_19 : decode cX1_init 19 = .ok (.aload_n 0, 1) := by decide +kernel
theorem dX1_init_20 : decode cX1_init 20 = .ok (.bipush 8, 2) := by decide +kernel
theorem dX1_init_22 : decode cX1_init 22 = .ok (.newarray .int, 2) := by decide +kernel
theorem dX1_init_24 : decode cX1_init 24 = .ok (.putfield 18, 3) := by decide +kernel
theorem dX1_init_27 : decode cX1_init 27 = .ok (.aload_n 0, 1) := by decide +kernel
theorem dX1_init_28 : decode cX1_init 28 = .ok (.bipush 8, 2) := by decide +kernel
theorem dX1_init_30 : decode cX1_init 30 = .ok (.newarray .int, 2) := by decide +kernel
theorem dX1_init_32 : decode cX1_init 32 = .ok (.putfield 21, 3) := by decide +kernel
theorem dX1_init_35 : decode cX1_init 35 = .ok (.aload_n 0, 1) := by decide +kernel
theorem dX1_init_36 : decode cX1_init 36 = .ok (.bipush 6, 2) := by decide +kernel
theorem dX1_init_38 : decode cX1_init 38 = .ok (.newarray .int, 2) := by decide +kernel
theorem dX1_init_40 : decode cX1_init 40 = .ok (.putfield 24, 3) := by decide +kernel
theorem dX1_init_43 : decode cX1_init 43 = .ok (.aload_n 0, 1) := by decide +kernel
theorem dX1_init_44 : decode cX1_init 44 = .ok (.bipush 6, 2) := by decide +kernel
theorem dX1_init_46 : decode cX1_init 46 = .ok (.newarray .int, 2) := by decide +kernel
theorem dX1_init_48 : decode cX1_init 48 = .ok (.putfield 27, 3) := by decide +kernel
theorem dX1_init_51 : decode cX1_init 51 = .ok (.aload_n 0, 1) := by decide +kernel
theorem dX1_init_52 : decode cX1_init 52 = .ok (.iconst 1, 1) := by decide +kernel
theorem dX1_init_53 : decode cX1_init 53 = .ok (.putfield 30, 3) := by decide +kernel
theorem dX1_init_56 : decode cX1_init 56 = .ok (.aload_n 0, 1) := by decide +kernel
theorem dX1_init_57 : decode cX1_init 57 = .ok (.invokevirtual 34, 3) := by decide +kernel
theorem dX1_init_60 : decode cX1_init 60 = .ok (.return_, 1) := by decide +kernel
set_option maxRecDepth 20000 in
theorem ggX1_clear_X1_join : GoodIn wsX1_clear wsX1_join := goodIn_r _ [12, 13, 14, 15, 16, 17, 18, 19, 20, 21, 22, 23, 24] (by decide +kernel) (by decide +kernel)
set_option maxRecDepth 20000 in
theorem gX1_clear_X1_join : GoodIn wsX1_clear (wsV RX1 46 RX1 yX1_join wsX1_join) := goodIn_app (goodIn_of _ (by decide +kernel)) ggX1_clear_X1_join
theorem dX1_clear_0 : decode cX1_clear 0 = .ok (.getstatic 37, 3) := by decide +kernel
theorem dX1_clear_3 : decode cX1_clear 3 = .ok (.iconst 0, 1) := by decide +kernel
theorem dX1_clear_4 : decode cX1_clear 4 = .ok (.aload_n 0, 1) := by decide +kernel
theorem dX1_clear_5 : decode cX1_clear 5 = .ok (.getfield 9, 3) := by decide +kernel
theorem dX1_clear_8 : decode cX1_clear 8 = .ok (.iconst 0, 1) := by decide +kernel
theorem dX1_clear_9 : decode cX1_clear 9 = .ok (.iconst 4, 1) := by decide +kernel
theorem dX1_clear_10 : decode cX1_clear 10 = .ok (.invokestatic 40, 3) := by decide +kernel
theorem dX1_clear_13 : decode cX1_clear 13 = .ok (.iconst 0, 1) := by decide +kernel
theorem dX1_clear_14 : decode cX1_clear 14 = .ok (.istore_n 1, 1) := by decide +kernel
theorem dX1_clear_15 : decode cX1_clear 15 = .ok (.iload_n 1, 1) := by decide +kernel
theorem dX1_clear_16 : decode cX1_clear 16 = .ok (.bipush 6, 2) := by decide +kernel
theorem dX1_clear_18 : decode cX1_clear 18 = .ok (.if_icmp .ge 16, 3) := by decide +kernel
theorem dX1_clear_21 : decode cX1_clear 21 = .ok (.aload_n 0, 1) := by decide +kernel
theorem dX1_clear_22 : decode cX1_clear 22 = .ok (.iload_n 1, 1) := by decide +kernel
theorem dX1_clear_23 : decode cX1_clear 23 = .ok (.iconst (-1), 1) := by decide +kernel
theorem dX1_clear_24 : decode cX1_clear 24 = .ok (.iconst (-1), 1) := by decide +kernel
theorem dX1_clear_25 : decode cX1_clear 25 = .ok (.invokevirtual 46, 3) := by decide +kernel
theorem dX1_clear_28 : decode cX1_clear 28 = .ok (.iinc 1 1, 3) := by decide +kernel
theorem dX1_clear_31 : decode cX1_clear 31 = .ok (.goto (-16), 3) := by decide +kernel
theorem dX1_clear_34 : decode cX1_clear 34 = .ok (.aload_n 0, 1) := by decide +kernel
theorem dX1_clear_35 : decode cX1_clear 35 = .ok (.iconst 0, 1) := by decide +kernel
theorem dX1_clear_36 : decode cX1_clear 36 = .ok (.putfield 50, 3) := by decide +kernel
theorem dX1_clear_39 : decode cX1_clear 39 = .ok (.aload_n 0, 1) := by decide +kernel
theorem dX1_clear_40 : decode cX1_clear 40 = .ok (.iconst 0, 1) := by decide +kernel
theorem dX1_clear_41 : decode cX1_clear 41 = .ok (.putfield 53, 3) := by decide +kernel
theorem dX1_clear_44 : decode cX1_clear 44 = .ok (.return_, 1) := by decide +kernel
theorem dX1_become_0 : decode cX1_become 0 = .ok (.aload_n 1, 1) := by decide +kernel
theorem dX1_become_1 : decode cX1_become 1 = .ok (.getfield 9, 3) := by decide +kernel
theorem dX1_become_4 : decode cX1_become 4 = .ok (.iconst 0, 1) := by decide +kernel
theorem dX1_become_5 : decode cX1_become 5 = .ok (.aload_n 0, 1) := by decide +kernel
theorem dX1_become_6 : decode cX1_become 6 = .ok (.getfield 9, 3) := by decide +kernel
theorem dX1_become_9 : decode cX1_become 9 = .ok (.iconst 0, 1) := by decide +kernel
theorem dX1_become_10 : decode cX1_become 10 = .ok (.iconst 4, 1) := by decide +kernel
theorem dX1_become_11 : decode cX1_become 11 = .ok (.invokestatic 40, 3) := by decide +kernel
theorem dX1_become_14 : decode cX1_become 14 = .ok (.aload_n 1, 1) := by decide +kernel
theorem dX1_become_15 : decode cX1_become 15 = .ok (.getfield 15, 3) := by decide +kernel
theorem dX1_become_18 : decode cX1_become 18 = .ok (.iconst 0, 1) := by decide +kernel
theorem dX1_become_19 : decode cX1_become 19 = .ok (.aload_n 0, 1) := by decide +kernel
theorem dX1_become_20 : decode cX1_become 20 = .ok (.getfield 15, 3) := by decide +kernel
theorem dX1_become_23 : decode cX1_become 23 = .ok (.iconst 0, 1) := by decide +kernel
theorem dX1_become_24 : decode cX1_become 24 = .ok (.bipush 8, 2) := by decide +kernel
theorem dX1_become_26 : decode cX1_become 26 = .ok (.invokestatic 40, 3) := by decide +kernel
theorem dX1_become_29 : decode cX1_become 29 = .ok (.aload_n 1, 1) := by decide +kernel
theorem dX1_become_30 : decode cX1_become 30 = .ok (.getfield 18, 3) := by decide +kernel
theorem dX1_become_33 : decode cX1_become 33 = .ok (.iconst 0, 1) := by decide +kernel
theorem dX1_become_34 : decode cX1_become 34 = .ok (.aload_n 0, 1) := by decide +kernel
theorem dX1_become_35 : decode cX1_become 35 = .ok (.getfield 18, 3) := by decide +kernel
theorem dX1_become_38 : decode cX1_become 38 = .ok (.iconst 0, 1) := by decide +kernel
theorem dX1_become_39 : decode cX1_become 39 = .ok (.bipush 8, 2) := by decide +kernel
theorem dX1_become_41 : decode cX1_become 41 = .ok (.invokestatic 40, 3) := by decide +kernel
theorem dX1_become_44 : decode cX1_become 44 = .ok (.aload_n 1, 1) := by decide +kernel
theorem dX1_become_45 : decode cX1_become 45 = .ok (.getfield 21, 3) := by decide +kernel
theorem dX1_become_48 : decode cX1_become 48 = .ok (.iconst 0, 1) := by decide +kernel
theorem dX1_become_49 : decode cX1_become 49 = .ok (.aload_n 0, 1) := by decide +kernel
theorem dX1_become_50 : decode cX1_become 50 = .ok (.getfield 21, 3) := by decide +kernel
theorem dX1_become_53 : decode cX1_become 53 = .ok (.iconst 0, 1) := by decide +kernel
theorem dX1_become_54 : decode cX1_become 54 = .ok (.bipush 8, 2) := by decide +kernel
theorem dX1_become_56 : decode cX1_become 56 = .ok (.invokestatic 40, 3) := by decide +kernel
theorem dX1_become_59 : decode cX1_become 59 = .ok (.aload_n 1, 1) := by decide +kernel
theorem dX1_become_60 : decode cX1_become 60 = .ok (.getfield 24, 3) := by decide +kernel
theorem dX1_become_63 : decode cX1_become 63 = .ok (.iconst 0, 1) := by decide +kernel
theorem dX1_become_64 : decode cX1_become 64 = .ok (.aload_n 0, 1) := by decide +kernel
theorem dX1_become_65 : decode cX1_become 65 = .ok (.getfield 24, 3) := by decide +kernel
theorem dX1_become_68 : decode cX1_become 68 = .ok (.iconst 0, 1) := by decide +kernel
theorem dX1_become_69 : decode cX1_become 69 = .ok (.bipush 6, 2) := by decide +kernel
theorem dX1_become_71 : decode cX1_become 71 = .ok (.invokestatic 40, 3) := by decide +kernel
theorem dX1_become_74 : decode cX1_become 74 = .ok (.aload_n 1, 1) := by decide +kernel
theorem dX1_become_75 : decode cX1_become 75 = .ok (.getfield 27, 3) := by decide +kernel
theorem dX1_become_78 : decode cX1_become 78 = .ok (.iconst 0, 1) := by decide +kernel
theorem dX1_become_79 : decode cX1_become 79 = .ok (.aload_n 0, 1) := by decide +kernel
theorem dX1_become_80 : decode cX1_become 80 = .ok (.getfield 27, 3) := by decide +kernel
theorem dX1_become_83 : decode cX1_become 83 = .ok (.iconst 0, 1) := by decide +kernel
theorem dX1_become_84 : decode cX1_become 84 = .ok (.bipush 6, 2) := by decide +kernel
theorem dX1_become_86 : decode cX1_become 86 = .ok (.invokestatic 40, 3) := by decide +kernel
theorem dX1_become_89 : decode cX1_become 89 = .ok (.aload_n 0, 1) := by decide +kernel
theorem dX1_become_90 : decode cX1_become 90 = .ok (.aload_n 1, 1) := by decide +kernel
theorem dX1_become_91 : decode cX1_become 91 = .ok (.getfield 50, 3) := by decide +kernel
theorem dX1_become_94 : decode cX1_become 94 = .ok (.putfield 50, 3) := by decide +kernel
theorem dX1_become_97 : decode cX1_become 97 = .ok (.aload_n 0, 1) := by decide +kernel
theorem dX1_become_98 : decode cX1_become 98 = .ok (.aload_n 1, 1) := by decide +kernel
theorem dX1_become_99 : decode cX1_become 99 = .ok (.getfield 53, 3) := by decide +kernel
theorem dX1_become_102 : decode cX1_become 102 = .ok (.putfield 53, 3) := by decide +kernel
theorem dX1_become_105 : decode cX1_become 105 = .ok (.aload_n 0, 1) := by decide +kernel
theorem dX1_become_106 : decode cX1_become 106 = .ok (.aload_n 1, 1) := by decide +kernel
theorem dX1_become_107 : decode cX1_become 107 = .ok (.getfield 30, 3) := by decide +kernel
theorem dX1_become_110 : decode cX1_become 110 = .ok (.putfield 30, 3) := by decide +kernel
theorem dX1_become_113 : decode cX1_become 113 = .ok (.return_, 1) := by decide +kernel
theorem dX1_add_0 : decode cX1_add 0 = .ok (.aload_n 0, 1) := by decide +kernel
theorem dX1_add_1 : decode cX1_add 1 = .ok (.getfield 50, 3) := by decide +kernel
theorem dX1_add_4 : decode cX1_add 4 = .ok (.bipush 8, 2) := by decide +kernel
theorem dX1_add_6 : decode cX1_add 6 = .ok (.if_icmp .lt 5, 3) := by decide +kernel
theorem dX1_add_9 : decode cX1_add 9 = .ok (.iconst 0, 1) := by decide +kernel
theorem dX1_add_10 : decode cX1_add 10 = .ok (.ireturn, 1) := by decide +kernel
theorem dX1_add_11 : decode cX1_add 11 = .ok (.aload_n 0, 1) := by decide +kernel
theorem dX1_add_12 : decode cX1_add 12 = .ok (.getfield 15, 3) := by decide +kernel
theorem dX1_add_15 : decode cX1_add 15 = .ok (.aload_n 0, 1) := by decide +kernel
theorem dX1_add_16 : decode cX1_add 16 = .ok (.getfield 50, 3) := by decide +kernel
theorem dX1_add_19 : decode cX1_add 19 = .ok (.iload_n 1, 1) := by decide +kernel
theorem dX1_add_20 : decode cX1_add 20 = .ok (.iastore, 1) := by decide +kernel
theorem dX1_add_21 : decode cX1_add 21 = .ok (.aload_n 0, 1) := by decide +kernel
theorem dX1_add_22 : decode cX1_add 22 = .ok (.getfield 18, 3) := by decide +kernel
theorem dX1_add_25 : decode cX1_add 25 = .ok (.aload_n 0, 1) := by decide +kernel
theorem dX1_add_26 : decode cX1_add 26 = .ok (.getfield 50, 3) := by decide +kernel
theorem dX1_add_29 : decode cX1_add 29 = .ok (.iload_n 2, 1) := by decide +kernel
theorem dX1_add_30 : decode cX1_add 30 = .ok (.iastore, 1) := by decide +kernel
theorem dX1_add_31 : decode cX1_add 31 = .ok (.aload_n 0, 1) := by decide +kernel
theorem dX1_add_32 : decode cX1_add 32 = .ok (.getfield 21, 3) := by decide +kernel
theorem dX1_add_35 : decode cX1_add 35 = .ok (.aload_n 0, 1) := by decide +kernel
theorem dX1_add_36 : decode cX1_add 36 = .ok (.getfield 50, 3) := by decide +kernel
theorem dX1_add_39 : decode cX1_add 39 = .ok (.iload_n 3, 1) := by decide +kernel
theorem dX1_add_40 : decode cX1_add 40 = .ok (.iastore, 1) := by decide +kernel
theorem dX1_add_41 : decode cX1_add 41 = .ok (.aload_n 0, 1) := by decide +kernel
theorem dX1_add_42 : decode cX1_add 42 = .ok (.dup, 1) := by decide +kernel
theorem dX1_add_43 : decode cX1_add 43 = .ok (.getfield 50, 3) := by decide +kernel
theorem dX1_add_46 : decode cX1_add 46 = .ok (.iconst 1, 1) := by decide +kernel
theorem dX1_add_47 : decode cX1_add 47 = .ok (.iadd, 1) := by decide +kernel
theorem dX1_add_48 : decode cX1_add 48 = .ok (.putfield 50, 3) := by decide +kernel
theorem dX1_add_51 : decode cX1_add 51 = .ok (.iconst 1, 1) := by decide +kernel
theorem dX1_add_52 : decode cX1_add 52 = .ok (.ireturn, 1) := by decide +kernel
theorem dX1_join_0 : decode cX1_join 0 = .ok (.aload_n 0, 1) := by decide +kernel
theorem dX1_join_1 : decode cX1_join 1 = .ok (.getfield 24, 3) := by decide +kernel
theorem dX1_join_4 : decode cX1_join 4 = .ok (.iload_n 1, 1) := by decide +kernel
theorem dX1_join_5 : decode cX1_join 5 = .ok (.iload_n 2, 1) := by decide +kernel
theorem dX1_join_6 : decode cX1_join 6 = .ok (.iastore, 1) := by decide +kernel
theorem dX1_join_7 : decode cX1_join 7 = .ok (.aload_n 0, 1) := by decide +kernel
theorem dX1_join_8 : decode cX1_join 8 = .ok (.getfield 27, 3) := by decide +kernel
theorem dX1_join_11 : decode cX1_join 11 = .ok (.iload_n 1, 1) := by decide +kernel
theorem dX1_join_12 : decode cX1_join 12 = .ok (.iload_n 3, 1) := by decide +kernel
theorem dX1_join_13 : decode cX1_join 13 = .ok (.iastore, 1) := by decide +kernel
theorem dX1_join_14 : decode cX1_join 14 = .ok (.return_, 1) := by decide +kernel
set_option maxRecDepth 20000 in
theorem ggX1_restNow_J9_floorMod_7cf53 : GoodIn wsX1_restNow wsJ9_floorMod_7cf53 := goodIn_r _ [5] (by decide +kernel) (by decide +kernel)
set_option maxRecDepth 20000 in
theorem gX1_restNow_J9_floorMod_7cf53 : GoodIn wsX1_restNow (va_wsS RX1 56 yJ9_floorMod_7cf53 wsJ9_floorMod_7cf53) := goodIn_app (goodIn_of _ (by decide +kernel)) ggX1_restNow_J9_floorMod_7cf53
theorem dX1_restNow_0 : decode cX1_restNow 0 = .ok (.aload_n 0, 1) := by decide +kernel
theorem dX1_restNow_1 : decode cX1_restNow 1 = .ok (.getfield 53, 3) := by decide +kernel
theorem dX1_restNow_4 : decode cX1_restNow 4 = .ok (.bipush 6, 2) := by decide +kernel
theorem dX1_restNow_6 : decode cX1_restNow 6 = .ok (.invokestatic 56, 3) := by decide +kernel
theorem dX1_restNow_9 : decode cX1_restNow 9 = .ok (.ireturn, 1) := by decide +kernel
set_option maxRecDepth 20000 in
theorem ggX1_passHour_X1_restNow : GoodIn wsX1_passHour wsX1_restNow := goodIn_r _ [9, 4, 10, 11, 12, 13, 55, 56, 57, 58, 59, 60, 61, 62, 63, 64] (by decide +kernel) (by decide +kernel)
set_option maxRecDepth 20000 in
theorem gX1_passHour_X1_restNow : GoodIn wsX1_passHour (wsV RX1 62 RX1 yX1_restNow wsX1_restNow) := goodIn_app (goodIn_of _ (by decide +kernel)) ggX1_passHour_X1_restNow
set_option maxRecDepth 20000 in
theorem ggX1_passHour_X1_meet : GoodIn wsX1_passHour wsX1_meet := goodIn_r _ [17, 1, 18, 19, 20, 21, 22, 23, 8, 24, 25, 26, 27, 28, 29, 30, 4, 31, 32, 33, 34, 35, 36, 37, 38, 39, 40, 41, 42, 43, 44, 45, 46, 47, 48, 49, 50, 51, 52, 53, 54, 55, 56, 57, 58, 59, 60, 61, 62, 63, 64] (by decide +kernel) (by decide +kernel)
set_option maxRecDepth 20000 in
theorem gX1_passHour_X1_meet : GoodIn wsX1_passHour (wsV RX1 69 RX1 yX1_meet wsX1_meet) := goodIn_app (goodIn_of _ (by decide +kernel)) ggX1_passHour_X1_meet
theorem dX1_passHour_0 : decode cX1_passHour 0 = .ok (.aload_n 0, 1) := by decide +kernel
theorem dX1_passHour_1 : decode cX1_passHour 1 = .ok (.invokevirtual 62, 3) := by decide +kernel
theorem dX1_passHour_4 : decode cX1_passHour 4 = .ok (.istore_n 1, 1) := by decide +kernel
theorem dX1_passHour_5 : decode cX1_passHour 5 = .ok (.aload_n 0, 1) := by decide +kernel
theorem dX1_passHour_6 : decode cX1_passHour 6 = .ok (.iconst 0, 1) := by decide +kernel
theorem dX1_passHour_7 : decode cX1_passHour 7 = .ok (.putfield 66, 3) := by decide +kernel
theorem dX1_passHour_10 : decode cX1_passHour 10 = .ok (.aload_n 0, 1) := by decide +kernel
theorem dX1_passHour_11 : decode cX1_passHour 11 = .ok (.getfield 24, 3) := by decide +kernel
theorem dX1_passHour_14 : decode cX1_passHour 14 = .ok (.iload_n 1, 1) := by decide +kernel
theorem dX1_passHour_15 : decode cX1_passHour 15 = .ok (.iaload, 1) := by decide +kernel
theorem dX1_passHour_16 : decode cX1_passHour 16 = .ok (.iconst (-1), 1) := by decide +kernel
theorem dX1_passHour_17 : decode cX1_passHour 17 = .ok (.if_icmp .eq 19, 3) := by decide +kernel
theorem dX1_passHour_20 : decode cX1_passHour 20 = .ok (.aload_n 0, 1) := by decide +kernel
theorem dX1_passHour_21 : decode cX1_passHour 21 = .ok (.aload_n 0, 1) := by decide +kernel
theorem dX1_passHour_22 : decode cX1_passHour 22 = .ok (.getfield 24, 3) := by decide +kernel
theorem dX1_passHour_25 : decode cX1_passHour 25 = .ok (.iload_n 1, 1) := by decide +kernel
theorem dX1_passHour_26 : decode cX1_passHour 26 = .ok (.iaload, 1) := by decide +kernel
theorem dX1_passHour_27 : decode cX1_passHour 27 = .ok (.aload_n 0, 1) := by decide +kernel
theorem dX1_passHour_28 : decode cX1_passHour 28 = .ok (.getfield 27, 3) := by decide +kernel
theorem dX1_passHour_31 : decode cX1_passHour 31 = .ok (.iload_n 1, 1) := by decide +kernel
theorem dX1_passHour_32 : decode cX1_passHour 32 = .ok (.iaload, 1) := by decide +kernel
theorem dX1_passHour_33 : decode cX1_passHour 33 = .ok (.invokevirtual 69, 3) := by decide +kernel
theorem dX1_passHour_36 : decode cX1_passHour 36 = .ok (.aload_n 0, 1) := by decide +kernel
theorem dX1_passHour_37 : decode cX1_passHour 37 = .ok (.dup, 1) := by decide +kernel
theorem dX1_passHour_38 : decode cX1_passHour 38 = .ok (.getfield 53, 3) := by decide +kernel
theorem dX1_passHour_41 : decode cX1_passHour 41 = .ok (.iconst 1, 1) := by decide +kernel
theorem dX1_passHour_42 : decode cX1_passHour 42 = .ok (.iadd, 1) := by decide +kernel
theorem dX1_passHour_43 : decode cX1_passHour 43 = .ok (.putfield 53, 3) := by decide +kernel
theorem dX1_passHour_46 : decode cX1_passHour 46 = .ok (.return_, 1) := by decide +kernel
set_option maxRecDepth 20000 in
theorem ggX1_passHourByDraws_X1_draw : GoodIn wsX1_passHourByDraws wsX1_draw := goodIn_r _ [6, 7, 8, 65, 66, 67, 68, 69, 70, 71, 72, 73, 74] (by decide +kernel) (by decide +kernel)
set_option maxRecDepth 20000 in
theorem gX1_passHourByDraws_X1_draw : GoodIn wsX1_passHourByDraws (wsV RX1 73 RX1 yX1_draw wsX1_draw) := goodIn_app (goodIn_of _ (by decide +kernel)) ggX1_passHourByDraws_X1_draw
set_option maxRecDepth 20000 in
theorem ggX1_passHourByDraws_X1_meet : GoodIn wsX1_passHourByDraws wsX1_meet := goodIn_r _ [12, 13, 14, 15, 16, 17, 18, 19, 5, 20, 21, 22, 23, 24, 25, 1, 26, 27, 28, 29, 30, 31, 32, 33, 34, 35, 36, 37, 38, 39, 40, 41, 42, 43, 44, 45, 46, 47, 48, 49, 50, 65, 66, 67, 68, 69, 70, 71, 72, 73, 74] (by decide +kernel) (by decide +kernel)
set_option maxRecDepth 20000 in
theorem gX1_passHourByDraws_X1_meet : GoodIn wsX1_passHourByDraws (wsV RX1 69 RX1 yX1_meet wsX1_meet) := goodIn_app (goodIn_of _ (by decide +kernel)) ggX1_passHourByDraws_X1_meet
set_option maxRecDepth 20000 in
theorem ggX1_passHourByDraws_X1_passHour : GoodIn wsX1_passHourByDraws wsX1_passHour := goodIn_r _ [54, 13, 55, 56, 26, 57, 58, 59, 5, 60, 61, 62, 63, 64, 9, 10, 11, 12, 14, 15, 16, 17, 18, 19, 20, 21, 22, 23, 24, 25, 1, 27, 28, 29, 30, 31, 32, 33, 34, 35, 36, 37, 38, 39, 40, 41, 42, 43, 44, 45, 46, 47, 48, 49, 50, 65, 66, 67, 68, 69, 70, 71, 72, 73, 74] (by decide +kernel) (by decide +kernel)
set_option maxRecDepth 20000 in
theorem gX1_passHourByDraws_X1_passHour : GoodIn wsX1_passHourByDraws (wsV RX1 76 RX1 yX1_passHour wsX1_passHour) := goodIn_app (goodIn_of _ (by decide +kernel)) ggX1_passHourByDraws_X1_passHour
theorem dX1_passHourByDraws_0 : decode cX1_passHourByDraws 0 = .ok (.aload_n 0, 1) := by decide +kernel
theorem dX1_passHourByDraws_1 : decode cX1_passHourByDraws 1 = .ok (.invokevirtual 73, 3) := by decide +kernel
theorem dX1_passHourByDraws_4 : decode cX1_passHourByDraws 4 = .ok (.bipush 8, 2) := by decide +kernel
theorem dX1_passHourByDraws_6 : decode cX1_passHourByDraws 6 = .ok (.irem, 1) := by decide +kernel
theorem dX1_passHourByDraws_7 : decode cX1_passHourByDraws 7 = .ok (.istore_n 1, 1) := by decide +kernel
theorem dX1_passHourByDraws_8 : decode cX1_passHourByDraws 8 = .ok (.aload_n 0, 1) := by decide +kernel
theorem dX1_passHourByDraws_9 : decode cX1_passHourByDraws 9 = .ok (.invokevirtual 73, 3) := by decide +kernel
theorem dX1_passHourByDraws_12 : decode cX1_passHourByDraws 12 = .ok (.bipush 100, 2) := by decide +kernel
theorem dX1_passHourByDraws_14 : decode cX1_passHourByDraws 14 = .ok (.irem, 1) := by decide +kernel
theorem dX1_passHourByDraws_15 : decode cX1_passHourByDraws 15 = .ok (.aload_n 0, 1) := by decide +kernel
theorem dX1_passHourByDraws_16 : decode cX1_passHourByDraws 16 = .ok (.getfield 9, 3) := by decide +kernel
theorem dX1_passHourByDraws_19 : decode cX1_passHourByDraws 19 = .ok (.iconst 3, 1) := by decide +kernel
theorem dX1_passHourByDraws_20 : decode cX1_passHourByDraws 20 = .ok (.iaload, 1) := by decide +kernel
theorem dX1_passHourByDraws_21 : decode cX1_passHourByDraws 21 = .ok (.if_icmp .ge 22, 3) := by decide +kernel
theorem dX1_passHourByDraws_24 : decode cX1_passHourByDraws 24 = .ok (.aload_n 0, 1) := by decide +kernel
theorem dX1_passHourByDraws_25 : decode cX1_passHourByDraws 25 = .ok (.invokevirtual 73, 3) := by decide +kernel
theorem dX1_passHourByDraws_28 : decode cX1_passHourByDraws 28 = .ok (.bipush 8, 2) := by decide +kernel
theorem dX1_passHourByDraws_30 : decode cX1_passHourByDraws 30 = .ok (.irem, 1) := by decide +kernel
theorem dX1_passHourByDraws_31 : decode cX1_passHourByDraws 31 = .ok (.istore_n 2, 1) := by decide +kernel
theorem dX1_passHourByDraws_32 : decode cX1_passHourByDraws 32 = .ok (.iload_n 2, 1) := by decide +kernel
theorem dX1_passHourByDraws_33 : decode cX1_passHourByDraws 33 = .ok (.iload_n 1, 1) := by decide +kernel
theorem dX1_passHourByDraws_34 : decode cX1_passHourByDraws 34 = .ok (.if_icmp .eq 9, 3) := by decide +kernel
theorem dX1_passHourByDraws_37 : decode cX1_passHourByDraws 37 = .ok (.aload_n 0, 1) := by decide +kernel
theorem dX1_passHourByDraws_38 : decode cX1_passHourByDraws 38 = .ok (.iload_n 1, 1) := by decide +kernel
theorem dX1_passHourByDraws_39 : decode cX1_passHourByDraws 39 = .ok (.iload_n 2, 1) := by decide +kernel
theorem dX1_passHourByDraws_40 : decode cX1_passHourByDraws 40 = .ok (.invokevirtual 69, 3) := by decide +kernel
theorem dX1_passHourByDraws_43 : decode cX1_passHourByDraws 43 = .ok (.aload_n 0, 1) := by decide +kernel
theorem dX1_passHourByDraws_44 : decode cX1_passHourByDraws 44 = .ok (.invokevirtual 76, 3) := by decide +kernel
theorem dX1_passHourByDraws_47 : decode cX1_passHourByDraws 47 = .ok (.return_, 1) := by decide +kernel
theorem dX1_draw_0 : decode cX1_draw 0 = .ok (.aload_n 0, 1) := by decide +kernel
theorem dX1_draw_1 : decode cX1_draw 1 = .ok (.aload_n 0, 1) := by decide +kernel
theorem dX1_draw_2 : decode cX1_draw 2 = .ok (.getfield 30, 3) := by decide +kernel
theorem dX1_draw_5 : decode cX1_draw 5 = .ok (.ldc 79, 2) := by decide +kernel
theorem dX1_draw_7 : decode cX1_draw 7 = .ok (.imul, 1) := by decide +kernel
theorem dX1_draw_8 : decode cX1_draw 8 = .ok (.sipush 12345, 3) := by decide +kernel
theorem dX1_draw_11 : decode cX1_draw 11 = .ok (.iadd, 1) := by decide +kernel
theorem dX1_draw_12 : decode cX1_draw 12 = .ok (.putfield 30, 3) := by decide +kernel
theorem dX1_draw_15 : decode cX1_draw 15 = .ok (.aload_n 0, 1) := by decide +kernel
theorem dX1_draw_16 : decode cX1_draw 16 = .ok (.getfield 30, 3) := by decide +kernel
theorem dX1_draw_19 : decode cX1_draw 19 = .ok (.bipush 16, 2) := by decide +kernel
theorem dX1_draw_21 : decode cX1_draw 21 = .ok (.iushr, 1) := by decide +kernel
theorem dX1_draw_22 : decode cX1_draw 22 = .ok (.ireturn, 1) := by decide +kernel
set_option maxRecDepth 20000 in
theorem ggX1_meet_X1_targetOf : GoodIn wsX1_meet wsX1_targetOf := goodIn_r _ [9, 3, 41, 42, 43, 44, 45, 46, 47, 48, 49, 50] (by decide +kernel) (by decide +kernel)
set_option maxRecDepth 20000 in
theorem gX1_meet_X1_targetOf : GoodIn wsX1_meet (wsV RX1 80 RX1 yX1_targetOf wsX1_targetOf) := goodIn_app (goodIn_of _ (by decide +kernel)) ggX1_meet_X1_targetOf
set_option maxRecDepth 20000 in
theorem ggX1_meet_X1_goesTo : GoodIn wsX1_meet wsX1_goesTo := goodIn_r _ [13, 4, 14, 15, 16, 3, 17, 18, 19, 8, 20, 2, 21, 22, 23, 24, 41, 42, 43, 44, 45, 46, 47, 48, 49, 50] (by decide +kernel) (by decide +kernel)
set_option maxRecDepth 20000 in
theorem gX1_meet_X1_goesTo : GoodIn wsX1_meet (wsV RX1 84 RX1 yX1_goesTo wsX1_goesTo) := goodIn_app (goodIn_of _ (by decide +kernel)) ggX1_meet_X1_goesTo
set_option maxRecDepth 20000 in
theorem ggX1_meet_X5_has : GoodIn wsX1_meet wsX5_has := goodIn_r _ [27] (by decide +kernel) (by decide +kernel)
set_option maxRecDepth 20000 in
theorem gX1_meet_X5_has_n88 : GoodIn wsX1_meet (wsX5_has) := ggX1_meet_X5_has
set_option maxRecDepth 20000 in
theorem ggX1_meet_X1_fading : GoodIn wsX1_meet wsX1_fading := goodIn_r _ [31, 15, 14, 41, 42, 43, 44, 45, 46, 47, 48, 49, 50] (by decide +kernel) (by decide +kernel)
set_option maxRecDepth 20000 in
theorem gX1_meet_X1_fading : GoodIn wsX1_meet (wsV RX1 91 RX1 yX1_fading wsX1_fading) := goodIn_app (goodIn_of _ (by decide +kernel)) ggX1_meet_X1_fading
set_option maxRecDepth 20000 in
theorem ggX1_meet_X5_heldInk : GoodIn wsX1_meet wsX5_heldInk := goodIn_r _ [33, 34, 35, 36, 37, 38, 39, 40] (by decide +kernel) (by decide +kernel)
set_option maxRecDepth 20000 in
theorem gX1_meet_X5_heldInk_n95 : GoodIn wsX1_meet (wsX5_heldInk) := ggX1_meet_X5_heldInk
theorem dX1_meet_0 : decode cX1_meet 0 = .ok (.aload_n 0, 1) := by decide +kernel
theorem dX1_meet_1 : decode cX1_meet 1 = .ok (.iconst 0, 1) := by decide +kernel
theorem dX1_meet_2 : decode cX1_meet 2 = .ok (.putfield 66, 3) := by decide +kernel
theorem dX1_meet_5 : decode cX1_meet 5 = .ok (.iconst 0, 1) := by decide +kernel
theorem dX1_meet_6 : decode cX1_meet 6 = .ok (.istore_n 3, 1) := by decide +kernel
theorem dX1_meet_7 : decode cX1_meet 7 = .ok (.iload_n 3, 1) := by decide +kernel
theorem dX1_meet_8 : decode cX1_meet 8 = .ok (.aload_n 0, 1) := by decide +kernel
theorem dX1_meet_9 : decode cX1_meet 9 = .ok (.getfield 50, 3) := by decide +kernel
theorem dX1_meet_12 : decode cX1_meet 12 = .ok (.if_icmp .ge 46, 3) := by decide +kernel
theorem dX1_meet_15 : decode cX1_meet 15 = .ok (.aload_n 0, 1) := by decide +kernel
theorem dX1_meet_16 : decode cX1_meet 16 = .ok (.iload_n 3, 1) := by decide +kernel
theorem dX1_meet_17 : decode cX1_meet 17 = .ok (.iload_n 1, 1) := by decide +kernel
theorem dX1_meet_18 : decode cX1_meet 18 = .ok (.iload_n 2, 1) := by decide +kernel
theorem dX1_meet_19 : decode cX1_meet 19 = .ok (.invokevirtual 80, 3) := by decide +kernel
theorem dX1_meet_22 : decode cX1_meet 22 = .ok (.istore 4, 2) := by decide +kernel
theorem dX1_meet_24 : decode cX1_meet 24 = .ok (.iload 4, 2) := by decide +kernel
theorem dX1_meet_26 : decode cX1_meet 26 = .ok (.iconst (-1), 1) := by decide +kernel
theorem dX1_meet_27 : decode cX1_meet 27 = .ok (.if_icmp .eq 25, 3) := by decide +kernel
theorem dX1_meet_30 : decode cX1_meet 30 = .ok (.aload_n 0, 1) := by decide +kernel
theorem dX1_meet_31 : decode cX1_meet 31 = .ok (.iload_n 3, 1) := by decide +kernel
theorem dX1_meet_32 : decode cX1_meet 32 = .ok (.iload 4, 2) := by decide +kernel
theorem dX1_meet_34 : decode cX1_meet 34 = .ok (.invokevirtual 84, 3) := by decide +kernel
theorem dX1_meet_37 : decode cX1_meet 37 = .ok (.ifCond .eq 15, 3) := by decide +kernel
theorem dX1_meet_40 : decode cX1_meet 40 = .ok (.aload_n 0, 1) := by decide +kernel
theorem dX1_meet_41 : decode cX1_meet 41 = .ok (.dup, 1) := by decide +kernel
theorem dX1_meet_42 : decode cX1_meet 42 = .ok (.getfield 66, 3) := by decide +kernel
theorem dX1_meet_45 : decode cX1_meet 45 = .ok (.iconst 1, 1) := by decide +kernel
theorem dX1_meet_46 : decode cX1_meet 46 = .ok (.iload_n 3, 1) := by decide +kernel
theorem dX1_meet_47 : decode cX1_meet 47 = .ok (.ishl, 1) := by decide +kernel
theorem dX1_meet_48 : decode cX1_meet 48 = .ok (.ior, 1) := by decide +kernel
theorem dX1_meet_49 : decode cX1_meet 49 = .ok (.putfield 66, 3) := by decide +kernel
theorem dX1_meet_52 : decode cX1_meet 52 = .ok (.iinc 3 1, 3) := by decide +kernel
theorem dX1_meet_55 : decode cX1_meet 55 = .ok (.goto (-48), 3) := by decide +kernel
theorem dX1_meet_58 : decode cX1_meet 58 = .ok (.iconst 0, 1) := by decide +kernel
theorem dX1_meet_59 : decode cX1_meet 59 = .ok (.istore_n 3, 1) := by decide +kernel
theorem dX1_meet_60 : decode cX1_meet 60 = .ok (.iload_n 3, 1) := by decide +kernel
theorem dX1_meet_61 : decode cX1_meet 61 = .ok (.aload_n 0, 1) := by decide +kernel
theorem dX1_meet_62 : decode cX1_meet 62 = .ok (.getfield 50, 3) := by decide +kernel
theorem dX1_meet_65 : decode cX1_meet 65 = .ok (.if_icmp .ge 62, 3) := by decide +kernel
theorem dX1_meet_68 : decode cX1_meet 68 = .ok (.aload_n 0, 1) := by decide +kernel
theorem dX1_meet_69 : decode cX1_meet 69 = .ok (.getfield 66, 3) := by decide +kernel
theorem dX1_meet_72 : decode cX1_meet 72 = .ok (.iload_n 3, 1) := by decide +kernel
theorem dX1_meet_73 : decode cX1_meet 73 = .ok (.invokestatic 88, 3) := by decide +kernel
theorem dX1_meet_76 : decode cX1_meet 76 = .ok (.ifCond .eq 45, 3) := by decide +kernel
theorem dX1_meet_79 : decode cX1_meet 79 = .ok (.aload_n 0, 1) := by decide +kernel
theorem dX1_meet_80 : decode cX1_meet 80 = .ok (.getfield 21, 3) := by decide +kernel
theorem dX1_meet_83 : decode cX1_meet 83 = .ok (.iload_n 3, 1) := by decide +kernel
theorem dX1_meet_84 : decode cX1_meet 84 = .ok (.aload_n 0, 1) := by decide +kernel
theorem dX1_meet_85 : decode cX1_meet 85 = .ok (.getfield 21, 3) := by decide +kernel
theorem dX1_meet_88 : decode cX1_meet 88 = .ok (.iload_n 3, 1) := by decide +kernel
theorem dX1_meet_89 : decode cX1_meet 89 = .ok (.iaload, 1) := by decide +kernel
theorem dX1_meet_90 : decode cX1_meet 90 = .ok (.iload_n 1, 1) := by decide +kernel
theorem dX1_meet_91 : decode cX1_meet 91 = .ok (.if_icmp .ne 7, 3) := by decide +kernel
theorem dX1_meet_94 : decode cX1_meet 94 = .ok (.iload_n 2, 1) := by decide +kernel
theorem dX1_meet_95 : decode cX1_meet 95 = .ok (.goto 4, 3) := by decide +kernel
theorem dX1_meet_98 : decode cX1_meet 98 = .ok (.iload_n 1, 1) := by decide +kernel
theorem dX1_meet_99 : decode cX1_meet 99 = .ok (.iastore, 1) := by decide +kernel
theorem dX1_meet_100 : decode cX1_meet 100 = .ok (.aload_n 0, 1) := by decide +kernel
theorem dX1_meet_101 : decode cX1_meet 101 = .ok (.getfield 18, 3) := by decide +kernel
theorem dX1_meet_104 : decode cX1_meet 104 = .ok (.iload_n 3, 1) := by decide +kernel
theorem dX1_meet_105 : decode cX1_meet 105 = .ok (.aload_n 0, 1) := by decide +kernel
theorem dX1_meet_106 : decode cX1_meet 106 = .ok (.getfield 18, 3) := by decide +kernel
theorem dX1_meet_109 : decode cX1_meet 109 = .ok (.iload_n 3, 1) := by decide +kernel
theorem dX1_meet_110 : decode cX1_meet 110 = .ok (.iaload, 1) := by decide +kernel
theorem dX1_meet_111 : decode cX1_meet 111 = .ok (.aload_n 0, 1) := by decide +kernel
theorem dX1_meet_112 : decode cX1_meet 112 = .ok (.iload_n 3, 1) := by decide +kernel
theorem dX1_meet_113 : decode cX1_meet 113 = .ok (.invokevirtual 91, 3) := by decide +kernel
theorem dX1_meet_116 : decode cX1_meet 116 = .ok (.isub, 1) := by decide +kernel
theorem dX1_meet_117 : decode cX1_meet 117 = .ok (.invokestatic 95, 3) := by decide +kernel
theorem dX1_meet_120 : decode cX1_meet 120 = .ok (.iastore, 1) := by decide +kernel
theorem dX1_meet_121 : decode cX1_meet 121 = .ok (.iinc 3 1, 3) := by decide +kernel
theorem dX1_meet_124 : decode cX1_meet 124 = .ok (.goto (-64), 3) := by decide +kernel
theorem dX1_meet_127 : decode cX1_meet 127 = .ok (.return_, 1) := by decide +kernel
set_option maxRecDepth 20000 in
theorem ggX1_goesNow_X1_restNow : GoodIn wsX1_goesNow wsX1_restNow := goodIn_r _ [7, 8, 9, 10, 11, 12, 34, 35, 36, 37, 38, 39, 40, 41, 42, 43] (by decide +kernel) (by decide +kernel)
set_option maxRecDepth 20000 in
theorem gX1_goesNow_X1_restNow : GoodIn wsX1_goesNow (wsV RX1 62 RX1 yX1_restNow wsX1_restNow) := goodIn_app (goodIn_of _ (by decide +kernel)) ggX1_goesNow_X1_restNow
set_option maxRecDepth 20000 in
theorem ggX1_goesNow_X1_targetOf : GoodIn wsX1_goesNow wsX1_targetOf := goodIn_r _ [16, 17, 34, 35, 36, 37, 38, 39, 40, 41, 42, 43] (by decide +kernel) (by decide +kernel)
set_option maxRecDepth 20000 in
theorem gX1_goesNow_X1_targetOf : GoodIn wsX1_goesNow (wsV RX1 80 RX1 yX1_targetOf wsX1_targetOf) := goodIn_app (goodIn_of _ (by decide +kernel)) ggX1_goesNow_X1_targetOf
set_option maxRecDepth 20000 in
theorem ggX1_goesNow_X1_goesTo : GoodIn wsX1_goesNow wsX1_goesTo := goodIn_r _ [21, 22, 23, 24, 8, 17, 25, 26, 27, 6, 28, 29, 30, 31, 32, 33, 34, 35, 36, 37, 38, 39, 40, 41, 42, 43] (by decide +kernel) (by decide +kernel)
set_option maxRecDepth 20000 in
theorem gX1_goesNow_X1_goesTo : GoodIn wsX1_goesNow (wsV RX1 84 RX1 yX1_goesTo wsX1_goesTo) := goodIn_app (goodIn_of _ (by decide +kernel)) ggX1_goesNow_X1_goesTo
theorem dX1_goesNow_0 : decode cX1_goesNow 0 = .ok (.aload_n 0, 1) := by decide +kernel
theorem dX1_goesNow_1 : decode cX1_goesNow 1 = .ok (.invokevirtual 62, 3) := by decide +kernel
theorem dX1_goesNow_4 : decode cX1_goesNow 4 = .ok (.istore_n 2, 1) := by decide +kernel
theorem dX1_goesNow_5 : decode cX1_goesNow 5 = .ok (.aload_n 0, 1) := by decide +kernel
theorem dX1_goesNow_6 : decode cX1_goesNow 6 = .ok (.iload_n 1, 1) := by decide +kernel
theorem dX1_goesNow_7 : decode cX1_goesNow 7 = .ok (.aload_n 0, 1) := by decide +kernel
theorem dX1_goesNow_8 : decode cX1_goesNow 8 = .ok (.getfield 24, 3) := by decide +kernel
theorem dX1_goesNow_11 : decode cX1_goesNow 11 = .ok (.iload_n 2, 1) := by decide +kernel
theorem dX1_goesNow_12 : decode cX1_goesNow 12 = .ok (.iaload, 1) := by decide +kernel
theorem dX1_goesNow_13 : decode cX1_goesNow 13 = .ok (.aload_n 0, 1) := by decide +kernel
theorem dX1_goesNow_14 : decode cX1_goesNow 14 = .ok (.getfield 27, 3) := by decide +kernel
theorem dX1_goesNow_17 : decode cX1_goesNow 17 = .ok (.iload_n 2, 1) := by decide +kernel
theorem dX1_goesNow_18 : decode cX1_goesNow 18 = .ok (.iaload, 1) := by decide +kernel
theorem dX1_goesNow_19 : decode cX1_goesNow 19 = .ok (.invokevirtual 80, 3) := by decide +kernel
theorem dX1_goesNow_22 : decode cX1_goesNow 22 = .ok (.istore_n 3, 1) := by decide +kernel
theorem dX1_goesNow_23 : decode cX1_goesNow 23 = .ok (.iload_n 3, 1) := by decide +kernel
theorem dX1_goesNow_24 : decode cX1_goesNow 24 = .ok (.iconst (-1), 1) := by decide +kernel
theorem dX1_goesNow_25 : decode cX1_goesNow 25 = .ok (.if_icmp .eq 16, 3) := by decide +kernel
theorem dX1_goesNow_28 : decode cX1_goesNow 28 = .ok (.aload_n 0, 1) := by decide +kernel
theorem dX1_goesNow_29 : decode cX1_goesNow 29 = .ok (.iload_n 1, 1) := by decide +kernel
theorem dX1_goesNow_30 : decode cX1_goesNow 30 = .ok (.iload_n 3, 1) := by decide +kernel
theorem dX1_goesNow_31 : decode cX1_goesNow 31 = .ok (.invokevirtual 84, 3) := by decide +kernel
theorem dX1_goesNow_34 : decode cX1_goesNow 34 = .ok (.ifCond .eq 7, 3) := by decide +kernel
theorem dX1_goesNow_37 : decode cX1_goesNow 37 = .ok (.iconst 1, 1) := by decide +kernel
theorem dX1_goesNow_38 : decode cX1_goesNow 38 = .ok (.goto 4, 3) := by decide +kernel
theorem dX1_goesNow_41 : decode cX1_goesNow 41 = .ok (.iconst 0, 1) := by decide +kernel
theorem dX1_goesNow_42 : decode cX1_goesNow 42 = .ok (.ireturn, 1) := by decide +kernel
theorem dX1_targetOf_0 : decode cX1_targetOf 0 = .ok (.aload_n 0, 1) := by decide +kernel
theorem dX1_targetOf_1 : decode cX1_targetOf 1 = .ok (.getfield 21, 3) := by decide +kernel
theorem dX1_targetOf_4 : decode cX1_targetOf 4 = .ok (.iload_n 1, 1) := by decide +kernel
theorem dX1_targetOf_5 : decode cX1_targetOf 5 = .ok (.iaload, 1) := by decide +kernel
theorem dX1_targetOf_6 : decode cX1_targetOf 6 = .ok (.iload_n 2, 1) := by decide +kernel
theorem dX1_targetOf_7 : decode cX1_targetOf 7 = .ok (.if_icmp .ne 5, 3) := by decide +kernel
theorem dX1_targetOf_10 : decode cX1_targetOf 10 = .ok (.iload_n 3, 1) := by decide +kernel
theorem dX1_targetOf_11 : decode cX1_targetOf 11 = .ok (.ireturn, 1) := by decide +kernel
theorem dX1_targetOf_12 : decode cX1_targetOf 12 = .ok (.aload_n 0, 1) := by decide +kernel
theorem dX1_targetOf_13 : decode cX1_targetOf 13 = .ok (.getfield 21, 3) := by decide +kernel
theorem dX1_targetOf_16 : decode cX1_targetOf 16 = .ok (.iload_n 1, 1) := by decide +kernel
theorem dX1_targetOf_17 : decode cX1_targetOf 17 = .ok (.iaload, 1) := by decide +kernel
theorem dX1_targetOf_18 : decode cX1_targetOf 18 = .ok (.iload_n 3, 1) := by decide +kernel
theorem dX1_targetOf_19 : decode cX1_targetOf 19 = .ok (.if_icmp .ne 7, 3) := by decide +kernel
theorem dX1_targetOf_22 : decode cX1_targetOf 22 = .ok (.iload_n 2, 1) := by decide +kernel
theorem dX1_targetOf_23 : decode cX1_targetOf 23 = .ok (.goto 4, 3) := by decide +kernel
theorem dX1_targetOf_26 : decode cX1_targetOf 26 = .ok (.iconst (-1), 1) := by decide +kernel
theorem dX1_targetOf_27 : decode cX1_targetOf 27 = .ok (.ireturn, 1) := by decide +kernel
set_option maxRecDepth 20000 in
theorem ggX1_goesTo_X1_loadOf : GoodIn wsX1_goesTo wsX1_loadOf := goodIn_r _ [10, 11, 5, 16, 17, 18, 19, 20, 21, 22, 23, 24, 25] (by decide +kernel) (by decide +kernel)
set_option maxRecDepth 20000 in
theorem gX1_goesTo_X1_loadOf : GoodIn wsX1_goesTo (wsV RX1 98 RX1 yX1_loadOf wsX1_loadOf) := goodIn_app (goodIn_of _ (by decide +kernel)) ggX1_goesTo_X1_loadOf
set_option maxRecDepth 20000 in
theorem ggX1_goesTo_X1_isNameOn : GoodIn wsX1_goesTo wsX1_isNameOn := goodIn_r _ [15, 11, 5, 2, 16, 17, 18, 19, 20, 21, 22, 23, 24, 25] (by decide +kernel) (by decide +kernel)
set_option maxRecDepth 20000 in
theorem gX1_goesTo_X1_isNameOn : GoodIn wsX1_goesTo (wsV RX1 101 RX1 yX1_isNameOn wsX1_isNameOn) := goodIn_app (goodIn_of _ (by decide +kernel)) ggX1_goesTo_X1_isNameOn
theorem dX1_goesTo_0 : decode cX1_goesTo 0 = .ok (.aload_n 0, 1) := by decide +kernel
theorem dX1_goesTo_1 : decode cX1_goesTo 1 = .ok (.getfield 18, 3) := by decide +kernel
theorem dX1_goesTo_4 : decode cX1_goesTo 4 = .ok (.iload_n 1, 1) := by decide +kernel
theorem dX1_goesTo_5 : decode cX1_goesTo 5 = .ok (.iaload, 1) := by decide +kernel
theorem dX1_goesTo_6 : decode cX1_goesTo 6 = .ok (.ifCond .le 7, 3) := by decide +kernel
theorem dX1_goesTo_9 : decode cX1_goesTo 9 = .ok (.iconst 1, 1) := by decide +kernel
theorem dX1_goesTo_10 : decode cX1_goesTo 10 = .ok (.goto 4, 3) := by decide +kernel
theorem dX1_goesTo_13 : decode cX1_goesTo 13 = .ok (.iconst 0, 1) := by decide +kernel
theorem dX1_goesTo_14 : decode cX1_goesTo 14 = .ok (.istore_n 3, 1) := by decide +kernel
theorem dX1_goesTo_15 : decode cX1_goesTo 15 = .ok (.aload_n 0, 1) := by decide +kernel
theorem dX1_goesTo_16 : decode cX1_goesTo 16 = .ok (.getfield 15, 3) := by decide +kernel
theorem dX1_goesTo_19 : decode cX1_goesTo 19 = .ok (.iload_n 1, 1) := by decide +kernel
theorem dX1_goesTo_20 : decode cX1_goesTo 20 = .ok (.iaload, 1) := by decide +kernel
theorem dX1_goesTo_21 : decode cX1_goesTo 21 = .ok (.tableswitch 165 1 5 #[35, 92, 59, 112, 147], 35) := by decide +kernel
theorem dX1_goesTo_56 : decode cX1_goesTo 56 = .ok (.iload_n 3, 1) := by decide +kernel
theorem dX1_goesTo_57 : decode cX1_goesTo 57 = .ok (.ifCond .eq 21, 3) := by decide +kernel
theorem dX1_goesTo_60 : decode cX1_goesTo 60 = .ok (.aload_n 0, 1) := by decide +kernel
theorem dX1_goesTo_61 : decode cX1_goesTo 61 = .ok (.iload_n 2, 1) := by decide +kernel
theorem dX1_goesTo_62 : decode cX1_goesTo 62 = .ok (.invokevirtual 98, 3) := by decide +kernel
theorem dX1_goesTo_65 : decode cX1_goesTo 65 = .ok (.aload_n 0, 1) := by decide +kernel
theorem dX1_goesTo_66 : decode cX1_goesTo 66 = .ok (.getfield 9, 3) := by decide +kernel
theorem dX1_goesTo_69 : decode cX1_goesTo 69 = .ok (.iconst 0, 1) := by decide +kernel
theorem dX1_goesTo_70 : decode cX1_goesTo 70 = .ok (.iaload, 1) := by decide +kernel
theorem dX1_goesTo_71 : decode cX1_goesTo 71 = .ok (.if_icmp .ge 7, 3) := by decide +kernel
theorem dX1_goesTo_74 : decode cX1_goesTo 74 = .ok (.iconst 1, 1) := by decide +kernel
theorem dX1_goesTo_75 : decode cX1_goesTo 75 = .ok (.goto 4, 3) := by decide +kernel
theorem dX1_goesTo_78 : decode cX1_goesTo 78 = .ok (.iconst 0, 1) := by decide +kernel
theorem dX1_goesTo_79 : decode cX1_goesTo 79 = .ok (.ireturn, 1) := by decide +kernel
theorem dX1_goesTo_80 : decode cX1_goesTo 80 = .ok (.iload_n 3, 1) := by decide +kernel
theorem dX1_goesTo_81 : decode cX1_goesTo 81 = .ok (.ifCond .eq 30, 3) := by decide +kernel
theorem dX1_goesTo_84 : decode cX1_goesTo 84 = .ok (.aload_n 0, 1) := by decide +kernel
theorem dX1_goesTo_85 : decode cX1_goesTo 85 = .ok (.iload_n 2, 1) := by decide +kernel
theorem dX1_goesTo_86 : decode cX1_goesTo 86 = .ok (.invokevirtual 98, 3) := by decide +kernel
theorem dX1_goesTo_89 : decode cX1_goesTo 89 = .ok (.aload_n 0, 1) := by decide +kernel
theorem dX1_goesTo_90 : decode cX1_goesTo 90 = .ok (.getfield 9, 3) := by decide +kernel
theorem dX1_goesTo_93 : decode cX1_goesTo 93 = .ok (.iconst 0, 1) := by decide +kernel
theorem dX1_goesTo_94 : decode cX1_goesTo 94 = .ok (.iaload, 1) := by decide +kernel
theorem dX1_goesTo_95 : decode cX1_goesTo 95 = .ok (.if_icmp .ge 16, 3) := by decide +kernel
theorem dX1_goesTo_98 : decode cX1_goesTo 98 = .ok (.aload_n 0, 1) := by decide +kernel
theorem dX1_goesTo_99 : decode cX1_goesTo 99 = .ok (.getfield 53, 3) := by decide +kernel
theorem dX1_goesTo_102 : decode cX1_goesTo 102 = .ok (.iconst 1, 1) := by decide +kernel
theorem dX1_goesTo_103 : decode cX1_goesTo 103 = .ok (.iand, 1) := by decide +kernel
theorem dX1_goesTo_104 : decode cX1_goesTo 104 = .ok (.ifCond .ne 7, 3) := by decide +kernel
theorem dX1_goesTo_107 : decode cX1_goesTo 107 = .ok (.iconst 1, 1) := by decide +kernel
theorem dX1_goesTo_108 : decode cX1_goesTo 108 = .ok (.goto 4, 3) := by decide +kernel
theorem dX1_goesTo_111 : decode cX1_goesTo 111 = .ok (.iconst 0, 1) := by decide +kernel
theorem dX1_goesTo_112 : decode cX1_goesTo 112 = .ok (.ireturn, 1) := by decide +kernel
theorem dX1_goesTo_113 : decode cX1_goesTo 113 = .ok (.iload_n 3, 1) := by decide +kernel
theorem dX1_goesTo_114 : decode cX1_goesTo 114 = .ok (.ifCond .eq 17, 3) := by decide +kernel
theorem dX1_goesTo_117 : decode cX1_goesTo 117 = .ok (.iload_n 2, 1) := by decide +kernel
theorem dX1_goesTo_118 : decode cX1_goesTo 118 = .ok (.aload_n 0, 1) := by decide +kernel
theorem dX1_goesTo_119 : decode cX1_goesTo 119 = .ok (.getfield 21, 3) := by decide +kernel
theorem dX1_goesTo_122 : decode cX1_goesTo 122 = .ok (.iload_n 1, 1) := by decide +kernel
theorem dX1_goesTo_123 : decode cX1_goesTo 123 = .ok (.iaload, 1) := by decide +kernel
theorem dX1_goesTo_124 : decode cX1_goesTo 124 = .ok (.if_icmp .le 7, 3) := by decide +kernel
theorem dX1_goesTo_127 : decode cX1_goesTo 127 = .ok (.iconst 1, 1) := by decide +kernel
theorem dX1_goesTo_128 : decode cX1_goesTo 128 = .ok (.goto 4, 3) := by decide +kernel
theorem dX1_goesTo_131 : decode cX1_goesTo 131 = .ok (.iconst 0, 1) := by decide +kernel
theorem dX1_goesTo_132 : decode cX1_goesTo 132 = .ok (.ireturn, 1) := by decide +kernel
theorem dX1_goesTo_133 : decode cX1_goesTo 133 = .ok (.iload_n 3, 1) := by decide +kernel
theorem dX1_goesTo_134 : decode cX1_goesTo 134 = .ok (.ifCond .eq 13, 3) := by decide +kernel
theorem dX1_goesTo_137 : decode cX1_goesTo 137 = .ok (.iload_n 2, 1) := by decide +kernel
theorem dX1_goesTo_138 : decode cX1_goesTo 138 = .ok (.aload_n 0, 1) := by decide +kernel
theorem dX1_goesTo_139 : decode cX1_goesTo 139 = .ok (.getfield 21, 3) := by decide +kernel
theorem dX1_goesTo_142 : decode cX1_goesTo 142 = .ok (.iload_n 1, 1) := by decide +kernel
theorem dX1_goesTo_143 : decode cX1_goesTo 143 = .ok (.iaload, 1) := by decide +kernel
theorem dX1_goesTo_144 : decode cX1_goesTo 144 = .ok (.if_icmp .gt 18, 3) := by decide +kernel
theorem dX1_goesTo_147 : decode cX1_goesTo 147 = .ok (.aload_n 0, 1) := by decide +kernel
theorem dX1_goesTo_148 : decode cX1_goesTo 148 = .ok (.getfield 18, 3) := by decide +kernel
theorem dX1_goesTo_151 : decode cX1_goesTo 151 = .ok (.iload_n 1, 1) := by decide +kernel
theorem dX1_goesTo_152 : decode cX1_goesTo 152 = .ok (.iaload, 1) := by decide +kernel
theorem dX1_goesTo_153 : decode cX1_goesTo 153 = .ok (.aload_n 0, 1) := by decide +kernel
theorem dX1_goesTo_154 : decode cX1_goesTo 154 = .ok (.getfield 9, 3) := by decide +kernel
theorem dX1_goesTo_157 : decode cX1_goesTo 157 = .ok (.iconst 2, 1) := by decide +kernel
theorem dX1_goesTo_158 : decode cX1_goesTo 158 = .ok (.iaload, 1) := by decide +kernel
theorem dX1_goesTo_159 : decode cX1_goesTo 159 = .ok (.if_icmp .lt 7, 3) := by decide +kernel
theorem dX1_goesTo_162 : decode cX1_goesTo 162 = .ok (.iconst 1, 1) := by decide +kernel
theorem dX1_goesTo_163 : decode cX1_goesTo 163 = .ok (.goto 4, 3) := by decide +kernel
theorem dX1_goesTo_166 : decode cX1_goesTo 166 = .ok (.iconst 0, 1) := by decide +kernel
theorem dX1_goesTo_167 : decode cX1_goesTo 167 = .ok (.ireturn, 1) := by decide +kernel
theorem dX1_goesTo_168 : decode cX1_goesTo 168 = .ok (.iload_n 3, 1) := by decide +kernel
theorem dX1_goesTo_169 : decode cX1_goesTo 169 = .ok (.ifCond .eq 15, 3) := by decide +kernel
theorem dX1_goesTo_172 : decode cX1_goesTo 172 = .ok (.aload_n 0, 1) := by decide +kernel
theorem dX1_goesTo_173 : decode cX1_goesTo 173 = .ok (.iload_n 2, 1) := by decide +kernel
theorem dX1_goesTo_174 : decode cX1_goesTo 174 = .ok (.invokevirtual 101, 3) := by decide +kernel
theorem dX1_goesTo_177 : decode cX1_goesTo 177 = .ok (.ifCond .ne 7, 3) := by decide +kernel
theorem dX1_goesTo_180 : decode cX1_goesTo 180 = .ok (.iconst 1, 1) := by decide +kernel
theorem dX1_goesTo_181 : decode cX1_goesTo 181 = .ok (.goto 4, 3) := by decide +kernel
theorem dX1_goesTo_184 : decode cX1_goesTo 184 = .ok (.iconst 0, 1) := by decide +kernel
theorem dX1_goesTo_185 : decode cX1_goesTo 185 = .ok (.ireturn, 1) := by decide +kernel
theorem dX1_goesTo_186 : decode cX1_goesTo 186 = .ok (.iload_n 3, 1) := by decide +kernel
theorem dX1_goesTo_187 : decode cX1_goesTo 187 = .ok (.ireturn, 1) := by decide +kernel
theorem dX1_fading_0 : decode cX1_fading 0 = .ok (.aload_n 0, 1) := by decide +kernel
theorem dX1_fading_1 : decode cX1_fading 1 = .ok (.getfield 9, 3) := by decide +kernel
theorem dX1_fading_4 : decode cX1_fading 4 = .ok (.iconst 1, 1) := by decide +kernel
theorem dX1_fading_5 : decode cX1_fading 5 = .ok (.iaload, 1) := by decide +kernel
theorem dX1_fading_6 : decode cX1_fading 6 = .ok (.istore_n 2, 1) := by decide +kernel
theorem dX1_fading_7 : decode cX1_fading 7 = .ok (.aload_n 0, 1) := by decide +kernel
theorem dX1_fading_8 : decode cX1_fading 8 = .ok (.getfield 15, 3) := by decide +kernel
theorem dX1_fading_11 : decode cX1_fading 11 = .ok (.iload_n 1, 1) := by decide +kernel
theorem dX1_fading_12 : decode cX1_fading 12 = .ok (.iaload, 1) := by decide +kernel
theorem dX1_fading_13 : decode cX1_fading 13 = .ok (.tableswitch 62 1 5 #[35, 45, 39, 49, 60], 35) := by decide +kernel
theorem dX1_fading_48 : decode cX1_fading 48 = .ok (.iload_n 2, 1) := by decide +kernel
theorem dX1_fading_49 : decode cX1_fading 49 = .ok (.iconst 1, 1) := by decide +kernel
theorem dX1_fading_50 : decode cX1_fading 50 = .ok (.iadd, 1) := by decide +kernel
theorem dX1_fading_51 : decode cX1_fading 51 = .ok (.ireturn, 1) := by decide +kernel
theorem dX1_fading_52 : decode cX1_fading 52 = .ok (.iload_n 2, 1) := by decide +kernel
theorem dX1_fading_53 : decode cX1_fading 53 = .ok (.iconst 1, 1) := by decide +kernel
theorem dX1_fading_54 : decode cX1_fading 54 = .ok (.iadd, 1) := by decide +kernel
theorem dX1_fading_55 : decode cX1_fading 55 = .ok (.iconst 2, 1) := by decide +kernel
theorem dX1_fading_56 : decode cX1_fading 56 = .ok (.imul, 1) := by decide +kernel
theorem dX1_fading_57 : decode cX1_fading 57 = .ok (.ireturn, 1) := by decide +kernel
theorem dX1_fading_58 : decode cX1_fading 58 = .ok (.iload_n 2, 1) := by decide +kernel
theorem dX1_fading_59 : decode cX1_fading 59 = .ok (.iconst 2, 1) := by decide +kernel
theorem dX1_fading_60 : decode cX1_fading 60 = .ok (.isub, 1) := by decide +kernel
theorem dX1_fading_61 : decode cX1_fading 61 = .ok (.ireturn, 1) := by decide +kernel
theorem dX1_fading_62 : decode cX1_fading 62 = .ok (.iload_n 2, 1) := by decide +kernel
theorem dX1_fading_63 : decode cX1_fading 63 = .ok (.iconst 2, 1) := by decide +kernel
theorem dX1_fading_64 : decode cX1_fading 64 = .ok (.isub, 1) := by decide +kernel
theorem dX1_fading_65 : decode cX1_fading 65 = .ok (.aload_n 0, 1) := by decide +kernel
theorem dX1_fading_66 : decode cX1_fading 66 = .ok (.getfield 9, 3) := by decide +kernel
theorem dX1_fading_69 : decode cX1_fading 69 = .ok (.iconst 2, 1) := by decide +kernel
theorem dX1_fading_70 : decode cX1_fading 70 = .ok (.iaload, 1) := by decide +kernel
theorem dX1_fading_71 : decode cX1_fading 71 = .ok (.isub, 1) := by decide +kernel
theorem dX1_fading_72 : decode cX1_fading 72 = .ok (.ireturn, 1) := by decide +kernel
theorem dX1_fading_73 : decode cX1_fading 73 = .ok (.iconst 0, 1) := by decide +kernel
theorem dX1_fading_74 : decode cX1_fading 74 = .ok (.ireturn, 1) := by decide +kernel
theorem dX1_fading_75 : decode cX1_fading 75 = .ok (.iload_n 2, 1) := by decide +kernel
theorem dX1_fading_76 : decode cX1_fading 76 = .ok (.ireturn, 1) := by decide +kernel
theorem dX1_loadOf_0 : decode cX1_loadOf 0 = .ok (.iconst 0, 1) := by decide +kernel
theorem dX1_loadOf_1 : decode cX1_loadOf 1 = .ok (.istore_n 2, 1) := by decide +kernel
theorem dX1_loadOf_2 : decode cX1_loadOf 2 = .ok (.iconst 0, 1) := by decide +kernel
theorem dX1_loadOf_3 : decode cX1_loadOf 3 = .ok (.istore_n 3, 1) := by decide +kernel
theorem dX1_loadOf_4 : decode cX1_loadOf 4 = .ok (.iload_n 3, 1) := by decide +kernel
theorem dX1_loadOf_5 : decode cX1_loadOf 5 = .ok (.aload_n 0, 1) := by decide +kernel
theorem dX1_loadOf_6 : decode cX1_loadOf 6 = .ok (.getfield 50, 3) := by decide +kernel
theorem dX1_loadOf_9 : decode cX1_loadOf 9 = .ok (.if_icmp .ge 22, 3) := by decide +kernel
theorem dX1_loadOf_12 : decode cX1_loadOf 12 = .ok (.aload_n 0, 1) := by decide +kernel
theorem dX1_loadOf_13 : decode cX1_loadOf 13 = .ok (.getfield 21, 3) := by decide +kernel
theorem dX1_loadOf_16 : decode cX1_loadOf 16 = .ok (.iload_n 3, 1) := by decide +kernel
theorem dX1_loadOf_17 : decode cX1_loadOf 17 = .ok (.iaload, 1) := by decide +kernel
theorem dX1_loadOf_18 : decode cX1_loadOf 18 = .ok (.iload_n 1, 1) := by decide +kernel
theorem dX1_loadOf_19 : decode cX1_loadOf 19 = .ok (.if_icmp .ne 6, 3) := by decide +kernel
theorem dX1_loadOf_22 : decode cX1_loadOf 22 = .ok (.iinc 2 1, 3) := by decide +kernel
theorem dX1_loadOf_25 : decode cX1_loadOf 25 = .ok (.iinc 3 1, 3) := by decide +kernel
theorem dX1_loadOf_28 : decode cX1_loadOf 28 = .ok (.goto (-24), 3) := by decide +kernel
theorem dX1_loadOf_31 : decode cX1_loadOf 31 = .ok (.iload_n 2, 1) := by decide +kernel
theorem dX1_loadOf_32 : decode cX1_loadOf 32 = .ok (.ireturn, 1) := by decide +kernel
theorem dX1_isNameOn_0 : decode cX1_isNameOn 0 = .ok (.iconst 0, 1) := by decide +kernel
theorem dX1_isNameOn_1 : decode cX1_isNameOn 1 = .ok (.istore_n 2, 1) := by decide +kernel
theorem dX1_isNameOn_2 : decode cX1_isNameOn 2 = .ok (.iload_n 2, 1) := by decide +kernel
theorem dX1_isNameOn_3 : decode cX1_isNameOn 3 = .ok (.aload_n 0, 1) := by decide +kernel
theorem dX1_isNameOn_4 : decode cX1_isNameOn 4 = .ok (.getfield 50, 3) := by decide +kernel
theorem dX1_isNameOn_7 : decode cX1_isNameOn 7 = .ok (.if_icmp .ge 31, 3) := by decide +kernel
theorem dX1_isNameOn_10 : decode cX1_isNameOn 10 = .ok (.aload_n 0, 1) := by decide +kernel
theorem dX1_isNameOn_11 : decode cX1_isNameOn 11 = .ok (.getfield 21, 3) := by decide +kernel
theorem dX1_isNameOn_14 : decode cX1_isNameOn 14 = .ok (.iload_n 2, 1) := by decide +kernel
theorem dX1_isNameOn_15 : decode cX1_isNameOn 15 = .ok (.iaload, 1) := by decide +kernel
theorem dX1_isNameOn_16 : decode cX1_isNameOn 16 = .ok (.iload_n 1, 1) := by decide +kernel
theorem dX1_isNameOn_17 : decode cX1_isNameOn 17 = .ok (.if_icmp .ne 15, 3) := by decide +kernel
theorem dX1_isNameOn_20 : decode cX1_isNameOn 20 = .ok (.aload_n 0, 1) := by decide +kernel
theorem dX1_isNameOn_21 : decode cX1_isNameOn 21 = .ok (.getfield 15, 3) := by decide +kernel
theorem dX1_isNameOn_24 : decode cX1_isNameOn 24 = .ok (.iload_n 2, 1) := by decide +kernel
theorem dX1_isNameOn_25 : decode cX1_isNameOn 25 = .ok (.iaload, 1) := by decide +kernel
theorem dX1_isNameOn_26 : decode cX1_isNameOn 26 = .ok (.iconst 5, 1) := by decide +kernel
theorem dX1_isNameOn_27 : decode cX1_isNameOn 27 = .ok (.if_icmp .ne 5, 3) := by decide +kernel
theorem dX1_isNameOn_30 : decode cX1_isNameOn 30 = .ok (.iconst 1, 1) := by decide +kernel
theorem dX1_isNameOn_31 : decode cX1_isNameOn 31 = .ok (.ireturn, 1) := by decide +kernel
theorem dX1_isNameOn_32 : decode cX1_isNameOn 32 = .ok (.iinc 2 1, 3) := by decide +kernel
theorem dX1_isNameOn_35 : decode cX1_isNameOn 35 = .ok (.goto (-33), 3) := by decide +kernel
theorem dX1_isNameOn_38 : decode cX1_isNameOn 38 = .ok (.iconst 0, 1) := by decide +kernel
theorem dX1_isNameOn_39 : decode cX1_isNameOn 39 = .ok (.ireturn, 1) := by decide +kernel
theorem dX1_marksOn_0 : decode cX1_marksOn 0 = .ok (.iconst 0, 1) := by decide +kernel
theorem dX1_marksOn_1 : decode cX1_marksOn 1 = .ok (.istore_n 2, 1) := by decide +kernel
theorem dX1_marksOn_2 : decode cX1_marksOn 2 = .ok (.iconst 0, 1) := by decide +kernel
theorem dX1_marksOn_3 : decode cX1_marksOn 3 = .ok (.istore_n 3, 1) := by decide +kernel
theorem dX1_marksOn_4 : decode cX1_marksOn 4 = .ok (.iload_n 3, 1) := by decide +kernel
theorem dX1_marksOn_5 : decode cX1_marksOn 5 = .ok (.aload_n 0, 1) := by decide +kernel
theorem dX1_marksOn_6 : decode cX1_marksOn 6 = .ok (.getfield 50, 3) := by decide +kernel
theorem dX1_marksOn_9 : decode cX1_marksOn 9 = .ok (.if_icmp .ge 25, 3) := by decide +kernel
theorem dX1_marksOn_12 : decode cX1_marksOn 12 = .ok (.aload_n 0, 1) := by decide +kernel
theorem dX1_marksOn_13 : decode cX1_marksOn 13 = .ok (.getfield 21, 3) := by decide +kernel
theorem dX1_marksOn_16 : decode cX1_marksOn 16 = .ok (.iload_n 3, 1) := by decide +kernel
theorem dX1_marksOn_17 : decode cX1_marksOn 17 = .ok (.iaload, 1) := by decide +kernel
theorem dX1_marksOn_18 : decode cX1_marksOn 18 = .ok (.iload_n 1, 1) := by decide +kernel
theorem dX1_marksOn_19 : decode cX1_marksOn 19 = .ok (.if_icmp .ne 9, 3) := by decide +kernel
theorem dX1_marksOn_22 : decode cX1_marksOn 22 = .ok (.iload_n 2, 1) := by decide +kernel
theorem dX1_marksOn_23 : decode cX1_marksOn 23 = .ok (.iconst 1, 1) := by decide +kernel
theorem dX1_marksOn_24 : decode cX1_marksOn 24 = .ok (.iload_n 3, 1) := by decide +kernel
theorem dX1_marksOn_25 : decode cX1_marksOn 25 = .ok (.ishl, 1) := by decide +kernel
theorem dX1_marksOn_26 : decode cX1_marksOn 26 = .ok (.ior, 1) := by decide +kernel
theorem dX1_marksOn_27 : decode cX1_marksOn 27 = .ok (.istore_n 2, 1) := by decide +kernel
theorem dX1_marksOn_28 : decode cX1_marksOn 28 = .ok (.iinc 3 1, 3) := by decide +kernel
theorem dX1_marksOn_31 : decode cX1_marksOn 31 = .ok (.goto (-27), 3) := by decide +kernel
theorem dX1_marksOn_34 : decode cX1_marksOn 34 = .ok (.iload_n 2, 1) := by decide +kernel
theorem dX1_marksOn_35 : decode cX1_marksOn 35 = .ok (.ireturn, 1) := by decide +kernel
theorem dX1_marked_0 : decode cX1_marked 0 = .ok (.iconst 0, 1) := by decide +kernel
theorem dX1_marked_1 : decode cX1_marked 1 = .ok (.istore_n 1, 1) := by decide +kernel
theorem dX1_marked_2 : decode cX1_marked 2 = .ok (.iconst 0, 1) := by decide +kernel
theorem dX1_marked_3 : decode cX1_marked 3 = .ok (.istore_n 2, 1) := by decide +kernel
theorem dX1_marked_4 : decode cX1_marked 4 = .ok (.iload_n 2, 1) := by decide +kernel
theorem dX1_marked_5 : decode cX1_marked 5 = .ok (.aload_n 0, 1) := by decide +kernel
theorem dX1_marked_6 : decode cX1_marked 6 = .ok (.getfield 50, 3) := by decide +kernel
theorem dX1_marked_9 : decode cX1_marked 9 = .ok (.if_icmp .ge 20, 3) := by decide +kernel
theorem dX1_marked_12 : decode cX1_marked 12 = .ok (.iload_n 1, 1) := by decide +kernel
theorem dX1_marked_13 : decode cX1_marked 13 = .ok (.iconst 1, 1) := by decide +kernel
theorem dX1_marked_14 : decode cX1_marked 14 = .ok (.aload_n 0, 1) := by decide +kernel
theorem dX1_marked_15 : decode cX1_marked 15 = .ok (.getfield 21, 3) := by decide +kernel
theorem dX1_marked_18 : decode cX1_marked 18 = .ok (.iload_n 2, 1) := by decide +kernel
theorem dX1_marked_19 : decode cX1_marked 19 = .ok (.iaload, 1) := by decide +kernel
theorem dX1_marked_20 : decode cX1_marked 20 = .ok (.ishl, 1) := by decide +kernel
theorem dX1_marked_21 : decode cX1_marked 21 = .ok (.ior, 1) := by decide +kernel
theorem dX1_marked_22 : decode cX1_marked 22 = .ok (.istore_n 1, 1) := by decide +kernel
theorem dX1_marked_23 : decode cX1_marked 23 = .ok (.iinc 2 1, 3) := by decide +kernel
theorem dX1_marked_26 : decode cX1_marked 26 = .ok (.goto (-22), 3) := by decide +kernel
theorem dX1_marked_29 : decode cX1_marked 29 = .ok (.iload_n 1, 1) := by decide +kernel
theorem dX1_marked_30 : decode cX1_marked 30 = .ok (.ireturn, 1) := by decide +kernel
theorem dX1_dried_0 : decode cX1_dried 0 = .ok (.iconst 0, 1) := by decide +kernel
theorem dX1_dried_1 : decode cX1_dried 1 = .ok (.istore_n 1, 1) := by decide +kernel
theorem dX1_dried_2 : decode cX1_dried 2 = .ok (.iconst 0, 1) := by decide +kernel
theorem dX1_dried_3 : decode cX1_dried 3 = .ok (.istore_n 2, 1) := by decide +kernel
theorem dX1_dried_4 : decode cX1_dried 4 = .ok (.iload_n 2, 1) := by decide +kernel
theorem dX1_dried_5 : decode cX1_dried 5 = .ok (.aload_n 0, 1) := by decide +kernel
theorem dX1_dried_6 : decode cX1_dried 6 = .ok (.getfield 50, 3) := by decide +kernel
theorem dX1_dried_9 : decode cX1_dried 9 = .ok (.if_icmp .ge 24, 3) := by decide +kernel
theorem dX1_dried_12 : decode cX1_dried 12 = .ok (.aload_n 0, 1) := by decide +kernel
theorem dX1_dried_13 : decode cX1_dried 13 = .ok (.getfield 18, 3) := by decide +kernel
theorem dX1_dried_16 : decode cX1_dried 16 = .ok (.iload_n 2, 1) := by decide +kernel
theorem dX1_dried_17 : decode cX1_dried 17 = .ok (.iaload, 1) := by decide +kernel
theorem dX1_dried_18 : decode cX1_dried 18 = .ok (.ifCond .ne 9, 3) := by decide +kernel
theorem dX1_dried_21 : decode cX1_dried 21 = .ok (.iload_n 1, 1) := by decide +kernel
theorem dX1_dried_22 : decode cX1_dried 22 = .ok (.iconst 1, 1) := by decide +kernel
theorem dX1_dried_23 : decode cX1_dried 23 = .ok (.iload_n 2, 1) := by decide +kernel
theorem dX1_dried_24 : decode cX1_dried 24 = .ok (.ishl, 1) := by decide +kernel
theorem dX1_dried_25 : decode cX1_dried 25 = .ok (.ior, 1) := by decide +kernel
theorem dX1_dried_26 : decode cX1_dried 26 = .ok (.istore_n 1, 1) := by decide +kernel
theorem dX1_dried_27 : decode cX1_dried 27 = .ok (.iinc 2 1, 3) := by decide +kernel
theorem dX1_dried_30 : decode cX1_dried 30 = .ok (.goto (-26), 3) := by decide +kernel
theorem dX1_dried_33 : decode cX1_dried 33 = .ok (.iload_n 1, 1) := by decide +kernel
theorem dX1_dried_34 : decode cX1_dried 34 = .ok (.ireturn, 1) := by decide +kernel
theorem dX1_allInk_0 : decode cX1_allInk 0 = .ok (.iconst 0, 1) := by decide +kernel
theorem dX1_allInk_1 : decode cX1_allInk 1 = .ok (.istore_n 1, 1) := by decide +kernel
theorem dX1_allInk_2 : decode cX1_allInk 2 = .ok (.iconst 0, 1) := by decide +kernel
theorem dX1_allInk_3 : decode cX1_allInk 3 = .ok (.istore_n 2, 1) := by decide +kernel
theorem dX1_allInk_4 : decode cX1_allInk 4 = .ok (.iload_n 2, 1) := by decide +kernel
theorem dX1_allInk_5 : decode cX1_allInk 5 = .ok (.aload_n 0, 1) := by decide +kernel
theorem dX1_allInk_6 : decode cX1_allInk 6 = .ok (.getfield 50, 3) := by decide +kernel
theorem dX1_allInk_9 : decode cX1_allInk 9 = .ok (.if_icmp .ge 18, 3) := by decide +kernel
theorem dX1_allInk_12 : decode cX1_allInk 12 = .ok (.iload_n 1, 1) := by decide +kernel
theorem dX1_allInk_13 : decode cX1_allInk 13 = .ok (.aload_n 0, 1) := by decide +kernel
theorem dX1_allInk_14 : decode cX1_allInk 14 = .ok (.getfield 18, 3) := by decide +kernel
theorem dX1_allInk_17 : decode cX1_allInk 17 = .ok (.iload_n 2, 1) := by decide +kernel
theorem dX1_allInk_18 : decode cX1_allInk 18 = .ok (.iaload, 1) := by decide +kernel
theorem dX1_allInk_19 : decode cX1_allInk 19 = .ok (.iadd, 1) := by decide +kernel
theorem dX1_allInk_20 : decode cX1_allInk 20 = .ok (.istore_n 1, 1) := by decide +kernel
theorem dX1_allInk_21 : decode cX1_allInk 21 = .ok (.iinc 2 1, 3) := by decide +kernel
theorem dX1_allInk_24 : decode cX1_allInk 24 = .ok (.goto (-20), 3) := by decide +kernel
theorem dX1_allInk_27 : decode cX1_allInk 27 = .ok (.iload_n 1, 1) := by decide +kernel
theorem dX1_allInk_28 : decode cX1_allInk 28 = .ok (.ireturn, 1) := by decide +kernel
set_option maxRecDepth 20000 in
theorem ggX1_mostOnOne_X1_loadOf : GoodIn wsX1_mostOnOne wsX1_loadOf := goodIn_r _ [9, 10, 11, 12, 13, 14, 15, 16, 17, 18, 19, 20, 21] (by decide +kernel) (by decide +kernel)
set_option maxRecDepth 20000 in
theorem gX1_mostOnOne_X1_loadOf : GoodIn wsX1_mostOnOne (wsV RX1 98 RX1 yX1_loadOf wsX1_loadOf) := goodIn_app (goodIn_of _ (by decide +kernel)) ggX1_mostOnOne_X1_loadOf
theorem dX1_mostOnOne_0 : decode cX1_mostOnOne 0 = .ok (.iconst 0, 1) := by decide +kernel
theorem dX1_mostOnOne_1 : decode cX1_mostOnOne 1 = .ok (.istore_n 1, 1) := by decide +kernel
theorem dX1_mostOnOne_2 : decode cX1_mostOnOne 2 = .ok (.iconst 0, 1) := by decide +kernel
theorem dX1_mostOnOne_3 : decode cX1_mostOnOne 3 = .ok (.istore_n 2, 1) := by decide +kernel
theorem dX1_mostOnOne_4 : decode cX1_mostOnOne 4 = .ok (.iload_n 2, 1) := by decide +kernel
theorem dX1_mostOnOne_5 : decode cX1_mostOnOne 5 = .ok (.bipush 8, 2) := by decide +kernel
theorem dX1_mostOnOne_7 : decode cX1_mostOnOne 7 = .ok (.if_icmp .ge 19, 3) := by decide +kernel
theorem dX1_mostOnOne_10 : decode cX1_mostOnOne 10 = .ok (.iload_n 1, 1) := by decide +kernel
theorem dX1_mostOnOne_11 : decode cX1_mostOnOne 11 = .ok (.aload_n 0, 1) := by decide +kernel
theorem dX1_mostOnOne_12 : decode cX1_mostOnOne 12 = .ok (.iload_n 2, 1) := by decide +kernel
theorem dX1_mostOnOne_13 : decode cX1_mostOnOne 13 = .ok (.invokevirtual 98, 3) := by decide +kernel
theorem dX1_mostOnOne_16 : decode cX1_mostOnOne 16 = .ok (.invokestatic 105, 3) := by decide +kernel
theorem dX1_mostOnOne_19 : decode cX1_mostOnOne 19 = .ok (.istore_n 1, 1) := by decide +kernel
theorem dX1_mostOnOne_20 : decode cX1_mostOnOne 20 = .ok (.iinc 2 1, 3) := by decide +kernel
theorem dX1_mostOnOne_23 : decode cX1_mostOnOne 23 = .ok (.goto (-19), 3) := by decide +kernel
theorem dX1_mostOnOne_26 : decode cX1_mostOnOne 26 = .ok (.iload_n 1, 1) := by decide +kernel
theorem dX1_mostOnOne_27 : decode cX1_mostOnOne 27 = .ok (.ireturn, 1) := by decide +kernel
theorem dX1_touches_0 : decode cX1_touches 0 = .ok (.iconst 0, 1) := by decide +kernel
theorem dX1_touches_1 : decode cX1_touches 1 = .ok (.istore_n 1, 1) := by decide +kernel
theorem dX1_touches_2 : decode cX1_touches 2 = .ok (.iconst 0, 1) := by decide +kernel
theorem dX1_touches_3 : decode cX1_touches 3 = .ok (.istore_n 2, 1) := by decide +kernel
theorem dX1_touches_4 : decode cX1_touches 4 = .ok (.iload_n 2, 1) := by decide +kernel
theorem dX1_touches_5 : decode cX1_touches 5 = .ok (.bipush 6, 2) := by decide +kernel
theorem dX1_touches_7 : decode cX1_touches 7 = .ok (.if_icmp .ge 22, 3) := by decide +kernel
theorem dX1_touches_10 : decode cX1_touches 10 = .ok (.aload_n 0, 1) := by decide +kernel
theorem dX1_touches_11 : decode cX1_touches 11 = .ok (.getfield 24, 3) := by decide +kernel
theorem dX1_touches_14 : decode cX1_touches 14 = .ok (.iload_n 2, 1) := by decide +kernel
theorem dX1_touches_15 : decode cX1_touches 15 = .ok (.iaload, 1) := by decide +kernel
theorem dX1_touches_16 : decode cX1_touches 16 = .ok (.iconst (-1), 1) := by decide +kernel
theorem dX1_touches_17 : decode cX1_touches 17 = .ok (.if_icmp .eq 6, 3) := by decide +kernel
theorem dX1_touches_20 : decode cX1_touches 20 = .ok (.iinc 1 1, 3) := by decide +kernel
theorem dX1_touches_23 : decode cX1_touches 23 = .ok (.iinc 2 1, 3) := by decide +kernel
theorem dX1_touches_26 : decode cX1_touches 26 = .ok (.goto (-22), 3) := by decide +kernel
theorem dX1_touches_29 : decode cX1_touches 29 = .ok (.iload_n 1, 1) := by decide +kernel
theorem dX1_touches_30 : decode cX1_touches 30 = .ok (.ireturn, 1) := by decide +kernel
set_option maxRecDepth 20000 in
theorem ggX1_circle_X5_has : GoodIn wsX1_circle wsX5_has := goodIn_r _ [5] (by decide +kernel) (by decide +kernel)
set_option maxRecDepth 20000 in
theorem gX1_circle_X5_has_n88 : GoodIn wsX1_circle (wsX5_has) := ggX1_circle_X5_has
theorem dX1_circle_0 : decode cX1_circle 0 = .ok (.iconst 1, 1) := by decide +kernel
theorem dX1_circle_1 : decode cX1_circle 1 = .ok (.iload_n 1, 1) := by decide +kernel
theorem dX1_circle_2 : decode cX1_circle 2 = .ok (.ishl, 1) := by decide +kernel
theorem dX1_circle_3 : decode cX1_circle 3 = .ok (.istore_n 2, 1) := by decide +kernel
theorem dX1_circle_4 : decode cX1_circle 4 = .ok (.iconst 0, 1) := by decide +kernel
theorem dX1_circle_5 : decode cX1_circle 5 = .ok (.istore_n 3, 1) := by decide +kernel
theorem dX1_circle_6 : decode cX1_circle 6 = .ok (.iload_n 3, 1) := by decide +kernel
theorem dX1_circle_7 : decode cX1_circle 7 = .ok (.bipush 6, 2) := by decide +kernel
theorem dX1_circle_9 : decode cX1_circle 9 = .ok (.if_icmp .ge 86, 3) := by decide +kernel
theorem dX1_circle_12 : decode cX1_circle 12 = .ok (.iconst 0, 1) := by decide +kernel
theorem dX1_circle_13 : decode cX1_circle 13 = .ok (.istore 4, 2) := by decide +kernel
theorem dX1_circle_15 : decode cX1_circle 15 = .ok (.iload 4, 2) := by decide +kernel
theorem dX1_circle_17 : decode cX1_circle 17 = .ok (.bipush 6, 2) := by decide +kernel
theorem dX1_circle_19 : decode cX1_circle 19 = .ok (.if_icmp .ge 70, 3) := by decide +kernel
theorem dX1_circle_22 : decode cX1_circle 22 = .ok (.aload_n 0, 1) := by decide +kernel
theorem dX1_circle_23 : decode cX1_circle 23 = .ok (.getfield 24, 3) := by decide +kernel
theorem dX1_circle_26 : decode cX1_circle 26 = .ok (.iload 4, 2) := by decide +kernel
theorem dX1_circle_28 : decode cX1_circle 28 = .ok (.iaload, 1) := by decide +kernel
theorem dX1_circle_29 : decode cX1_circle 29 = .ok (.iconst (-1), 1) := by decide +kernel
theorem dX1_circle_30 : decode cX1_circle 30 = .ok (.if_icmp .eq 53, 3) := by decide +kernel
theorem dX1_circle_33 : decode cX1_circle 33 = .ok (.iload_n 2, 1) := by decide +kernel
theorem dX1_circle_34 : decode cX1_circle 34 = .ok (.aload_n 0, 1) := by decide +kernel
theorem dX1_circle_35 : decode cX1_circle 35 = .ok (.getfield 24, 3) := by decide +kernel
theorem dX1_circle_38 : decode cX1_circle 38 = .ok (.iload 4, 2) := by decide +kernel
theorem dX1_circle_40 : decode cX1_circle 40 = .ok (.iaload, 1) := by decide +kernel
theorem dX1_circle_41 : decode cX1_circle 41 = .ok (.invokestatic 88, 3) := by decide +kernel
theorem dX1_circle_44 : decode cX1_circle 44 = .ok (.ifCond .ne 17, 3) := by decide +kernel
theorem dX1_circle_47 : decode cX1_circle 47 = .ok (.iload_n 2, 1) := by decide +kernel
theorem dX1_circle_48 : decode cX1_circle 48 = .ok (.aload_n 0, 1) := by decide +kernel
theorem dX1_circle_49 : decode cX1_circle 49 = .ok (.getfield 27, 3) := by decide +kernel
theorem dX1_circle_52 : decode cX1_circle 52 = .ok (.iload 4, 2) := by decide +kernel
theorem dX1_circle_54 : decode cX1_circle 54 = .ok (.iaload, 1) := by decide +kernel
theorem dX1_circle_55 : decode cX1_circle 55 = .ok (.invokestatic 88, 3) := by decide +kernel
theorem dX1_circle_58 : decode cX1_circle 58 = .ok (.ifCond .eq 25, 3) := by decide +kernel
theorem dX1_circle_61 : decode cX1_circle 61 = .ok (.iload_n 2, 1) := by decide +kernel
theorem dX1_circle_62 : decode cX1_circle 62 = .ok (.iconst 1, 1) := by decide +kernel
theorem dX1_circle_63 : decode cX1_circle 63 = .ok (.aload_n 0, 1) := by decide +kernel
theorem dX1_circle_64 : decode cX1_circle 64 = .ok (.getfield 24, 3) := by decide +kernel
theorem dX1_circle_67 : decode cX1_circle 67 = .ok (.iload 4, 2) := by decide +kernel
theorem dX1_circle_69 : decode cX1_circle 69 = .ok (.iaload, 1) := by decide +kernel
theorem dX1_circle_70 : decode cX1_circle 70 = .ok (.ishl, 1) := by decide +kernel
theorem dX1_circle_71 : decode cX1_circle 71 = .ok (.iconst 1, 1) := by decide +kernel
theorem dX1_circle_72 : decode cX1_circle 72 = .ok (.aload_n 0, 1) := by decide +kernel
theorem dX1_circle_73 : decode cX1_circle 73 = .ok (.getfield 27, 3) := by decide +kernel
theorem dX1_circle_76 : decode cX1_circle 76 = .ok (.iload 4, 2) := by decide +kernel
theorem dX1_circle_78 : decode cX1_circle 78 = .ok (.iaload, 1) := by decide +kernel
theorem dX1_circle_79 : decode cX1_circle 79 = .ok (.ishl, 1) := by decide +kernel
theorem dX1_circle_80 : decode cX1_circle 80 = .ok (.ior, 1) := by decide +kernel
theorem dX1_circle_81 : decode cX1_circle 81 = .ok (.ior, 1) := by decide +kernel
theorem dX1_circle_82 : decode cX1_circle 82 = .ok (.istore_n 2, 1) := by decide +kernel
theorem dX1_circle_83 : decode cX1_circle 83 = .ok (.iinc 4 1, 3) := by decide +kernel
theorem dX1_circle_86 : decode cX1_circle 86 = .ok (.goto (-71), 3) := by decide +kernel
theorem dX1_circle_89 : decode cX1_circle 89 = .ok (.iinc 3 1, 3) := by decide +kernel
theorem dX1_circle_92 : decode cX1_circle 92 = .ok (.goto (-86), 3) := by decide +kernel
theorem dX1_circle_95 : decode cX1_circle 95 = .ok (.iload_n 2, 1) := by decide +kernel
theorem dX1_circle_96 : decode cX1_circle 96 = .ok (.ireturn, 1) := by decide +kernel
set_option maxRecDepth 20000 in
theorem ggX1_circles_X1_circle : GoodIn wsX1_circles wsX1_circle := goodIn_r _ [5, 6, 7, 8, 9, 10, 11, 12, 13, 14, 15, 16, 17, 18, 19, 20] (by decide +kernel) (by decide +kernel)
set_option maxRecDepth 20000 in
theorem gX1_circles_X1_circle : GoodIn wsX1_circles (wsV RX1 108 RX1 yX1_circle wsX1_circle) := goodIn_app (goodIn_of _ (by decide +kernel)) ggX1_circles_X1_circle
theorem dX1_circles_0 : decode cX1_circles 0 = .ok (.iconst 0, 1) := by decide +kernel
theorem dX1_circles_1 : decode cX1_circles 1 = .ok (.istore_n 1, 1) := by decide +kernel
theorem dX1_circles_2 : decode cX1_circles 2 = .ok (.iconst 0, 1) := by decide +kernel
theorem dX1_circles_3 : decode cX1_circles 3 = .ok (.istore_n 2, 1) := by decide +kernel
theorem dX1_circles_4 : decode cX1_circles 4 = .ok (.iload_n 2, 1) := by decide +kernel
theorem dX1_circles_5 : decode cX1_circles 5 = .ok (.bipush 8, 2) := by decide +kernel
theorem dX1_circles_7 : decode cX1_circles 7 = .ok (.if_icmp .ge 26, 3) := by decide +kernel
theorem dX1_circles_10 : decode cX1_circles 10 = .ok (.aload_n 0, 1) := by decide +kernel
theorem dX1_circles_11 : decode cX1_circles 11 = .ok (.iload_n 2, 1) := by decide +kernel
theorem dX1_circles_12 : decode cX1_circles 12 = .ok (.invokevirtual 108, 3) := by decide +kernel
theorem dX1_circles_15 : decode cX1_circles 15 = .ok (.iconst 1, 1) := by decide +kernel
theorem dX1_circles_16 : decode cX1_circles 16 = .ok (.iload_n 2, 1) := by decide +kernel
theorem dX1_circles_17 : decode cX1_circles 17 = .ok (.ishl, 1) := by decide +kernel
theorem dX1_circles_18 : decode cX1_circles 18 = .ok (.iconst 1, 1) := by decide +kernel
theorem dX1_circles_19 : decode cX1_circles 19 = .ok (.isub, 1) := by decide +kernel
theorem dX1_circles_20 : decode cX1_circles 20 = .ok (.iand, 1) := by decide +kernel
theorem dX1_circles_21 : decode cX1_circles 21 = .ok (.ifCond .ne 6, 3) := by decide +kernel
theorem dX1_circles_24 : decode cX1_circles 24 = .ok (.iinc 1 1, 3) := by decide +kernel
theorem dX1_circles_27 : decode cX1_circles 27 = .ok (.iinc 2 1, 3) := by decide +kernel
theorem dX1_circles_30 : decode cX1_circles 30 = .ok (.goto (-26), 3) := by decide +kernel
theorem dX1_circles_33 : decode cX1_circles 33 = .ok (.iload_n 1, 1) := by decide +kernel
theorem dX1_circles_34 : decode cX1_circles 34 = .ok (.ireturn, 1) := by decide +kernel
theorem dX1_liesAs_0 : decode cX1_liesAs 0 = .ok (.iconst 0, 1) := by decide +kernel
theorem dX1_liesAs_1 : decode cX1_liesAs 1 = .ok (.istore_n 2, 1) := by decide +kernel
theorem dX1_liesAs_2 : decode cX1_liesAs 2 = .ok (.iload_n 2, 1) := by decide +kernel
theorem dX1_liesAs_3 : decode cX1_liesAs 3 = .ok (.aload_n 0, 1) := by decide +kernel
theorem dX1_liesAs_4 : decode cX1_liesAs 4 = .ok (.getfield 50, 3) := by decide +kernel
theorem dX1_liesAs_7 : decode cX1_liesAs 7 = .ok (.if_icmp .ge 26, 3) := by decide +kernel
theorem dX1_liesAs_10 : decode cX1_liesAs 10 = .ok (.aload_n 0, 1) := by decide +kernel
theorem dX1_liesAs_11 : decode cX1_liesAs 11 = .ok (.getfield 21, 3) := by decide +kernel
theorem dX1_liesAs_14 : decode cX1_liesAs 14 = .ok (.iload_n 2, 1) := by decide +kernel
theorem dX1_liesAs_15 : decode cX1_liesAs 15 = .ok (.iaload, 1) := by decide +kernel
theorem dX1_liesAs_16 : decode cX1_liesAs 16 = .ok (.aload_n 1, 1) := by decide +kernel
theorem dX1_liesAs_17 : decode cX1_liesAs 17 = .ok (.getfield 21, 3) := by decide +kernel
theorem dX1_liesAs_20 : decode cX1_liesAs 20 = .ok (.iload_n 2, 1) := by decide +kernel
theorem dX1_liesAs_21 : decode cX1_liesAs 21 = .ok (.iaload, 1) := by decide +kernel
theorem dX1_liesAs_22 : decode cX1_liesAs 22 = .ok (.if_icmp .eq 5, 3) := by decide +kernel
theorem dX1_liesAs_25 : decode cX1_liesAs 25 = .ok (.iconst 0, 1) := by decide +kernel
theorem dX1_liesAs_26 : decode cX1_liesAs 26 = .ok (.ireturn, 1) := by decide +kernel
theorem dX1_liesAs_27 : decode cX1_liesAs 27 = .ok (.iinc 2 1, 3) := by decide +kernel
theorem dX1_liesAs_30 : decode cX1_liesAs 30 = .ok (.goto (-28), 3) := by decide +kernel
theorem dX1_liesAs_33 : decode cX1_liesAs 33 = .ok (.iconst 1, 1) := by decide +kernel
theorem dX1_liesAs_34 : decode cX1_liesAs 34 = .ok (.ireturn, 1) := by decide +kernel
set_option maxRecDepth 20000 in
theorem ggX1_rowPart_X5_has : GoodIn wsX1_rowPart wsX5_has := goodIn_r _ [6] (by decide +kernel) (by decide +kernel)
set_option maxRecDepth 20000 in
theorem gX1_rowPart_X5_has_n88 : GoodIn wsX1_rowPart (wsX5_has) := ggX1_rowPart_X5_has
theorem dX1_rowPart_0 : decode cX1_rowPart 0 = .ok (.iload_n 2, 1) := by decide +kernel
theorem dX1_rowPart_1 : decode cX1_rowPart 1 = .ok (.lookupswitch 41 #[(0, 27), (1, 34)], 27) := by decide +kernel
theorem dX1_rowPart_28 : decode cX1_rowPart 28 = .ok (.aload_n 0, 1) := by decide +kernel
theorem dX1_rowPart_29 : decode cX1_rowPart 29 = .ok (.getfield 21, 3) := by decide +kernel
theorem dX1_rowPart_32 : decode cX1_rowPart 32 = .ok (.iload_n 1, 1) := by decide +kernel
theorem dX1_rowPart_33 : decode cX1_rowPart 33 = .ok (.iaload, 1) := by decide +kernel
theorem dX1_rowPart_34 : decode cX1_rowPart 34 = .ok (.ireturn, 1) := by decide +kernel
theorem dX1_rowPart_35 : decode cX1_rowPart 35 = .ok (.aload_n 0, 1) := by decide +kernel
theorem dX1_rowPart_36 : decode cX1_rowPart 36 = .ok (.getfield 18, 3) := by decide +kernel
theorem dX1_rowPart_39 : decode cX1_rowPart 39 = .ok (.iload_n 1, 1) := by decide +kernel
theorem dX1_rowPart_40 : decode cX1_rowPart 40 = .ok (.iaload, 1) := by decide +kernel
theorem dX1_rowPart_41 : decode cX1_rowPart 41 = .ok (.ireturn, 1) := by decide +kernel
theorem dX1_rowPart_42 : decode cX1_rowPart 42 = .ok (.aload_n 0, 1) := by decide +kernel
theorem dX1_rowPart_43 : decode cX1_rowPart 43 = .ok (.getfield 66, 3) := by decide +kernel
theorem dX1_rowPart_46 : decode cX1_rowPart 46 = .ok (.iload_n 1, 1) := by decide +kernel
theorem dX1_rowPart_47 : decode cX1_rowPart 47 = .ok (.invokestatic 88, 3) := by decide +kernel
theorem dX1_rowPart_50 : decode cX1_rowPart 50 = .ok (.ifCond .eq 7, 3) := by decide +kernel
theorem dX1_rowPart_53 : decode cX1_rowPart 53 = .ok (.iconst 1, 1) := by decide +kernel
theorem dX1_rowPart_54 : decode cX1_rowPart 54 = .ok (.goto 4, 3) := by decide +kernel
theorem dX1_rowPart_57 : decode cX1_rowPart 57 = .ok (.iconst 0, 1) := by decide +kernel
theorem dX1_rowPart_58 : decode cX1_rowPart 58 = .ok (.ireturn, 1) := by decide +kernel
set_option maxRecDepth 20000 in
theorem ggX1_hoursUntilOn_X1_passHour : GoodIn wsX1_hoursUntilOn wsX1_passHour := goodIn_r _ [6, 7, 8, 9, 10, 11, 12, 13, 5, 14, 15, 16, 17, 18, 19, 20, 21, 22, 23, 1, 24, 25, 26, 27, 28, 29, 30, 31, 32, 33, 34, 35, 36, 37, 38, 39, 40, 41, 42, 43, 44, 45, 46, 47, 48, 49, 50, 51, 52, 53, 54, 55, 56, 57, 58, 59, 60, 61, 62, 63, 64, 65, 66, 67, 68] (by decide +kernel) (by decide +kernel)
set_option maxRecDepth 20000 in
theorem gX1_hoursUntilOn_X1_passHour : GoodIn wsX1_hoursUntilOn (wsV RX1 76 RX1 yX1_passHour wsX1_passHour) := goodIn_app (goodIn_of _ (by decide +kernel)) ggX1_hoursUntilOn_X1_passHour
theorem dX1_hoursUntilOn_0 : decode cX1_hoursUntilOn 0 = .ok (.iconst 0, 1) := by decide +kernel
theorem dX1_hoursUntilOn_1 : decode cX1_hoursUntilOn 1 = .ok (.istore 4, 2) := by decide +kernel
theorem dX1_hoursUntilOn_3 : decode cX1_hoursUntilOn 3 = .ok (.iload 4, 2) := by decide +kernel
theorem dX1_hoursUntilOn_5 : decode cX1_hoursUntilOn 5 = .ok (.iload_n 3, 1) := by decide +kernel
theorem dX1_hoursUntilOn_6 : decode cX1_hoursUntilOn 6 = .ok (.if_icmp .gt 26, 3) := by decide +kernel
theorem dX1_hoursUntilOn_9 : decode cX1_hoursUntilOn 9 = .ok (.aload_n 0, 1) := by decide +kernel
theorem dX1_hoursUntilOn_10 : decode cX1_hoursUntilOn 10 = .ok (.getfield 21, 3) := by decide +kernel
theorem dX1_hoursUntilOn_13 : decode cX1_hoursUntilOn 13 = .ok (.iload_n 1, 1) := by decide +kernel
theorem dX1_hoursUntilOn_14 : decode cX1_hoursUntilOn 14 = .ok (.iaload, 1) := by decide +kernel
theorem dX1_hoursUntilOn_15 : decode cX1_hoursUntilOn 15 = .ok (.iload_n 2, 1) := by decide +kernel
theorem dX1_hoursUntilOn_16 : decode cX1_hoursUntilOn 16 = .ok (.if_icmp .ne 6, 3) := by decide +kernel
theorem dX1_hoursUntilOn_19 : decode cX1_hoursUntilOn 19 = .ok (.iload 4, 2) := by decide +kernel
theorem dX1_hoursUntilOn_21 : decode cX1_hoursUntilOn 21 = .ok (.ireturn, 1) := by decide +kernel
theorem dX1_hoursUntilOn_22 : decode cX1_hoursUntilOn 22 = .ok (.aload_n 0, 1) := by decide +kernel
theorem dX1_hoursUntilOn_23 : decode cX1_hoursUntilOn 23 = .ok (.invokevirtual 76, 3) := by decide +kernel
theorem dX1_hoursUntilOn_26 : decode cX1_hoursUntilOn 26 = .ok (.iinc 4 1, 3) := by decide +kernel
theorem dX1_hoursUntilOn_29 : decode cX1_hoursUntilOn 29 = .ok (.goto (-26), 3) := by decide +kernel
theorem dX1_hoursUntilOn_32 : decode cX1_hoursUntilOn 32 = .ok (.bipush (-3), 2) := by decide +kernel
theorem dX1_hoursUntilOn_34 : decode cX1_hoursUntilOn 34 = .ok (.ireturn, 1) := by decide +kernel
set_option maxRecDepth 20000 in
theorem ggX1_hoursUntilBare_X1_marksOn : GoodIn wsX1_hoursUntilBare wsX1_marksOn := goodIn_r _ [5, 6, 7, 63, 64, 65, 66, 67, 68, 69, 70, 71, 72] (by decide +kernel) (by decide +kernel)
set_option maxRecDepth 20000 in
theorem gX1_hoursUntilBare_X1_marksOn : GoodIn wsX1_hoursUntilBare (wsV RX1 111 RX1 yX1_marksOn wsX1_marksOn) := goodIn_app (goodIn_of _ (by decide +kernel)) ggX1_hoursUntilBare_X1_marksOn
set_option maxRecDepth 20000 in
theorem ggX1_hoursUntilBare_X1_passHour : GoodIn wsX1_hoursUntilBare wsX1_passHour := goodIn_r _ [11, 12, 13, 14, 15, 16, 17, 18, 4, 19, 20, 21, 22, 23, 24, 25, 26, 27, 6, 7, 28, 29, 30, 31, 32, 33, 34, 35, 36, 37, 38, 39, 40, 41, 42, 43, 44, 45, 46, 47, 48, 49, 50, 51, 52, 53, 54, 55, 56, 57, 58, 59, 60, 61, 62, 63, 64, 65, 66, 67, 68, 69, 70, 71, 72] (by decide +kernel) (by decide +kernel)
set_option maxRecDepth 20000 in
theorem gX1_hoursUntilBare_X1_passHour : GoodIn wsX1_hoursUntilBare (wsV RX1 76 RX1 yX1_passHour wsX1_passHour) := goodIn_app (goodIn_of _ (by decide +kernel)) ggX1_hoursUntilBare_X1_passHour
theorem dX1_hoursUntilBare_0 : decode cX1_hoursUntilBare 0 = .ok (.iconst 0, 1) := by decide +kernel
theorem dX1_hoursUntilBare_1 : decode cX1_hoursUntilBare 1 = .ok (.istore_n 3, 1) := by decide +kernel
theorem dX1_hoursUntilBare_2 : decode cX1_hoursUntilBare 2 = .ok (.iload_n 3, 1) := by decide +kernel
theorem dX1_hoursUntilBare_3 : decode cX1_hoursUntilBare 3 = .ok (.iload_n 2, 1) := by decide +kernel
theorem dX1_hoursUntilBare_4 : decode cX1_hoursUntilBare 4 = .ok (.if_icmp .gt 23, 3) := by decide +kernel
theorem dX1_hoursUntilBare_7 : decode cX1_hoursUntilBare 7 = .ok (.aload_n 0, 1) := by decide +kernel
theorem dX1_hoursUntilBare_8 : decode cX1_hoursUntilBare 8 = .ok (.iload_n 1, 1) := by decide +kernel
theorem dX1_hoursUntilBare_9 : decode cX1_hoursUntilBare 9 = .ok (.invokevirtual 111, 3) := by decide +kernel
theorem dX1_hoursUntilBare_12 : decode cX1_hoursUntilBare 12 = .ok (.ifCond .ne 5, 3) := by decide +kernel
theorem dX1_hoursUntilBare_15 : decode cX1_hoursUntilBare 15 = .ok (.iload_n 3, 1) := by decide +kernel
theorem dX1_hoursUntilBare_16 : decode cX1_hoursUntilBare 16 = .ok (.ireturn, 1) := by decide +kernel
theorem dX1_hoursUntilBare_17 : decode cX1_hoursUntilBare 17 = .ok (.aload_n 0, 1) := by decide +kernel
theorem dX1_hoursUntilBare_18 : decode cX1_hoursUntilBare 18 = .ok (.invokevirtual 76, 3) := by decide +kernel
theorem dX1_hoursUntilBare_21 : decode cX1_hoursUntilBare 21 = .ok (.iinc 3 1, 3) := by decide +kernel
theorem dX1_hoursUntilBare_24 : decode cX1_hoursUntilBare 24 = .ok (.goto (-22), 3) := by decide +kernel
theorem dX1_hoursUntilBare_27 : decode cX1_hoursUntilBare 27 = .ok (.bipush (-3), 2) := by decide +kernel
theorem dX1_hoursUntilBare_29 : decode cX1_hoursUntilBare 29 = .ok (.ireturn, 1) := by decide +kernel
set_option maxRecDepth 20000 in
theorem ggX1_hoursUntilDry_X1_allInk : GoodIn wsX1_hoursUntilDry wsX1_allInk := goodIn_r _ [5, 6, 7, 63, 64, 65, 66, 67, 68, 69, 70, 71, 72] (by decide +kernel) (by decide +kernel)
set_option maxRecDepth 20000 in
theorem gX1_hoursUntilDry_X1_allInk : GoodIn wsX1_hoursUntilDry (wsV RX1 114 RX1 yX1_allInk wsX1_allInk) := goodIn_app (goodIn_of _ (by decide +kernel)) ggX1_hoursUntilDry_X1_allInk
set_option maxRecDepth 20000 in
theorem ggX1_hoursUntilDry_X1_passHour : GoodIn wsX1_hoursUntilDry wsX1_passHour := goodIn_r _ [11, 12, 13, 14, 15, 16, 17, 18, 4, 19, 20, 21, 22, 23, 24, 25, 26, 27, 6, 28, 7, 29, 30, 31, 32, 33, 34, 35, 36, 37, 38, 39, 40, 41, 42, 43, 44, 45, 46, 47, 48, 49, 50, 51, 52, 53, 54, 55, 56, 57, 58, 59, 60, 61, 62, 63, 64, 65, 66, 67, 68, 69, 70, 71, 72] (by decide +kernel) (by decide +kernel)
set_option maxRecDepth 20000 in
theorem gX1_hoursUntilDry_X1_passHour : GoodIn wsX1_hoursUntilDry (wsV RX1 76 RX1 yX1_passHour wsX1_passHour) := goodIn_app (goodIn_of _ (by decide +kernel)) ggX1_hoursUntilDry_X1_passHour
theorem dX1_hoursUntilDry_0 : decode cX1_hoursUntilDry 0 = .ok (.iconst 0, 1) := by decide +kernel
theorem dX1_hoursUntilDry_1 : decode cX1_hoursUntilDry 1 = .ok (.istore_n 2, 1) := by decide +kernel
theorem dX1_hoursUntilDry_2 : decode cX1_hoursUntilDry 2 = .ok (.iload_n 2, 1) := by decide +kernel
theorem dX1_hoursUntilDry_3 : decode cX1_hoursUntilDry 3 = .ok (.iload_n 1, 1) := by decide +kernel
theorem dX1_hoursUntilDry_4 : decode cX1_hoursUntilDry 4 = .ok (.if_icmp .gt 22, 3) := by decide +kernel
theorem dX1_hoursUntilDry_7 : decode cX1_hoursUntilDry 7 = .ok (.aload_n 0, 1) := by decide +kernel
theorem dX1_hoursUntilDry_8 : decode cX1_hoursUntilDry 8 = .ok (.invokevirtual 114, 3) := by decide +kernel
theorem dX1_hoursUntilDry_11 : decode cX1_hoursUntilDry 11 = .ok (.ifCond .ne 5, 3) := by decide +kernel
theorem dX1_hoursUntilDry_14 : decode cX1_hoursUntilDry 14 = .ok (.iload_n 2, 1) := by decide +kernel
theorem dX1_hoursUntilDry_15 : decode cX1_hoursUntilDry 15 = .ok (.ireturn, 1) := by decide +kernel
theorem dX1_hoursUntilDry_16 : decode cX1_hoursUntilDry 16 = .ok (.aload_n 0, 1) := by decide +kernel
theorem dX1_hoursUntilDry_17 : decode cX1_hoursUntilDry 17 = .ok (.invokevirtual 76, 3) := by decide +kernel
theorem dX1_hoursUntilDry_20 : decode cX1_hoursUntilDry 20 = .ok (.iinc 2 1, 3) := by decide +kernel
theorem dX1_hoursUntilDry_23 : decode cX1_hoursUntilDry 23 = .ok (.goto (-21), 3) := by decide +kernel
theorem dX1_hoursUntilDry_26 : decode cX1_hoursUntilDry 26 = .ok (.bipush (-3), 2) := by decide +kernel
theorem dX1_hoursUntilDry_28 : decode cX1_hoursUntilDry 28 = .ok (.ireturn, 1) := by decide +kernel
theorem dX2_init_0 : decode cX2_init 0 = .ok (.aload_n 0, 1) := by decide +kernel
theorem dX2_init_1 : decode cX2_init 1 = .ok (.invokespecial 3, 3) := by decide +kernel
theorem dX2_init_4 : decode cX2_init 4 = .ok (.aload_n 0, 1) := by decide +kernel
theorem dX2_init_5 : decode cX2_init 5 = .ok (.bipush 40, 2) := by decide +kernel
theorem dX2_init_7 : decode cX2_init 7 = .ok (.newarray .long, 2) := by decide +kernel
theorem dX2_init_9 : decode cX2_init 9 = .ok (.putfield 9, 3) := by decide +kernel
theorem dX2_init_12 : decode cX2_init 12 = .ok (.aload_n 0, 1) := by decide +kernel
theorem dX2_init_13 : decode cX2_init 13 = .ok (.iconst (-1), 1) := by decide +kernel
theorem dX2_init_14 : decode cX2_init 14 = .ok (.putfield 15, 3) := by decide +kernel
theorem dX2_init_17 : decode cX2_init 17 = .ok (.return_, 1) := by decide +kernel
theorem dX2_become_0 : decode cX2_become 0 = .ok (.iconst 0, 1) := by decide +kernel
theorem dX2_become_1 : decode cX2_become 1 = .ok (.istore_n 3, 1) := by decide +kernel
theorem dX2_become_2 : decode cX2_become 2 = .ok (.iload_n 3, 1) := by decide +kernel
theorem dX2_become_3 : decode cX2_become 3 = .ok (.bipush 40, 2) := by decide +kernel
theorem dX2_become_5 : decode cX2_become 5 = .ok (.if_icmp .ge 16, 3) := by decide +kernel
theorem dX2_become_8 : decode cX2_become 8 = .ok (.aload_n 0, 1) := by decide +kernel
theorem dX2_become_9 : decode cX2_become 9 = .ok (.getfield 9, 3) := by decide +kernel
theorem dX2_become_12 : decode cX2_become 12 = .ok (.iload_n 3, 1) := by decide +kernel
theorem dX2_become_13 : decode cX2_become 13 = .ok (.lconst 0, 1) := by decide +kernel
theorem dX2_become_14 : decode cX2_become 14 = .ok (.lastore, 1) := by decide +kernel
theorem dX2_become_15 : decode cX2_become 15 = .ok (.iinc 3 1, 3) := by decide +kernel
theorem dX2_become_18 : decode cX2_become 18 = .ok (.goto (-16), 3) := by decide +kernel
theorem dX2_become_21 : decode cX2_become 21 = .ok (.aload_n 0, 1) := by decide +kernel
theorem dX2_become_22 : decode cX2_become 22 = .ok (.iload_n 1, 1) := by decide +kernel
theorem dX2_become_23 : decode cX2_become 23 = .ok (.putfield 15, 3) := by decide +kernel
theorem dX2_become_26 : decode cX2_become 26 = .ok (.aload_n 0, 1) := by decide +kernel
theorem dX2_become_27 : decode cX2_become 27 = .ok (.iload_n 2, 1) := by decide +kernel
theorem dX2_become_28 : decode cX2_become 28 = .ok (.putfield 19, 3) := by decide +kernel
theorem dX2_become_31 : decode cX2_become 31 = .ok (.return_, 1) := by decide +kernel
theorem dX2_narrowed_0 : decode cX2_narrowed 0 = .ok (.aload_n 0, 1) := by decide +kernel
theorem dX2_narrowed_1 : decode cX2_narrowed 1 = .ok (.getfield 15, 3) := by decide +kernel
theorem dX2_narrowed_4 : decode cX2_narrowed 4 = .ok (.lookupswitch 36 #[(0, 28), (1, 32)], 28) := by decide +kernel
theorem dX2_narrowed_32 : decode cX2_narrowed 32 = .ok (.iload_n 1, 1) := by decide +kernel
theorem dX2_narrowed_33 : decode cX2_narrowed 33 = .ok (.i2b, 1) := by decide +kernel
theorem dX2_narrowed_34 : decode cX2_narrowed 34 = .ok (.i2l, 1) := by decide +kernel
theorem dX2_narrowed_35 : decode cX2_narrowed 35 = .ok (.lreturn, 1) := by decide +kernel
theorem dX2_narrowed_36 : decode cX2_narrowed 36 = .ok (.iload_n 1, 1) := by decide +kernel
theorem dX2_narrowed_37 : decode cX2_narrowed 37 = .ok (.i2s, 1) := by decide +kernel
theorem dX2_narrowed_38 : decode cX2_narrowed 38 = .ok (.i2l, 1) := by decide +kernel
theorem dX2_narrowed_39 : decode cX2_narrowed 39 = .ok (.lreturn, 1) := by decide +kernel
theorem dX2_narrowed_40 : decode cX2_narrowed 40 = .ok (.iload_n 1, 1) := by decide +kernel
theorem dX2_narrowed_41 : decode cX2_narrowed 41 = .ok (.i2l, 1) := by decide +kernel
theorem dX2_narrowed_42 : decode cX2_narrowed 42 = .ok (.lreturn, 1) := by decide +kernel
theorem dX3_init_0 : decode cX3_init 0 = .ok (.aload_n 0, 1) := by decide +kernel
theorem dX3_init_1 : decode cX3_init 1 = .ok (.invokespecial 3, 3) := by decide +kernel
theorem dX3_init_4 : decode cX3_init 4 = .ok (.aload_n 0, 1) := by decide +kernel
theorem dX3_init_5 : decode cX3_init 5 = .ok (.iconst 2, 1) := by decide +kernel
theorem dX3_init_6 : decode cX3_init 6 = .ok (.putfield 9, 3) := by decide +kernel
theorem dX3_init_9 : decode cX3_init 9 = .ok (.return_, 1) := by decide +kernel
theorem dX3_holdMark_0 : decode cX3_holdMark 0 = .ok (.aload_n 0, 1) := by decide +kernel
theorem dX3_holdMark_1 : decode cX3_holdMark 1 = .ok (.iconst 0, 1) := by decide +kernel
theorem dX3_holdMark_2 : decode cX3_holdMark 2 = .ok (.putfield 9, 3) := by decide +kernel
theorem dX3_holdMark_5 : decode cX3_holdMark 5 = .ok (.aload_n 0, 1) := by decide +kernel
theorem dX3_holdMark_6 : decode cX3_holdMark 6 = .ok (.iload_n 1, 1) := by decide +kernel
theorem dX3_holdMark_7 : decode cX3_holdMark 7 = .ok (.putfield 15, 3) := by decide +kernel
theorem dX3_holdMark_10 : decode cX3_holdMark 10 = .ok (.return_, 1) := by decide +kernel
theorem dX3_holdRow_0 : decode cX3_holdRow 0 = .ok (.aload_n 0, 1) := by decide +kernel
theorem dX3_holdRow_1 : decode cX3_holdRow 1 = .ok (.aload_n 1, 1) := by decide +kernel
theorem dX3_holdRow_2 : decode cX3_holdRow 2 = .ok (.getfield 18, 3) := by decide +kernel
theorem dX3_holdRow_5 : decode cX3_holdRow 5 = .ok (.iconst (-1), 1) := by decide +kernel
theorem dX3_holdRow_6 : decode cX3_holdRow 6 = .ok (.if_icmp .ne 7, 3) := by decide +kernel
theorem dX3_holdRow_9 : decode cX3_holdRow 9 = .ok (.iconst 2, 1) := by decide +kernel
theorem dX3_holdRow_10 : decode cX3_holdRow 10 = .ok (.goto 4, 3) := by decide +kernel
theorem dX3_holdRow_13 : decode cX3_holdRow 13 = .ok (.iconst 1, 1) := by decide +kernel
theorem dX3_holdRow_14 : decode cX3_holdRow 14 = .ok (.putfield 9, 3) := by decide +kernel
theorem dX3_holdRow_17 : decode cX3_holdRow 17 = .ok (.aload_n 0, 1) := by decide +kernel
theorem dX3_holdRow_18 : decode cX3_holdRow 18 = .ok (.aload_n 1, 1) := by decide +kernel
theorem dX3_holdRow_19 : decode cX3_holdRow 19 = .ok (.getfield 18, 3) := by decide +kernel
theorem dX3_holdRow_22 : decode cX3_holdRow 22 = .ok (.putfield 23, 3) := by decide +kernel
theorem dX3_holdRow_25 : decode cX3_holdRow 25 = .ok (.aload_n 0, 1) := by decide +kernel
theorem dX3_holdRow_26 : decode cX3_holdRow 26 = .ok (.aload_n 1, 1) := by decide +kernel
theorem dX3_holdRow_27 : decode cX3_holdRow 27 = .ok (.getfield 24, 3) := by decide +kernel
theorem dX3_holdRow_30 : decode cX3_holdRow 30 = .ok (.putfield 27, 3) := by decide +kernel
theorem dX3_holdRow_33 : decode cX3_holdRow 33 = .ok (.return_, 1) := by decide +kernel
theorem dX4_init_0 : decode cX4_init 0 = .ok (.aload_n 0, 1) := by decide +kernel
theorem dX4_init_1 : decode cX4_init 1 = .ok (.invokespecial 3, 3) := by decide +kernel
theorem dX4_init_4 : decode cX4_init 4 = .ok (.aload_n 0, 1) := by decide +kernel
theorem dX4_init_5 : decode cX4_init 5 = .ok (.sipush 200, 3) := by decide +kernel
theorem dX4_init_8 : decode cX4_init 8 = .ok (.newarray .byte, 2) := by decide +kernel
theorem dX4_init_10 : decode cX4_init 10 = .ok (.putfield 11, 3) := by decide +kernel
theorem dX4_init_13 : decode cX4_init 13 = .ok (.return_, 1) := by decide +kernel
theorem dX4_take_0 : decode cX4_take 0 = .ok (.aload_n 0, 1) := by decide +kernel
theorem dX4_take_1 : decode cX4_take 1 = .ok (.getfield 15, 3) := by decide +kernel
theorem dX4_take_4 : decode cX4_take 4 = .ok (.iload_n 3, 1) := by decide +kernel
theorem dX4_take_5 : decode cX4_take 5 = .ok (.iadd, 1) := by decide +kernel
theorem dX4_take_6 : decode cX4_take 6 = .ok (.sipush 200, 3) := by decide +kernel
theorem dX4_take_9 : decode cX4_take 9 = .ok (.if_icmp .le 6, 3) := by decide +kernel
theorem dX4_take_12 : decode cX4_take 12 = .ok (.bipush (-2), 2) := by decide +kernel
theorem dX4_take_14 : decode cX4_take 14 = .ok (.ireturn, 1) := by decide +kernel
theorem dX4_take_15 : decode cX4_take 15 = .ok (.iconst 0, 1) := by decide +kernel
theorem dX4_take_16 : decode cX4_take 16 = .ok (.istore 4, 2) := by decide +kernel
theorem dX4_take_18 : decode cX4_take 18 = .ok (.iload 4, 2) := by decide +kernel
theorem dX4_take_20 : decode cX4_take 20 = .ok (.iload_n 3, 1) := by decide +kernel
theorem dX4_take_21 : decode cX4_take 21 = .ok (.if_icmp .ge 30, 3) := by decide +kernel
theorem dX4_take_24 : decode cX4_take 24 = .ok (.aload_n 0, 1) := by decide +kernel
theorem dX4_take_25 : decode cX4_take 25 = .ok (.getfield 11, 3) := by decide +kernel
theorem dX4_take_28 : decode cX4_take 28 = .ok (.aload_n 0, 1) := by decide +kernel
theorem dX4_take_29 : decode cX4_take 29 = .ok (.getfield 15, 3) := by decide +kernel
theorem dX4_take_32 : decode cX4_take 32 = .ok (.iload 4, 2) := by decide +kernel
theorem dX4_take_34 : decode cX4_take 34 = .ok (.iadd, 1) := by decide +kernel
theorem dX4_take_35 : decode cX4_take 35 = .ok (.lload_n 1, 1) := by decide +kernel
theorem dX4_take_36 : decode cX4_take 36 = .ok (.bipush 8, 2) := by decide +kernel
theorem dX4_take_38 : decode cX4_take 38 = .ok (.iload 4, 2) := by decide +kernel
theorem dX4_take_40 : decode cX4_take 40 = .ok (.imul, 1) := by decide +kernel
theorem dX4_take_41 : decode cX4_take 41 = .ok (.lushr, 1) := by decide +kernel
theorem dX4_take_42 : decode cX4_take 42 = .ok (.l2i, 1) := by decide +kernel
theorem dX4_take_43 : decode cX4_take 43 = .ok (.i2b, 1) := by decide +kernel
theorem dX4_take_44 : decode cX4_take 44 = .ok (.bastore, 1) := by decide +kernel
theorem dX4_take_45 : decode cX4_take 45 = .ok (.iinc 4 1, 3) := by decide +kernel
theorem dX4_take_48 : decode cX4_take 48 = .ok (.goto (-30), 3) := by decide +kernel
theorem dX4_take_51 : decode cX4_take 51 = .ok (.aload_n 0, 1) := by decide +kernel
theorem dX4_take_52 : decode cX4_take 52 = .ok (.dup, 1) := by decide +kernel
theorem dX4_take_53 : decode cX4_take 53 = .ok (.getfield 15, 3) := by decide +kernel
theorem dX4_take_56 : decode cX4_take 56 = .ok (.iload_n 3, 1) := by decide +kernel
theorem dX4_take_57 : decode cX4_take 57 = .ok (.iadd, 1) := by decide +kernel
theorem dX4_take_58 : decode cX4_take 58 = .ok (.putfield 15, 3) := by decide +kernel
theorem dX4_take_61 : decode cX4_take 61 = .ok (.aload_n 0, 1) := by decide +kernel
theorem dX4_take_62 : decode cX4_take 62 = .ok (.getfield 15, 3) := by decide +kernel
theorem dX4_take_65 : decode cX4_take 65 = .ok (.ireturn, 1) := by decide +kernel
set_option maxRecDepth 20000 in
theorem ggX4_readInto_X4_next : GoodIn wsX4_readInto wsX4_next := goodIn_r _ [8, 1, 3, 9, 10, 2, 11, 12, 13, 7, 14, 15, 16, 17, 18, 19, 20, 21, 131, 132, 133, 134, 135, 136] (by decide +kernel) (by decide +kernel)
set_option maxRecDepth 20000 in
theorem gX4_readInto_X4_next : GoodIn wsX4_readInto (wsV RX4 22 RX4 yX4_next wsX4_next) := goodIn_app (goodIn_of _ (by decide +kernel)) ggX4_readInto_X4_next
set_option maxRecDepth 20000 in
theorem ggX4_readInto_X4_readOrder : GoodIn wsX4_readInto wsX4_readOrder := goodIn_r _ [25, 26, 27, 28, 7, 29, 30, 31, 32, 33, 2, 1, 3, 10, 34, 35, 36, 37, 38, 39, 40, 41, 42, 43, 44, 45, 46, 47, 48, 49, 50, 51, 52, 53, 54, 55, 56, 57, 58, 59, 60, 61, 62, 63, 64, 65, 66, 67, 68, 69, 70, 71, 72, 73, 74, 75, 76, 77, 78, 79, 80, 81, 82, 83, 84, 85, 86, 87, 4, 5, 6, 8, 9, 11, 12, 13, 14, 15, 16, 17, 18, 19, 20, 21, 88, 89, 90, 91, 92, 93, 94, 95, 96, 97, 98, 99, 100, 101, 102, 103, 104, 105, 106, 107, 108, 109, 110, 111, 112, 113, 114, 115, 116, 117, 118, 119, 120, 121, 122, 123, 124, 125, 126, 127, 128, 129, 130, 131, 132, 133, 134, 135, 136, 137, 138, 139, 140, 141, 142, 143, 144, 145, 146] (by decide +kernel) (by decide +kernel)
set_option maxRecDepth 20000 in
theorem gX4_readInto_X4_readOrder : GoodIn wsX4_readInto (wsV RX4 28 RX4 yX4_readOrder wsX4_readOrder) := goodIn_app (goodIn_of _ (by decide +kernel)) ggX4_readInto_X4_readOrder
theorem dX4_readInto_0 : decode cX4_readInto 0 = .ok (.aload_n 0, 1) := by decide +kernel
theorem dX4_readInto_1 : decode cX4_readInto 1 = .ok (.iconst 0, 1) := by decide +kernel
theorem dX4_readInto_2 : decode cX4_readInto 2 = .ok (.putfield 19, 3) := by decide +kernel
theorem dX4_readInto_5 : decode cX4_readInto 5 = .ok (.aload_n 0, 1) := by decide +kernel
theorem dX4_readInto_6 : decode cX4_readInto 6 = .ok (.invokevirtual 22, 3) := by decide +kernel
theorem dX4_readInto_9 : decode cX4_readInto 9 = .ok (.iconst 0, 1) := by decide +kernel
theorem dX4_readInto_10 : decode cX4_readInto 10 = .ok (.istore_n 2, 1) := by decide +kernel
theorem dX4_readInto_11 : decode cX4_readInto 11 = .ok (.iload_n 2, 1) := by decide +kernel
theorem dX4_readInto_12 : decode cX4_readInto 12 = .ok (.sipush 200, 3) := by decide +kernel
theorem dX4_readInto_15 : decode cX4_readInto 15 = .ok (.if_icmp .gt 29, 3) := by decide +kernel
theorem dX4_readInto_18 : decode cX4_readInto 18 = .ok (.aload_n 0, 1) := by decide +kernel
theorem dX4_readInto_19 : decode cX4_readInto 19 = .ok (.getfield 25, 3) := by decide +kernel
theorem dX4_readInto_22 : decode cX4_readInto 22 = .ok (.ifCond .eq 22, 3) := by decide +kernel
theorem dX4_readInto_25 : decode cX4_readInto 25 = .ok (.aload_n 0, 1) := by decide +kernel
theorem dX4_readInto_26 : decode cX4_readInto 26 = .ok (.aload_n 1, 1) := by decide +kernel
theorem dX4_readInto_27 : decode cX4_readInto 27 = .ok (.invokevirtual 28, 3) := by decide +kernel
theorem dX4_readInto_30 : decode cX4_readInto 30 = .ok (.ifCond .ne 8, 3) := by decide +kernel
theorem dX4_readInto_33 : decode cX4_readInto 33 = .ok (.aload_n 0, 1) := by decide +kernel
theorem dX4_readInto_34 : decode cX4_readInto 34 = .ok (.getfield 32, 3) := by decide +kernel
theorem dX4_readInto_37 : decode cX4_readInto 37 = .ok (.ireturn, 1) := by decide +kernel
theorem dX4_readInto_38 : decode cX4_readInto 38 = .ok (.iinc 2 1, 3) := by decide +kernel
theorem dX4_readInto_41 : decode cX4_readInto 41 = .ok (.goto (-30), 3) := by decide +kernel
theorem dX4_readInto_44 : decode cX4_readInto 44 = .ok (.iconst (-1), 1) := by decide +kernel
theorem dX4_readInto_45 : decode cX4_readInto 45 = .ok (.ireturn, 1) := by decide +kernel
set_option maxRecDepth 20000 in
theorem ggX4_next_X4_isLetter : GoodIn wsX4_next wsX4_isLetter := goodIn_r _ [10] (by decide +kernel) (by decide +kernel)
set_option maxRecDepth 20000 in
theorem gX4_next_X4_isLetter : GoodIn wsX4_next (va_wsS RX4 35 yX4_isLetter wsX4_isLetter) := goodIn_app (goodIn_of _ (by decide +kernel)) ggX4_next_X4_isLetter
set_option maxRecDepth 20000 in
theorem ggX4_next_X4_isDigit : GoodIn wsX4_next wsX4_isDigit := goodIn_r _ [13] (by decide +kernel) (by decide +kernel)
set_option maxRecDepth 20000 in
theorem gX4_next_X4_isDigit : GoodIn wsX4_next (va_wsS RX4 39 yX4_isDigit wsX4_isDigit) := goodIn_app (goodIn_of _ (by decide +kernel)) ggX4_next_X4_isDigit
set_option maxRecDepth 20000 in
theorem ggX4_next_X4_numberTold : GoodIn wsX4_next wsX4_numberTold := goodIn_r _ [17, 1, 2, 4, 18, 19, 20, 21, 22, 23] (by decide +kernel) (by decide +kernel)
set_option maxRecDepth 20000 in
theorem gX4_next_X4_numberTold : GoodIn wsX4_next (wsV RX4 42 RX4 yX4_numberTold wsX4_numberTold) := goodIn_app (goodIn_of _ (by decide +kernel)) ggX4_next_X4_numberTold
theorem dX4_next_0 : decode cX4_next 0 = .ok (.aload_n 0, 1) := by decide +kernel
theorem dX4_next_1 : decode cX4_next 1 = .ok (.aload_n 0, 1) := by decide +kernel
theorem dX4_next_2 : decode cX4_next 2 = .ok (.getfield 19, 3) := by decide +kernel
theorem dX4_next_5 : decode cX4_next 5 = .ok (.putfield 32, 3) := by decide +kernel
theorem dX4_next_8 : decode cX4_next 8 = .ok (.aload_n 0, 1) := by decide +kernel
theorem dX4_next_9 : decode cX4_next 9 = .ok (.getfield 32, 3) := by decide +kernel
theorem dX4_next_12 : decode cX4_next 12 = .ok (.aload_n 0, 1) := by decide +kernel
theorem dX4_next_13 : decode cX4_next 13 = .ok (.getfield 15, 3) := by decide +kernel
theorem dX4_next_16 : decode cX4_next 16 = .ok (.if_icmp .ge 30, 3) := by decide +kernel
theorem dX4_next_19 : decode cX4_next 19 = .ok (.aload_n 0, 1) := by decide +kernel
theorem dX4_next_20 : decode cX4_next 20 = .ok (.getfield 11, 3) := by decide +kernel
theorem dX4_next_23 : decode cX4_next 23 = .ok (.aload_n 0, 1) := by decide +kernel
theorem dX4_next_24 : decode cX4_next 24 = .ok (.getfield 32, 3) := by decide +kernel
theorem dX4_next_27 : decode cX4_next 27 = .ok (.baload, 1) := by decide +kernel
theorem dX4_next_28 : decode cX4_next 28 = .ok (.bipush 32, 2) := by decide +kernel
theorem dX4_next_30 : decode cX4_next 30 = .ok (.if_icmp .ne 16, 3) := by decide +kernel
theorem dX4_next_33 : decode cX4_next 33 = .ok (.aload_n 0, 1) := by decide +kernel
theorem dX4_next_34 : decode cX4_next 34 = .ok (.dup, 1) := by decide +kernel
theorem dX4_next_35 : decode cX4_next 35 = .ok (.getfield 32, 3) := by decide +kernel
theorem dX4_next_38 : decode cX4_next 38 = .ok (.iconst 1, 1) := by decide +kernel
theorem dX4_next_39 : decode cX4_next 39 = .ok (.iadd, 1) := by decide +kernel
theorem dX4_next_40 : decode cX4_next 40 = .ok (.putfield 32, 3) := by decide +kernel
theorem dX4_next_43 : decode cX4_next 43 = .ok (.goto (-35), 3) := by decide +kernel
theorem dX4_next_46 : decode cX4_next 46 = .ok (.aload_n 0, 1) := by decide +kernel
theorem dX4_next_47 : decode cX4_next 47 = .ok (.aload_n 0, 1) := by decide +kernel
theorem dX4_next_48 : decode cX4_next 48 = .ok (.getfield 32, 3) := by decide +kernel
theorem dX4_next_51 : decode cX4_next 51 = .ok (.putfield 19, 3) := by decide +kernel
theorem dX4_next_54 : decode cX4_next 54 = .ok (.aload_n 0, 1) := by decide +kernel
theorem dX4_next_55 : decode cX4_next 55 = .ok (.getfield 32, 3) := by decide +kernel
theorem dX4_next_58 : decode cX4_next 58 = .ok (.aload_n 0, 1) := by decide +kernel
theorem dX4_next_59 : decode cX4_next 59 = .ok (.getfield 15, 3) := by decide +kernel
theorem dX4_next_62 : decode cX4_next 62 = .ok (.if_icmp .lt 11, 3) := by decide +kernel
theorem dX4_next_65 : decode cX4_next 65 = .ok (.aload_n 0, 1) := by decide +kernel
theorem dX4_next_66 : decode cX4_next 66 = .ok (.iconst 0, 1) := by decide +kernel
theorem dX4_next_67 : decode cX4_next 67 = .ok (.putfield 25, 3) := by decide +kernel
theorem dX4_next_70 : decode cX4_next 70 = .ok (.goto 147, 3) := by decide +kernel
theorem dX4_next_73 : decode cX4_next 73 = .ok (.aload_n 0, 1) := by decide +kernel
theorem dX4_next_74 : decode cX4_next 74 = .ok (.getfield 11, 3) := by decide +kernel
theorem dX4_next_77 : decode cX4_next 77 = .ok (.aload_n 0, 1) := by decide +kernel
theorem dX4_next_78 : decode cX4_next 78 = .ok (.getfield 32, 3) := by decide +kernel
theorem dX4_next_81 : decode cX4_next 81 = .ok (.baload, 1) := by decide +kernel
theorem dX4_next_82 : decode cX4_next 82 = .ok (.invokestatic 35, 3) := by decide +kernel
theorem dX4_next_85 : decode cX4_next 85 = .ok (.ifCond .eq 47, 3) := by decide +kernel
theorem dX4_next_88 : decode cX4_next 88 = .ok (.aload_n 0, 1) := by decide +kernel
theorem dX4_next_89 : decode cX4_next 89 = .ok (.iconst 1, 1) := by decide +kernel
theorem dX4_next_90 : decode cX4_next 90 = .ok (.putfield 25, 3) := by decide +kernel
theorem dX4_next_93 : decode cX4_next 93 = .ok (.aload_n 0, 1) := by decide +kernel
theorem dX4_next_94 : decode cX4_next 94 = .ok (.getfield 19, 3) := by decide +kernel
theorem dX4_next_97 : decode cX4_next 97 = .ok (.aload_n 0, 1) := by decide +kernel
theorem dX4_next_98 : decode cX4_next 98 = .ok (.getfield 15, 3) := by decide +kernel
theorem dX4_next_101 : decode cX4_next 101 = .ok (.if_icmp .ge 116, 3) := by decide +kernel
theorem dX4_next_104 : decode cX4_next 104 = .ok (.aload_n 0, 1) := by decide +kernel
theorem dX4_next_105 : decode cX4_next 105 = .ok (.getfield 11, 3) := by decide +kernel
theorem dX4_next_108 : decode cX4_next 108 = .ok (.aload_n 0, 1) := by decide +kernel
theorem dX4_next_109 : decode cX4_next 109 = .ok (.getfield 19, 3) := by decide +kernel
theorem dX4_next_112 : decode cX4_next 112 = .ok (.baload, 1) := by decide +kernel
theorem dX4_next_113 : decode cX4_next 113 = .ok (.invokestatic 35, 3) := by decide +kernel
theorem dX4_next_116 : decode cX4_next 116 = .ok (.ifCond .eq 101, 3) := by decide +kernel
theorem dX4_next_119 : decode cX4_next 119 = .ok (.aload_n 0, 1) := by decide +kernel
theorem dX4_next_120 : decode cX4_next 120 = .ok (.dup, 1) := by decide +kernel
theorem dX4_next_121 : decode cX4_next 121 = .ok (.getfield 19, 3) := by decide +kernel
theorem dX4_next_124 : decode cX4_next 124 = .ok (.iconst 1, 1) := by decide +kernel
theorem dX4_next_125 : decode cX4_next 125 = .ok (.iadd, 1) := by decide +kernel
theorem dX4_next_126 : decode cX4_next 126 = .ok (.putfield 19, 3) := by decide +kernel
theorem dX4_next_129 : decode cX4_next 129 = .ok (.goto (-36), 3) := by decide +kernel
theorem dX4_next_132 : decode cX4_next 132 = .ok (.aload_n 0, 1) := by decide +kernel
theorem dX4_next_133 : decode cX4_next 133 = .ok (.getfield 11, 3) := by decide +kernel
theorem dX4_next_136 : decode cX4_next 136 = .ok (.aload_n 0, 1) := by decide +kernel
theorem dX4_next_137 : decode cX4_next 137 = .ok (.getfield 32, 3) := by decide +kernel
theorem dX4_next_140 : decode cX4_next 140 = .ok (.baload, 1) := by decide +kernel
theorem dX4_next_141 : decode cX4_next 141 = .ok (.invokestatic 39, 3) := by decide +kernel
theorem dX4_next_144 : decode cX4_next 144 = .ok (.ifCond .eq 58, 3) := by decide +kernel
theorem dX4_next_147 : decode cX4_next 147 = .ok (.aload_n 0, 1) := by decide +kernel
theorem dX4_next_148 : decode cX4_next 148 = .ok (.iconst 2, 1) := by decide +kernel
theorem dX4_next_149 : decode cX4_next 149 = .ok (.putfield 25, 3) := by decide +kernel
theorem dX4_next_152 : decode cX4_next 152 = .ok (.aload_n 0, 1) := by decide +kernel
theorem dX4_next_153 : decode cX4_next 153 = .ok (.getfield 19, 3) := by decide +kernel
theorem dX4_next_156 : decode cX4_next 156 = .ok (.aload_n 0, 1) := by decide +kernel
theorem dX4_next_157 : decode cX4_next 157 = .ok (.getfield 15, 3) := by decide +kernel
theorem dX4_next_160 : decode cX4_next 160 = .ok (.if_icmp .ge 31, 3) := by decide +kernel
theorem dX4_next_163 : decode cX4_next 163 = .ok (.aload_n 0, 1) := by decide +kernel
theorem dX4_next_164 : decode cX4_next 164 = .ok (.getfield 11, 3) := by decide +kernel
theorem dX4_next_167 : decode cX4_next 167 = .ok (.aload_n 0, 1) := by decide +kernel
theorem dX4_next_168 : decode cX4_next 168 = .ok (.getfield 19, 3) := by decide +kernel
theorem dX4_next_171 : decode cX4_next 171 = .ok (.baload, 1) := by decide +kernel
theorem dX4_next_172 : decode cX4_next 172 = .ok (.invokestatic 39, 3) := by decide +kernel
theorem dX4_next_175 : decode cX4_next 175 = .ok (.ifCond .eq 16, 3) := by decide +kernel
theorem dX4_next_178 : decode cX4_next 178 = .ok (.aload_n 0, 1) := by decide +kernel
theorem dX4_next_179 : decode cX4_next 179 = .ok (.dup, 1) := by decide +kernel
theorem dX4_next_180 : decode cX4_next 180 = .ok (.getfield 19, 3) := by decide +kernel
theorem dX4_next_183 : decode cX4_next 183 = .ok (.iconst 1, 1) := by decide +kernel
theorem dX4_next_184 : decode cX4_next 184 = .ok (.iadd, 1) := by decide +kernel
theorem dX4_next_185 : decode cX4_next 185 = .ok (.putfield 19, 3) := by decide +kernel
theorem dX4_next_188 : decode cX4_next 188 = .ok (.goto (-36), 3) := by decide +kernel
theorem dX4_next_191 : decode cX4_next 191 = .ok (.aload_n 0, 1) := by decide +kernel
theorem dX4_next_192 : decode cX4_next 192 = .ok (.aload_n 0, 1) := by decide +kernel
theorem dX4_next_193 : decode cX4_next 193 = .ok (.invokevirtual 42, 3) := by decide +kernel
theorem dX4_next_196 : decode cX4_next 196 = .ok (.putfield 46, 3) := by decide +kernel
theorem dX4_next_199 : decode cX4_next 199 = .ok (.goto 18, 3) := by decide +kernel
theorem dX4_next_202 : decode cX4_next 202 = .ok (.aload_n 0, 1) := by decide +kernel
theorem dX4_next_203 : decode cX4_next 203 = .ok (.iconst 3, 1) := by decide +kernel
theorem dX4_next_204 : decode cX4_next 204 = .ok (.putfield 25, 3) := by decide +kernel
theorem dX4_next_207 : decode cX4_next 207 = .ok (.aload_n 0, 1) := by decide +kernel
theorem dX4_next_208 : decode cX4_next 208 = .ok (.dup, 1) := by decide +kernel
theorem dX4_next_209 : decode cX4_next 209 = .ok (.getfield 19, 3) := by decide +kernel
theorem dX4_next_212 : decode cX4_next 212 = .ok (.iconst 1, 1) := by decide +kernel
theorem dX4_next_213 : decode cX4_next 213 = .ok (.iadd, 1) := by decide +kernel
theorem dX4_next_214 : decode cX4_next 214 = .ok (.putfield 19, 3) := by decide +kernel
theorem dX4_next_217 : decode cX4_next 217 = .ok (.return_, 1) := by decide +kernel
theorem dX4_isLetter_0 : decode cX4_isLetter 0 = .ok (.iload_n 0, 1) := by decide +kernel
theorem dX4_isLetter_1 : decode cX4_isLetter 1 = .ok (.bipush 97, 2) := by decide +kernel
theorem dX4_isLetter_3 : decode cX4_isLetter 3 = .ok (.if_icmp .lt 13, 3) := by decide +kernel
theorem dX4_isLetter_6 : decode cX4_isLetter 6 = .ok (.iload_n 0, 1) := by decide +kernel
theorem dX4_isLetter_7 : decode cX4_isLetter 7 = .ok (.bipush 122, 2) := by decide +kernel
theorem dX4_isLetter_9 : decode cX4_isLetter 9 = .ok (.if_icmp .gt 7, 3) := by decide +kernel
theorem dX4_isLetter_12 : decode cX4_isLetter 12 = .ok (.iconst 1, 1) := by decide +kernel
theorem dX4_isLetter_13 : decode cX4_isLetter 13 = .ok (.goto 4, 3) := by decide +kernel
theorem dX4_isLetter_16 : decode cX4_isLetter 16 = .ok (.iconst 0, 1) := by decide +kernel
theorem dX4_isLetter_17 : decode cX4_isLetter 17 = .ok (.ireturn, 1) := by decide +kernel
theorem dX4_isDigit_0 : decode cX4_isDigit 0 = .ok (.iload_n 0, 1) := by decide +kernel
theorem dX4_isDigit_1 : decode cX4_isDigit 1 = .ok (.bipush 48, 2) := by decide +kernel
theorem dX4_isDigit_3 : decode cX4_isDigit 3 = .ok (.if_icmp .lt 13, 3) := by decide +kernel
theorem dX4_isDigit_6 : decode cX4_isDigit 6 = .ok (.iload_n 0, 1) := by decide +kernel
theorem dX4_isDigit_7 : decode cX4_isDigit 7 = .ok (.bipush 57, 2) := by decide +kernel
theorem dX4_isDigit_9 : decode cX4_isDigit 9 = .ok (.if_icmp .gt 7, 3) := by decide +kernel
theorem dX4_isDigit_12 : decode cX4_isDigit 12 = .ok (.iconst 1, 1) := by decide +kernel
theorem dX4_isDigit_13 : decode cX4_isDigit 13 = .ok (.goto 4, 3) := by decide +kernel
theorem dX4_isDigit_16 : decode cX4_isDigit 16 = .ok (.iconst 0, 1) := by decide +kernel
theorem dX4_isDigit_17 : decode cX4_isDigit 17 = .ok (.ireturn, 1) := by decide +kernel
theorem dX4_numberTold_0 : decode cX4_numberTold 0 = .ok (.aload_n 0, 1) := by decide +kernel
theorem dX4_numberTold_1 : decode cX4_numberTold 1 = .ok (.getfield 19, 3) := by decide +kernel
theorem dX4_numberTold_4 : decode cX4_numberTold 4 = .ok (.aload_n 0, 1) := by decide +kernel
theorem dX4_numberTold_5 : decode cX4_numberTold 5 = .ok (.getfield 32, 3) := by decide +kernel
theorem dX4_numberTold_8 : decode cX4_numberTold 8 = .ok (.isub, 1) := by decide +kernel
theorem dX4_numberTold_9 : decode cX4_numberTold 9 = .ok (.iconst 3, 1) := by decide +kernel
theorem dX4_numberTold_10 : decode cX4_numberTold 10 = .ok (.if_icmp .le 5, 3) := by decide +kernel
theorem dX4_numberTold_13 : decode cX4_numberTold 13 = .ok (.iconst (-1), 1) := by decide +kernel
theorem dX4_numberTold_14 : decode cX4_numberTold 14 = .ok (.ireturn, 1) := by decide +kernel
theorem dX4_numberTold_15 : decode cX4_numberTold 15 = .ok (.iconst 0, 1) := by decide +kernel
theorem dX4_numberTold_16 : decode cX4_numberTold 16 = .ok (.istore_n 1, 1) := by decide +kernel
theorem dX4_numberTold_17 : decode cX4_numberTold 17 = .ok (.aload_n 0, 1) := by decide +kernel
theorem dX4_numberTold_18 : decode cX4_numberTold 18 = .ok (.getfield 32, 3) := by decide +kernel
theorem dX4_numberTold_21 : decode cX4_numberTold 21 = .ok (.istore_n 2, 1) := by decide +kernel
theorem dX4_numberTold_22 : decode cX4_numberTold 22 = .ok (.iload_n 2, 1) := by decide +kernel
theorem dX4_numberTold_23 : decode cX4_numberTold 23 = .ok (.aload_n 0, 1) := by decide +kernel
theorem dX4_numberTold_24 : decode cX4_numberTold 24 = .ok (.getfield 19, 3) := by decide +kernel
theorem dX4_numberTold_27 : decode cX4_numberTold 27 = .ok (.if_icmp .ge 24, 3) := by decide +kernel
theorem dX4_numberTold_30 : decode cX4_numberTold 30 = .ok (.iload_n 1, 1) := by decide +kernel
theorem dX4_numberTold_31 : decode cX4_numberTold 31 = .ok (.bipush 10, 2) := by decide +kernel
theorem dX4_numberTold_33 : decode cX4_numberTold 33 = .ok (.imul, 1) := by decide +kernel
theorem dX4_numberTold_34 : decode cX4_numberTold 34 = .ok (.aload_n 0, 1) := by decide +kernel
theorem dX4_numberTold_35 : decode cX4_numberTold 35 = .ok (.getfield 11, 3) := by decide +kernel
theorem dX4_numberTold_38 : decode cX4_numberTold 38 = .ok (.iload_n 2, 1) := by decide +kernel
theorem dX4_numberTold_39 : decode cX4_numberTold 39 = .ok (.baload, 1) := by decide +kernel
theorem dX4_numberTold_40 : decode cX4_numberTold 40 = .ok (.iadd, 1) := by decide +kernel
theorem dX4_numberTold_41 : decode cX4_numberTold 41 = .ok (.bipush 48, 2) := by decide +kernel
theorem dX4_numberTold_43 : decode cX4_numberTold 43 = .ok (.isub, 1) := by decide +kernel
theorem dX4_numberTold_44 : decode cX4_numberTold 44 = .ok (.istore_n 1, 1) := by decide +kernel
theorem dX4_numberTold_45 : decode cX4_numberTold 45 = .ok (.iinc 2 1, 3) := by decide +kernel
theorem dX4_numberTold_48 : decode cX4_numberTold 48 = .ok (.goto (-26), 3) := by decide +kernel
theorem dX4_numberTold_51 : decode cX4_numberTold 51 = .ok (.iload_n 1, 1) := by decide +kernel
theorem dX4_numberTold_52 : decode cX4_numberTold 52 = .ok (.ireturn, 1) := by decide +kernel
set_option maxRecDepth 20000 in
theorem ggX4_readOrder_X4_kindNamed : GoodIn wsX4_readOrder wsX4_kindNamed := goodIn_r _ [5, 6, 7, 8, 4, 9, 10, 11, 12, 13, 14, 15, 16, 17, 18, 19, 20, 21, 22, 23, 24, 25, 26, 27, 28, 29, 30, 31, 32, 33, 34, 35, 36, 37, 38, 39, 40, 41, 42, 43, 44, 45, 46, 47, 48, 49, 50, 51, 52, 53, 54, 55, 56, 57, 58, 59, 60, 61, 62, 127, 128, 129, 130, 131, 132] (by decide +kernel) (by decide +kernel)
set_option maxRecDepth 20000 in
theorem gX4_readOrder_X4_kindNamed : GoodIn wsX4_readOrder (wsV RX4 49 RX4 yX4_kindNamed wsX4_kindNamed) := goodIn_app (goodIn_of _ (by decide +kernel)) ggX4_readOrder_X4_kindNamed
set_option maxRecDepth 20000 in
theorem ggX4_readOrder_X4_readMark : GoodIn wsX4_readOrder wsX4_readMark := goodIn_r _ [66, 67, 68, 69, 70, 4, 71, 11, 12, 72, 13, 10, 73, 74, 75, 76, 77, 78, 79, 80, 81, 82, 83, 84, 85, 86, 87, 6, 7, 8, 9, 14, 15, 16, 17, 18, 19, 20, 21, 22, 23, 24, 25, 26, 27, 28, 29, 30, 31, 32, 33, 34, 35, 36, 37, 38, 39, 40, 41, 42, 43, 44, 45, 46, 47, 48, 49, 50, 51, 52, 53, 54, 55, 56, 57, 58, 59, 60, 61, 62, 88, 89, 90, 91, 92, 93, 94, 95, 96, 97, 98, 99, 100, 101, 102, 103, 104, 105, 106, 107, 133, 134, 135, 136, 137, 138, 139, 140, 141, 142, 127, 128, 129, 130, 131, 132] (by decide +kernel) (by decide +kernel)
set_option maxRecDepth 20000 in
theorem gX4_readOrder_X4_readMark : GoodIn wsX4_readOrder (wsV RX4 52 RX4 yX4_readMark wsX4_readMark) := goodIn_app (goodIn_of _ (by decide +kernel)) ggX4_readOrder_X4_readMark
set_option maxRecDepth 20000 in
theorem ggX4_readOrder_X4_isWord : GoodIn wsX4_readOrder wsX4_isWord := goodIn_r _ [9, 10, 11, 12, 13, 14, 15, 16, 17, 18, 19, 20, 21, 22, 23, 24, 25, 26, 27, 28, 29, 30, 31, 32, 33, 34, 35, 36, 37, 38, 39, 40, 41, 42, 43, 44, 45, 46, 47, 48, 49, 50, 51, 52, 53, 54, 55, 56, 57, 58, 59, 60, 61, 62, 127, 128, 129, 130, 131, 132] (by decide +kernel) (by decide +kernel)
set_option maxRecDepth 20000 in
theorem gX4_readOrder_X4_isWord : GoodIn wsX4_readOrder (wsV RX4 58 RX4 yX4_isWord wsX4_isWord) := goodIn_app (goodIn_of _ (by decide +kernel)) ggX4_readOrder_X4_isWord
set_option maxRecDepth 20000 in
theorem ggX4_readOrder_X4_readTouch : GoodIn wsX4_readOrder wsX4_readTouch := goodIn_r _ [111, 10, 73, 68, 69, 70, 4, 71, 11, 12, 72, 13, 74, 75, 76, 77, 78, 79, 80, 81, 82, 83, 88, 89, 90, 91, 92, 93, 94, 95, 96, 97, 98, 84, 85, 86, 87, 6, 7, 8, 9, 14, 15, 16, 17, 18, 19, 20, 21, 22, 23, 24, 25, 26, 27, 28, 29, 30, 31, 32, 33, 34, 35, 36, 37, 38, 39, 40, 41, 42, 43, 44, 45, 46, 47, 48, 49, 50, 51, 52, 53, 54, 55, 56, 57, 58, 59, 60, 61, 62, 112, 113, 114, 102, 115, 116, 117, 127, 128, 129, 130, 131, 132, 133, 134, 135, 136, 137, 138, 139, 140, 141, 142] (by decide +kernel) (by decide +kernel)
set_option maxRecDepth 20000 in
theorem gX4_readOrder_X4_readTouch : GoodIn wsX4_readOrder (wsV RX4 62 RX4 yX4_readTouch wsX4_readTouch) := goodIn_app (goodIn_of _ (by decide +kernel)) ggX4_readOrder_X4_readTouch
set_option maxRecDepth 20000 in
theorem ggX4_readOrder_X4_lawNamed : GoodIn wsX4_readOrder wsX4_lawNamed := goodIn_r _ [121, 6, 7, 8, 4, 9, 10, 11, 12, 13, 14, 15, 16, 17, 18, 19, 20, 21, 22, 23, 24, 25, 26, 27, 28, 29, 30, 31, 32, 33, 34, 35, 36, 37, 38, 39, 40, 41, 42, 43, 44, 45, 46, 47, 48, 49, 50, 51, 52, 53, 54, 55, 56, 57, 58, 59, 60, 61, 62, 127, 128, 129, 130, 131, 132] (by decide +kernel) (by decide +kernel)
set_option maxRecDepth 20000 in
theorem gX4_readOrder_X4_lawNamed : GoodIn wsX4_readOrder (wsV RX4 65 RX4 yX4_lawNamed wsX4_lawNamed) := goodIn_app (goodIn_of _ (by decide +kernel)) ggX4_readOrder_X4_lawNamed
set_option maxRecDepth 20000 in
theorem ggX4_readOrder_X4_readLaw : GoodIn wsX4_readOrder wsX4_readLaw := goodIn_r _ [125, 126, 68, 69, 70, 4, 71, 11, 12, 72, 13, 10, 73, 74, 75, 76, 77, 78, 79, 80, 81, 82, 83, 88, 89, 90, 91, 92, 93, 94, 95, 96, 97, 98, 133, 134, 135, 136, 137, 138, 139, 140, 141, 142, 127, 128, 129, 130, 131, 132] (by decide +kernel) (by decide +kernel)
set_option maxRecDepth 20000 in
theorem gX4_readOrder_X4_readLaw : GoodIn wsX4_readOrder (wsV RX4 68 RX4 yX4_readLaw wsX4_readLaw) := goodIn_app (goodIn_of _ (by decide +kernel)) ggX4_readOrder_X4_readLaw
theorem dX4_readOrder_0 : decode cX4_readOrder 0 = .ok (.aload_n 0, 1) := by decide +kernel
theorem dX4_readOrder_1 : decode cX4_readOrder 1 = .ok (.invokevirtual 49, 3) := by decide +kernel
theorem dX4_readOrder_4 : decode cX4_readOrder 4 = .ok (.istore_n 2, 1) := by decide +kernel
theorem dX4_readOrder_5 : decode cX4_readOrder 5 = .ok (.iload_n 2, 1) := by decide +kernel
theorem dX4_readOrder_6 : decode cX4_readOrder 6 = .ok (.iconst (-1), 1) := by decide +kernel
theorem dX4_readOrder_7 : decode cX4_readOrder 7 = .ok (.if_icmp .eq 10, 3) := by decide +kernel
theorem dX4_readOrder_10 : decode cX4_readOrder 10 = .ok (.aload_n 0, 1) := by decide +kernel
theorem dX4_readOrder_11 : decode cX4_readOrder 11 = .ok (.aload_n 1, 1) := by decide +kernel
theorem dX4_readOrder_12 : decode cX4_readOrder 12 = .ok (.iload_n 2, 1) := by decide +kernel
theorem dX4_readOrder_13 : decode cX4_readOrder 13 = .ok (.invokevirtual 52, 3) := by decide +kernel
theorem dX4_readOrder_16 : decode cX4_readOrder 16 = .ok (.ireturn, 1) := by decide +kernel
theorem dX4_readOrder_17 : decode cX4_readOrder 17 = .ok (.aload_n 0, 1) := by decide +kernel
theorem dX4_readOrder_18 : decode cX4_readOrder 18 = .ok (.ldc 56, 2) := by decide +kernel
theorem dX4_readOrder_20 : decode cX4_readOrder 20 = .ok (.invokevirtual 58, 3) := by decide +kernel
theorem dX4_readOrder_23 : decode cX4_readOrder 23 = .ok (.ifCond .eq 9, 3) := by decide +kernel
theorem dX4_readOrder_26 : decode cX4_readOrder 26 = .ok (.aload_n 0, 1) := by decide +kernel
theorem dX4_readOrder_27 : decode cX4_readOrder 27 = .ok (.aload_n 1, 1) := by decide +kernel
theorem dX4_readOrder_28 : decode cX4_readOrder 28 = .ok (.invokevirtual 62, 3) := by decide +kernel
theorem dX4_readOrder_31 : decode cX4_readOrder 31 = .ok (.ireturn, 1) := by decide +kernel
theorem dX4_readOrder_32 : decode cX4_readOrder 32 = .ok (.aload_n 0, 1) := by decide +kernel
theorem dX4_readOrder_33 : decode cX4_readOrder 33 = .ok (.invokevirtual 65, 3) := by decide +kernel
theorem dX4_readOrder_36 : decode cX4_readOrder 36 = .ok (.istore_n 3, 1) := by decide +kernel
theorem dX4_readOrder_37 : decode cX4_readOrder 37 = .ok (.iload_n 3, 1) := by decide +kernel
theorem dX4_readOrder_38 : decode cX4_readOrder 38 = .ok (.ifCond .lt 16, 3) := by decide +kernel
theorem dX4_readOrder_41 : decode cX4_readOrder 41 = .ok (.aload_n 0, 1) := by decide +kernel
theorem dX4_readOrder_42 : decode cX4_readOrder 42 = .ok (.aload_n 1, 1) := by decide +kernel
theorem dX4_readOrder_43 : decode cX4_readOrder 43 = .ok (.iload_n 3, 1) := by decide +kernel
theorem dX4_readOrder_44 : decode cX4_readOrder 44 = .ok (.invokevirtual 68, 3) := by decide +kernel
theorem dX4_readOrder_47 : decode cX4_readOrder 47 = .ok (.ifCond .eq 7, 3) := by decide +kernel
theorem dX4_readOrder_50 : decode cX4_readOrder 50 = .ok (.iconst 1, 1) := by decide +kernel
theorem dX4_readOrder_51 : decode cX4_readOrder 51 = .ok (.goto 4, 3) := by decide +kernel
theorem dX4_readOrder_54 : decode cX4_readOrder 54 = .ok (.iconst 0, 1) := by decide +kernel
theorem dX4_readOrder_55 : decode cX4_readOrder 55 = .ok (.ireturn, 1) := by decide +kernel
set_option maxRecDepth 20000 in
theorem ggX4_readMark_X4_next : GoodIn wsX4_readMark wsX4_next := goodIn_r _ [6, 7, 8, 9, 10, 11, 12, 13, 14, 5, 15, 16, 17, 18, 19, 20, 21, 22, 110, 111, 112, 113, 114, 115] (by decide +kernel) (by decide +kernel)
set_option maxRecDepth 20000 in
theorem gX4_readMark_X4_next : GoodIn wsX4_readMark (wsV RX4 22 RX4 yX4_next wsX4_next) := goodIn_app (goodIn_of _ (by decide +kernel)) ggX4_readMark_X4_next
set_option maxRecDepth 20000 in
theorem ggX4_readMark_X4_readWord : GoodIn wsX4_readMark wsX4_readWord := goodIn_r _ [26, 27, 28, 29, 5, 30, 11, 7, 8, 10, 31, 32, 33, 34, 35, 36, 37, 38, 39, 40, 41, 42, 43, 44, 45, 46, 47, 48, 49, 50, 51, 52, 53, 54, 55, 56, 57, 58, 59, 60, 61, 62, 63, 64, 65, 66, 67, 68, 69, 70, 71, 72, 73, 74, 75, 76, 77, 78, 79, 2, 3, 4, 6, 9, 12, 13, 14, 15, 16, 17, 18, 19, 20, 21, 22, 110, 111, 112, 113, 114, 115] (by decide +kernel) (by decide +kernel)
set_option maxRecDepth 20000 in
theorem gX4_readMark_X4_readWord : GoodIn wsX4_readMark (wsV RX4 78 RX4 yX4_readWord wsX4_readWord) := goodIn_app (goodIn_of _ (by decide +kernel)) ggX4_readMark_X4_readWord
set_option maxRecDepth 20000 in
theorem ggX4_readMark_X4_readNumber : GoodIn wsX4_readMark wsX4_readNumber := goodIn_r _ [83, 11, 12, 84, 85, 86, 2, 3, 4, 5, 6, 7, 8, 9, 10, 13, 14, 15, 16, 17, 18, 19, 20, 21, 22, 110, 111, 112, 113, 114, 115] (by decide +kernel) (by decide +kernel)
set_option maxRecDepth 20000 in
theorem gX4_readMark_X4_readNumber : GoodIn wsX4_readMark (wsV RX4 81 RX4 yX4_readNumber wsX4_readNumber) := goodIn_app (goodIn_of _ (by decide +kernel)) ggX4_readMark_X4_readNumber
set_option maxRecDepth 20000 in
theorem ggX4_readMark_X4_isWord : GoodIn wsX4_readMark wsX4_isWord := goodIn_r _ [30, 11, 7, 8, 10, 31, 32, 33, 34, 35, 36, 37, 38, 39, 40, 41, 42, 43, 44, 45, 46, 47, 48, 49, 50, 51, 52, 53, 54, 55, 56, 57, 58, 59, 60, 61, 62, 63, 64, 65, 66, 67, 68, 69, 70, 71, 72, 73, 74, 75, 76, 77, 78, 79, 110, 111, 112, 113, 114, 115] (by decide +kernel) (by decide +kernel)
set_option maxRecDepth 20000 in
theorem gX4_readMark_X4_isWord : GoodIn wsX4_readMark (wsV RX4 58 RX4 yX4_isWord wsX4_isWord) := goodIn_app (goodIn_of _ (by decide +kernel)) ggX4_readMark_X4_isWord
set_option maxRecDepth 20000 in
theorem ggX4_readMark_X4_readSign : GoodIn wsX4_readMark wsX4_readSign := goodIn_r _ [90, 11, 10, 8, 2, 3, 4, 5, 6, 7, 9, 12, 13, 14, 15, 16, 17, 18, 19, 20, 21, 22, 110, 111, 112, 113, 114, 115] (by decide +kernel) (by decide +kernel)
set_option maxRecDepth 20000 in
theorem gX4_readMark_X4_readSign : GoodIn wsX4_readMark (wsV RX4 87 RX4 yX4_readSign wsX4_readSign) := goodIn_app (goodIn_of _ (by decide +kernel)) ggX4_readMark_X4_readSign
set_option maxRecDepth 20000 in
theorem ggX4_readMark_X1_add : GoodIn wsX4_readMark wsX1_add := goodIn_r _ [95, 96, 97, 98, 99, 100, 101, 102, 103, 104, 105, 106, 107, 108, 109] (by decide +kernel) (by decide +kernel)
set_option maxRecDepth 20000 in
theorem gX4_readMark_X1_add : GoodIn wsX4_readMark (wsV RX4 91 RX1 yX1_add wsX1_add) := goodIn_app (goodIn_of _ (by decide +kernel)) ggX4_readMark_X1_add
theorem dX4_readMark_0 : decode cX4_readMark 0 = .ok (.aload_n 1, 1) := by decide +kernel
theorem dX4_readMark_1 : decode cX4_readMark 1 = .ok (.getfield 71, 3) := by decide +kernel
theorem dX4_readMark_4 : decode cX4_readMark 4 = .ok (.bipush 8, 2) := by decide +kernel
theorem dX4_readMark_6 : decode cX4_readMark 6 = .ok (.if_icmp .lt 5, 3) := by decide +kernel
theorem dX4_readMark_9 : decode cX4_readMark 9 = .ok (.iconst 0, 1) := by decide +kernel
theorem dX4_readMark_10 : decode cX4_readMark 10 = .ok (.ireturn, 1) := by decide +kernel
theorem dX4_readMark_11 : decode cX4_readMark 11 = .ok (.aload_n 0, 1) := by decide +kernel
theorem dX4_readMark_12 : decode cX4_readMark 12 = .ok (.invokevirtual 22, 3) := by decide +kernel
theorem dX4_readMark_15 : decode cX4_readMark 15 = .ok (.aload_n 0, 1) := by decide +kernel
theorem dX4_readMark_16 : decode cX4_readMark 16 = .ok (.ldc 76, 2) := by decide +kernel
theorem dX4_readMark_18 : decode cX4_readMark 18 = .ok (.invokevirtual 78, 3) := by decide +kernel
theorem dX4_readMark_21 : decode cX4_readMark 21 = .ok (.ifCond .ne 5, 3) := by decide +kernel
theorem dX4_readMark_24 : decode cX4_readMark 24 = .ok (.iconst 0, 1) := by decide +kernel
theorem dX4_readMark_25 : decode cX4_readMark 25 = .ok (.ireturn, 1) := by decide +kernel
theorem dX4_readMark_26 : decode cX4_readMark 26 = .ok (.aload_n 0, 1) := by decide +kernel
theorem dX4_readMark_27 : decode cX4_readMark 27 = .ok (.iconst 0, 1) := by decide +kernel
theorem dX4_readMark_28 : decode cX4_readMark 28 = .ok (.bipush 7, 2) := by decide +kernel
theorem dX4_readMark_30 : decode cX4_readMark 30 = .ok (.invokevirtual 81, 3) := by decide +kernel
theorem dX4_readMark_33 : decode cX4_readMark 33 = .ok (.istore_n 3, 1) := by decide +kernel
theorem dX4_readMark_34 : decode cX4_readMark 34 = .ok (.iload_n 3, 1) := by decide +kernel
theorem dX4_readMark_35 : decode cX4_readMark 35 = .ok (.ifCond .ge 5, 3) := by decide +kernel
theorem dX4_readMark_38 : decode cX4_readMark 38 = .ok (.iconst 0, 1) := by decide +kernel
theorem dX4_readMark_39 : decode cX4_readMark 39 = .ok (.ireturn, 1) := by decide +kernel
theorem dX4_readMark_40 : decode cX4_readMark 40 = .ok (.bipush 9, 2) := by decide +kernel
theorem dX4_readMark_42 : decode cX4_readMark 42 = .ok (.istore 4, 2) := by decide +kernel
theorem dX4_readMark_44 : decode cX4_readMark 44 = .ok (.aload_n 0, 1) := by decide +kernel
theorem dX4_readMark_45 : decode cX4_readMark 45 = .ok (.ldc 85, 2) := by decide +kernel
theorem dX4_readMark_47 : decode cX4_readMark 47 = .ok (.invokevirtual 58, 3) := by decide +kernel
theorem dX4_readMark_50 : decode cX4_readMark 50 = .ok (.ifCond .eq 16, 3) := by decide +kernel
theorem dX4_readMark_53 : decode cX4_readMark 53 = .ok (.aload_n 0, 1) := by decide +kernel
theorem dX4_readMark_54 : decode cX4_readMark 54 = .ok (.invokevirtual 22, 3) := by decide +kernel
theorem dX4_readMark_57 : decode cX4_readMark 57 = .ok (.aload_n 0, 1) := by decide +kernel
theorem dX4_readMark_58 : decode cX4_readMark 58 = .ok (.iconst 0, 1) := by decide +kernel
theorem dX4_readMark_59 : decode cX4_readMark 59 = .ok (.bipush 99, 2) := by decide +kernel
theorem dX4_readMark_61 : decode cX4_readMark 61 = .ok (.invokevirtual 81, 3) := by decide +kernel
theorem dX4_readMark_64 : decode cX4_readMark 64 = .ok (.istore 4, 2) := by decide +kernel
theorem dX4_readMark_66 : decode cX4_readMark 66 = .ok (.iload 4, 2) := by decide +kernel
theorem dX4_readMark_68 : decode cX4_readMark 68 = .ok (.ifCond .lt 27, 3) := by decide +kernel
theorem dX4_readMark_71 : decode cX4_readMark 71 = .ok (.aload_n 0, 1) := by decide +kernel
theorem dX4_readMark_72 : decode cX4_readMark 72 = .ok (.bipush 59, 2) := by decide +kernel
theorem dX4_readMark_74 : decode cX4_readMark 74 = .ok (.invokevirtual 87, 3) := by decide +kernel
theorem dX4_readMark_77 : decode cX4_readMark 77 = .ok (.ifCond .eq 18, 3) := by decide +kernel
theorem dX4_readMark_80 : decode cX4_readMark 80 = .ok (.aload_n 1, 1) := by decide +kernel
theorem dX4_readMark_81 : decode cX4_readMark 81 = .ok (.iload_n 2, 1) := by decide +kernel
theorem dX4_readMark_82 : decode cX4_readMark 82 = .ok (.iload 4, 2) := by decide +kernel
theorem dX4_readMark_84 : decode cX4_readMark 84 = .ok (.iload_n 3, 1) := by decide +kernel
theorem dX4_readMark_85 : decode cX4_readMark 85 = .ok (.invokevirtual 91, 3) := by decide +kernel
theorem dX4_readMark_88 : decode cX4_readMark 88 = .ok (.ifCond .eq 7, 3) := by decide +kernel
theorem dX4_readMark_91 : decode cX4_readMark 91 = .ok (.iconst 1, 1) := by decide +kernel
theorem dX4_readMark_92 : decode cX4_readMark 92 = .ok (.goto 4, 3) := by decide +kernel
theorem dX4_readMark_95 : decode cX4_readMark 95 = .ok (.iconst 0, 1) := by decide +kernel
theorem dX4_readMark_96 : decode cX4_readMark 96 = .ok (.ireturn, 1) := by decide +kernel
set_option maxRecDepth 20000 in
theorem ggX4_readTouch_X4_next : GoodIn wsX4_readTouch wsX4_next := goodIn_r _ [7, 8, 9, 10, 11, 1, 2, 12, 13, 6, 14, 15, 16, 17, 18, 19, 20, 21, 97, 98, 99, 100, 101, 102] (by decide +kernel) (by decide +kernel)
set_option maxRecDepth 20000 in
theorem gX4_readTouch_X4_next : GoodIn wsX4_readTouch (wsV RX4 22 RX4 yX4_next wsX4_next) := goodIn_app (goodIn_of _ (by decide +kernel)) ggX4_readTouch_X4_next
set_option maxRecDepth 20000 in
theorem ggX4_readTouch_X4_readNumber : GoodIn wsX4_readTouch wsX4_readNumber := goodIn_r _ [25, 1, 2, 26, 27, 28, 3, 4, 5, 6, 7, 8, 9, 10, 11, 12, 13, 14, 15, 16, 17, 18, 19, 20, 21, 97, 98, 99, 100, 101, 102] (by decide +kernel) (by decide +kernel)
set_option maxRecDepth 20000 in
theorem gX4_readTouch_X4_readNumber : GoodIn wsX4_readTouch (wsV RX4 81 RX4 yX4_readNumber wsX4_readNumber) := goodIn_app (goodIn_of _ (by decide +kernel)) ggX4_readTouch_X4_readNumber
set_option maxRecDepth 20000 in
theorem ggX4_readTouch_X4_readSign : GoodIn wsX4_readTouch wsX4_readSign := goodIn_r _ [32, 1, 11, 9, 3, 4, 5, 6, 7, 8, 10, 2, 12, 13, 14, 15, 16, 17, 18, 19, 20, 21, 97, 98, 99, 100, 101, 102] (by decide +kernel) (by decide +kernel)
set_option maxRecDepth 20000 in
theorem gX4_readTouch_X4_readSign : GoodIn wsX4_readTouch (wsV RX4 87 RX4 yX4_readSign wsX4_readSign) := goodIn_app (goodIn_of _ (by decide +kernel)) ggX4_readTouch_X4_readSign
set_option maxRecDepth 20000 in
theorem ggX4_readTouch_X4_readWord : GoodIn wsX4_readTouch wsX4_readWord := goodIn_r _ [36, 37, 38, 39, 6, 40, 1, 8, 9, 11, 41, 42, 43, 44, 45, 46, 47, 48, 49, 50, 51, 52, 53, 54, 55, 56, 57, 58, 59, 60, 61, 62, 63, 64, 65, 66, 67, 68, 69, 70, 71, 72, 73, 74, 75, 76, 77, 78, 79, 80, 81, 82, 83, 84, 85, 86, 87, 88, 89, 3, 4, 5, 7, 10, 2, 12, 13, 14, 15, 16, 17, 18, 19, 20, 21, 97, 98, 99, 100, 101, 102] (by decide +kernel) (by decide +kernel)
set_option maxRecDepth 20000 in
theorem gX4_readTouch_X4_readWord : GoodIn wsX4_readTouch (wsV RX4 78 RX4 yX4_readWord wsX4_readWord) := goodIn_app (goodIn_of _ (by decide +kernel)) ggX4_readTouch_X4_readWord
set_option maxRecDepth 20000 in
theorem ggX4_readTouch_X1_join : GoodIn wsX4_readTouch wsX1_join := goodIn_r _ [94, 95, 96, 103, 104, 105, 106, 107, 108, 109, 110, 111, 112] (by decide +kernel) (by decide +kernel)
set_option maxRecDepth 20000 in
theorem gX4_readTouch_X1_join : GoodIn wsX4_readTouch (wsV RX4 97 RX1 yX1_join wsX1_join) := goodIn_app (goodIn_of _ (by decide +kernel)) ggX4_readTouch_X1_join
theorem dX4_readTouch_0 : decode cX4_readTouch 0 = .ok (.aload_n 0, 1) := by decide +kernel
theorem dX4_readTouch_1 : decode cX4_readTouch 1 = .ok (.invokevirtual 22, 3) := by decide +kernel
theorem dX4_readTouch_4 : decode cX4_readTouch 4 = .ok (.aload_n 0, 1) := by decide +kernel
theorem dX4_readTouch_5 : decode cX4_readTouch 5 = .ok (.iconst 0, 1) := by decide +kernel
theorem dX4_readTouch_6 : decode cX4_readTouch 6 = .ok (.iconst 5, 1) := by decide +kernel
theorem dX4_readTouch_7 : decode cX4_readTouch 7 = .ok (.invokevirtual 81, 3) := by decide +kernel
theorem dX4_readTouch_10 : decode cX4_readTouch 10 = .ok (.istore_n 2, 1) := by decide +kernel
theorem dX4_readTouch_11 : decode cX4_readTouch 11 = .ok (.iload_n 2, 1) := by decide +kernel
theorem dX4_readTouch_12 : decode cX4_readTouch 12 = .ok (.ifCond .lt 12, 3) := by decide +kernel
theorem dX4_readTouch_15 : decode cX4_readTouch 15 = .ok (.aload_n 0, 1) := by decide +kernel
theorem dX4_readTouch_16 : decode cX4_readTouch 16 = .ok (.bipush 58, 2) := by decide +kernel
theorem dX4_readTouch_18 : decode cX4_readTouch 18 = .ok (.invokevirtual 87, 3) := by decide +kernel
theorem dX4_readTouch_21 : decode cX4_readTouch 21 = .ok (.ifCond .ne 5, 3) := by decide +kernel
theorem dX4_readTouch_24 : decode cX4_readTouch 24 = .ok (.iconst 0, 1) := by decide +kernel
theorem dX4_readTouch_25 : decode cX4_readTouch 25 = .ok (.ireturn, 1) := by decide +kernel
theorem dX4_readTouch_26 : decode cX4_readTouch 26 = .ok (.aload_n 0, 1) := by decide +kernel
theorem dX4_readTouch_27 : decode cX4_readTouch 27 = .ok (.iconst 0, 1) := by decide +kernel
theorem dX4_readTouch_28 : decode cX4_readTouch 28 = .ok (.bipush 7, 2) := by decide +kernel
theorem dX4_readTouch_30 : decode cX4_readTouch 30 = .ok (.invokevirtual 81, 3) := by decide +kernel
theorem dX4_readTouch_33 : decode cX4_readTouch 33 = .ok (.istore_n 3, 1) := by decide +kernel
theorem dX4_readTouch_34 : decode cX4_readTouch 34 = .ok (.iload_n 3, 1) := by decide +kernel
theorem dX4_readTouch_35 : decode cX4_readTouch 35 = .ok (.ifCond .lt 28, 3) := by decide +kernel
theorem dX4_readTouch_38 : decode cX4_readTouch 38 = .ok (.aload_n 0, 1) := by decide +kernel
theorem dX4_readTouch_39 : decode cX4_readTouch 39 = .ok (.ldc 95, 2) := by decide +kernel
theorem dX4_readTouch_41 : decode cX4_readTouch 41 = .ok (.invokevirtual 78, 3) := by decide +kernel
theorem dX4_readTouch_44 : decode cX4_readTouch 44 = .ok (.ifCond .eq 19, 3) := by decide +kernel
theorem dX4_readTouch_47 : decode cX4_readTouch 47 = .ok (.aload_n 0, 1) := by decide +kernel
theorem dX4_readTouch_48 : decode cX4_readTouch 48 = .ok (.getfield 25, 3) := by decide +kernel
theorem dX4_readTouch_51 : decode cX4_readTouch 51 = .ok (.iconst 2, 1) := by decide +kernel
theorem dX4_readTouch_52 : decode cX4_readTouch 52 = .ok (.if_icmp .ne 13, 3) := by decide +kernel
theorem dX4_readTouch_55 : decode cX4_readTouch 55 = .ok (.aload_n 0, 1) := by decide +kernel
theorem dX4_readTouch_56 : decode cX4_readTouch 56 = .ok (.getfield 46, 3) := by decide +kernel
theorem dX4_readTouch_59 : decode cX4_readTouch 59 = .ok (.iload_n 3, 1) := by decide +kernel
theorem dX4_readTouch_60 : decode cX4_readTouch 60 = .ok (.if_icmp .ne 5, 3) := by decide +kernel
theorem dX4_readTouch_63 : decode cX4_readTouch 63 = .ok (.iconst 0, 1) := by decide +kernel
theorem dX4_readTouch_64 : decode cX4_readTouch 64 = .ok (.ireturn, 1) := by decide +kernel
theorem dX4_readTouch_65 : decode cX4_readTouch 65 = .ok (.aload_n 0, 1) := by decide +kernel
theorem dX4_readTouch_66 : decode cX4_readTouch 66 = .ok (.iconst 0, 1) := by decide +kernel
theorem dX4_readTouch_67 : decode cX4_readTouch 67 = .ok (.bipush 7, 2) := by decide +kernel
theorem dX4_readTouch_69 : decode cX4_readTouch 69 = .ok (.invokevirtual 81, 3) := by decide +kernel
theorem dX4_readTouch_72 : decode cX4_readTouch 72 = .ok (.istore 4, 2) := by decide +kernel
theorem dX4_readTouch_74 : decode cX4_readTouch 74 = .ok (.iload 4, 2) := by decide +kernel
theorem dX4_readTouch_76 : decode cX4_readTouch 76 = .ok (.ifCond .lt 12, 3) := by decide +kernel
theorem dX4_readTouch_79 : decode cX4_readTouch 79 = .ok (.aload_n 0, 1) := by decide +kernel
theorem dX4_readTouch_80 : decode cX4_readTouch 80 = .ok (.bipush 59, 2) := by decide +kernel
theorem dX4_readTouch_82 : decode cX4_readTouch 82 = .ok (.invokevirtual 87, 3) := by decide +kernel
theorem dX4_readTouch_85 : decode cX4_readTouch 85 = .ok (.ifCond .ne 5, 3) := by decide +kernel
theorem dX4_readTouch_88 : decode cX4_readTouch 88 = .ok (.iconst 0, 1) := by decide +kernel
theorem dX4_readTouch_89 : decode cX4_readTouch 89 = .ok (.ireturn, 1) := by decide +kernel
theorem dX4_readTouch_90 : decode cX4_readTouch 90 = .ok (.aload_n 1, 1) := by decide +kernel
theorem dX4_readTouch_91 : decode cX4_readTouch 91 = .ok (.iload_n 2, 1) := by decide +kernel
theorem dX4_readTouch_92 : decode cX4_readTouch 92 = .ok (.iload_n 3, 1) := by decide +kernel
theorem dX4_readTouch_93 : decode cX4_readTouch 93 = .ok (.iload 4, 2) := by decide +kernel
theorem dX4_readTouch_95 : decode cX4_readTouch 95 = .ok (.invokevirtual 97, 3) := by decide +kernel
theorem dX4_readTouch_98 : decode cX4_readTouch 98 = .ok (.iconst 1, 1) := by decide +kernel
theorem dX4_readTouch_99 : decode cX4_readTouch 99 = .ok (.ireturn, 1) := by decide +kernel
set_option maxRecDepth 20000 in
theorem ggX4_readLaw_X4_next : GoodIn wsX4_readLaw wsX4_next := goodIn_r _ [6, 7, 8, 9, 10, 11, 12, 13, 14, 5, 15, 16, 17, 18, 19, 20, 21, 22, 44, 45, 46, 47, 48, 49] (by decide +kernel) (by decide +kernel)
set_option maxRecDepth 20000 in
theorem gX4_readLaw_X4_next : GoodIn wsX4_readLaw (wsV RX4 22 RX4 yX4_next wsX4_next) := goodIn_app (goodIn_of _ (by decide +kernel)) ggX4_readLaw_X4_next
set_option maxRecDepth 20000 in
theorem ggX4_readLaw_X4_readNumber : GoodIn wsX4_readLaw wsX4_readNumber := goodIn_r _ [26, 11, 12, 27, 28, 29, 2, 3, 4, 5, 6, 7, 8, 9, 10, 13, 14, 15, 16, 17, 18, 19, 20, 21, 22, 44, 45, 46, 47, 48, 49] (by decide +kernel) (by decide +kernel)
set_option maxRecDepth 20000 in
theorem gX4_readLaw_X4_readNumber : GoodIn wsX4_readLaw (wsV RX4 81 RX4 yX4_readNumber wsX4_readNumber) := goodIn_app (goodIn_of _ (by decide +kernel)) ggX4_readLaw_X4_readNumber
set_option maxRecDepth 20000 in
theorem ggX4_readLaw_X4_readSign : GoodIn wsX4_readLaw wsX4_readSign := goodIn_r _ [33, 11, 10, 8, 2, 3, 4, 5, 6, 7, 9, 12, 13, 14, 15, 16, 17, 18, 19, 20, 21, 22, 44, 45, 46, 47, 48, 49] (by decide +kernel) (by decide +kernel)
set_option maxRecDepth 20000 in
theorem gX4_readLaw_X4_readSign : GoodIn wsX4_readLaw (wsV RX4 87 RX4 yX4_readSign wsX4_readSign) := goodIn_app (goodIn_of _ (by decide +kernel)) ggX4_readLaw_X4_readSign
theorem dX4_readLaw_0 : decode cX4_readLaw 0 = .ok (.aload_n 0, 1) := by decide +kernel
theorem dX4_readLaw_1 : decode cX4_readLaw 1 = .ok (.invokevirtual 22, 3) := by decide +kernel
theorem dX4_readLaw_4 : decode cX4_readLaw 4 = .ok (.aload_n 0, 1) := by decide +kernel
theorem dX4_readLaw_5 : decode cX4_readLaw 5 = .ok (.getstatic 101, 3) := by decide +kernel
theorem dX4_readLaw_8 : decode cX4_readLaw 8 = .ok (.iload_n 2, 1) := by decide +kernel
theorem dX4_readLaw_9 : decode cX4_readLaw 9 = .ok (.iaload, 1) := by decide +kernel
theorem dX4_readLaw_10 : decode cX4_readLaw 10 = .ok (.getstatic 105, 3) := by decide +kernel
theorem dX4_readLaw_13 : decode cX4_readLaw 13 = .ok (.iload_n 2, 1) := by decide +kernel
theorem dX4_readLaw_14 : decode cX4_readLaw 14 = .ok (.iaload, 1) := by decide +kernel
theorem dX4_readLaw_15 : decode cX4_readLaw 15 = .ok (.invokevirtual 81, 3) := by decide +kernel
theorem dX4_readLaw_18 : decode cX4_readLaw 18 = .ok (.istore_n 3, 1) := by decide +kernel
theorem dX4_readLaw_19 : decode cX4_readLaw 19 = .ok (.iload_n 3, 1) := by decide +kernel
theorem dX4_readLaw_20 : decode cX4_readLaw 20 = .ok (.ifCond .lt 12, 3) := by decide +kernel
theorem dX4_readLaw_23 : decode cX4_readLaw 23 = .ok (.aload_n 0, 1) := by decide +kernel
theorem dX4_readLaw_24 : decode cX4_readLaw 24 = .ok (.bipush 59, 2) := by decide +kernel
theorem dX4_readLaw_26 : decode cX4_readLaw 26 = .ok (.invokevirtual 87, 3) := by decide +kernel
theorem dX4_readLaw_29 : decode cX4_readLaw 29 = .ok (.ifCond .ne 5, 3) := by decide +kernel
theorem dX4_readLaw_32 : decode cX4_readLaw 32 = .ok (.iconst 0, 1) := by decide +kernel
theorem dX4_readLaw_33 : decode cX4_readLaw 33 = .ok (.ireturn, 1) := by decide +kernel
theorem dX4_readLaw_34 : decode cX4_readLaw 34 = .ok (.aload_n 1, 1) := by decide +kernel
theorem dX4_readLaw_35 : decode cX4_readLaw 35 = .ok (.getfield 108, 3) := by decide +kernel
theorem dX4_readLaw_38 : decode cX4_readLaw 38 = .ok (.iload_n 2, 1) := by decide +kernel
theorem dX4_readLaw_39 : decode cX4_readLaw 39 = .ok (.iload_n 3, 1) := by decide +kernel
theorem dX4_readLaw_40 : decode cX4_readLaw 40 = .ok (.iastore, 1) := by decide +kernel
theorem dX4_readLaw_41 : decode cX4_readLaw 41 = .ok (.iconst 1, 1) := by decide +kernel
theorem dX4_readLaw_42 : decode cX4_readLaw 42 = .ok (.ireturn, 1) := by decide +kernel
set_option maxRecDepth 20000 in
theorem ggX4_kindNamed_X4_isWord : GoodIn wsX4_kindNamed wsX4_isWord := goodIn_r _ [5, 6, 7, 8, 9, 10, 11, 12, 13, 14, 15, 16, 17, 18, 19, 20, 21, 22, 23, 24, 25, 26, 27, 28, 29, 30, 31, 32, 33, 34, 35, 36, 37, 38, 39, 40, 41, 42, 43, 44, 45, 46, 47, 48, 49, 50, 51, 52, 53, 54, 55, 56, 57, 58, 59, 60, 61, 62, 63, 64] (by decide +kernel) (by decide +kernel)
set_option maxRecDepth 20000 in
theorem gX4_kindNamed_X4_isWord : GoodIn wsX4_kindNamed (wsV RX4 58 RX4 yX4_isWord wsX4_isWord) := goodIn_app (goodIn_of _ (by decide +kernel)) ggX4_kindNamed_X4_isWord
theorem dX4_kindNamed_0 : decode cX4_kindNamed 0 = .ok (.aload_n 0, 1) := by decide +kernel
theorem dX4_kindNamed_1 : decode cX4_kindNamed 1 = .ok (.ldc 111, 2) := by decide +kernel
theorem dX4_kindNamed_3 : decode cX4_kindNamed 3 = .ok (.invokevirtual 58, 3) := by decide +kernel
theorem dX4_kindNamed_6 : decode cX4_kindNamed 6 = .ok (.ifCond .eq 5, 3) := by decide +kernel
theorem dX4_kindNamed_9 : decode cX4_kindNamed 9 = .ok (.iconst 0, 1) := by decide +kernel
theorem dX4_kindNamed_10 : decode cX4_kindNamed 10 = .ok (.ireturn, 1) := by decide +kernel
theorem dX4_kindNamed_11 : decode cX4_kindNamed 11 = .ok (.aload_n 0, 1) := by decide +kernel
theorem dX4_kindNamed_12 : decode cX4_kindNamed 12 = .ok (.ldc 113, 2) := by decide +kernel
theorem dX4_kindNamed_14 : decode cX4_kindNamed 14 = .ok (.invokevirtual 58, 3) := by decide +kernel
theorem dX4_kindNamed_17 : decode cX4_kindNamed 17 = .ok (.ifCond .eq 5, 3) := by decide +kernel
theorem dX4_kindNamed_20 : decode cX4_kindNamed 20 = .ok (.iconst 1, 1) := by decide +kernel
theorem dX4_kindNamed_21 : decode cX4_kindNamed 21 = .ok (.ireturn, 1) := by decide +kernel
theorem dX4_kindNamed_22 : decode cX4_kindNamed 22 = .ok (.aload_n 0, 1) := by decide +kernel
theorem dX4_kindNamed_23 : decode cX4_kindNamed 23 = .ok (.ldc 115, 2) := by decide +kernel
theorem dX4_kindNamed_25 : decode cX4_kindNamed 25 = .ok (.invokevirtual 58, 3) := by decide +kernel
theorem dX4_kindNamed_28 : decode cX4_kindNamed 28 = .ok (.ifCond .eq 5, 3) := by decide +kernel
theorem dX4_kindNamed_31 : decode cX4_kindNamed 31 = .ok (.iconst 2, 1) := by decide +kernel
theorem dX4_kindNamed_32 : decode cX4_kindNamed 32 = .ok (.ireturn, 1) := by decide +kernel
theorem dX4_kindNamed_33 : decode cX4_kindNamed 33 = .ok (.aload_n 0, 1) := by decide +kernel
theorem dX4_kindNamed_34 : decode cX4_kindNamed 34 = .ok (.ldc 117, 2) := by decide +kernel
theorem dX4_kindNamed_36 : decode cX4_kindNamed 36 = .ok (.invokevirtual 58, 3) := by decide +kernel
theorem dX4_kindNamed_39 : decode cX4_kindNamed 39 = .ok (.ifCond .eq 5, 3) := by decide +kernel
theorem dX4_kindNamed_42 : decode cX4_kindNamed 42 = .ok (.iconst 3, 1) := by decide +kernel
theorem dX4_kindNamed_43 : decode cX4_kindNamed 43 = .ok (.ireturn, 1) := by decide +kernel
theorem dX4_kindNamed_44 : decode cX4_kindNamed 44 = .ok (.aload_n 0, 1) := by decide +kernel
theorem dX4_kindNamed_45 : decode cX4_kindNamed 45 = .ok (.ldc 119, 2) := by decide +kernel
theorem dX4_kindNamed_47 : decode cX4_kindNamed 47 = .ok (.invokevirtual 58, 3) := by decide +kernel
theorem dX4_kindNamed_50 : decode cX4_kindNamed 50 = .ok (.ifCond .eq 5, 3) := by decide +kernel
theorem dX4_kindNamed_53 : decode cX4_kindNamed 53 = .ok (.iconst 4, 1) := by decide +kernel
theorem dX4_kindNamed_54 : decode cX4_kindNamed 54 = .ok (.ireturn, 1) := by decide +kernel
theorem dX4_kindNamed_55 : decode cX4_kindNamed 55 = .ok (.aload_n 0, 1) := by decide +kernel
theorem dX4_kindNamed_56 : decode cX4_kindNamed 56 = .ok (.ldc 121, 2) := by decide +kernel
theorem dX4_kindNamed_58 : decode cX4_kindNamed 58 = .ok (.invokevirtual 58, 3) := by decide +kernel
theorem dX4_kindNamed_61 : decode cX4_kindNamed 61 = .ok (.ifCond .eq 7, 3) := by decide +kernel
theorem dX4_kindNamed_64 : decode cX4_kindNamed 64 = .ok (.iconst 5, 1) := by decide +kernel
theorem dX4_kindNamed_65 : decode cX4_kindNamed 65 = .ok (.goto 4, 3) := by decide +kernel
theorem dX4_kindNamed_68 : decode cX4_kindNamed 68 = .ok (.iconst (-1), 1) := by decide +kernel
theorem dX4_kindNamed_69 : decode cX4_kindNamed 69 = .ok (.ireturn, 1) := by decide +kernel
set_option maxRecDepth 20000 in
theorem ggX4_lawNamed_X4_isWord : GoodIn wsX4_lawNamed wsX4_isWord := goodIn_r _ [5, 6, 7, 8, 9, 10, 11, 12, 13, 14, 15, 16, 17, 18, 19, 20, 21, 22, 23, 24, 25, 26, 27, 28, 29, 30, 31, 32, 33, 34, 35, 36, 37, 38, 39, 40, 41, 42, 43, 44, 45, 46, 47, 48, 49, 50, 51, 52, 53, 54, 55, 56, 57, 58, 59, 60, 61, 62, 63, 64] (by decide +kernel) (by decide +kernel)
set_option maxRecDepth 20000 in
theorem gX4_lawNamed_X4_isWord : GoodIn wsX4_lawNamed (wsV RX4 58 RX4 yX4_isWord wsX4_isWord) := goodIn_app (goodIn_of _ (by decide +kernel)) ggX4_lawNamed_X4_isWord
theorem dX4_lawNamed_0 : decode cX4_lawNamed 0 = .ok (.aload_n 0, 1) := by decide +kernel
theorem dX4_lawNamed_1 : decode cX4_lawNamed 1 = .ok (.ldc 123, 2) := by decide +kernel
theorem dX4_lawNamed_3 : decode cX4_lawNamed 3 = .ok (.invokevirtual 58, 3) := by decide +kernel
theorem dX4_lawNamed_6 : decode cX4_lawNamed 6 = .ok (.ifCond .eq 5, 3) := by decide +kernel
theorem dX4_lawNamed_9 : decode cX4_lawNamed 9 = .ok (.iconst 0, 1) := by decide +kernel
theorem dX4_lawNamed_10 : decode cX4_lawNamed 10 = .ok (.ireturn, 1) := by decide +kernel
theorem dX4_lawNamed_11 : decode cX4_lawNamed 11 = .ok (.aload_n 0, 1) := by decide +kernel
theorem dX4_lawNamed_12 : decode cX4_lawNamed 12 = .ok (.ldc 125, 2) := by decide +kernel
theorem dX4_lawNamed_14 : decode cX4_lawNamed 14 = .ok (.invokevirtual 58, 3) := by decide +kernel
theorem dX4_lawNamed_17 : decode cX4_lawNamed 17 = .ok (.ifCond .eq 5, 3) := by decide +kernel
theorem dX4_lawNamed_20 : decode cX4_lawNamed 20 = .ok (.iconst 1, 1) := by decide +kernel
theorem dX4_lawNamed_21 : decode cX4_lawNamed 21 = .ok (.ireturn, 1) := by decide +kernel
theorem dX4_lawNamed_22 : decode cX4_lawNamed 22 = .ok (.aload_n 0, 1) := by decide +kernel
theorem dX4_lawNamed_23 : decode cX4_lawNamed 23 = .ok (.ldc 127, 2) := by decide +kernel
theorem dX4_lawNamed_25 : decode cX4_lawNamed 25 = .ok (.invokevirtual 58, 3) := by decide +kernel
theorem dX4_lawNamed_28 : decode cX4_lawNamed 28 = .ok (.ifCond .eq 5, 3) := by decide +kernel
theorem dX4_lawNamed_31 : decode cX4_lawNamed 31 = .ok (.iconst 2, 1) := by decide +kernel
theorem dX4_lawNamed_32 : decode cX4_lawNamed 32 = .ok (.ireturn, 1) := by decide +kernel
theorem dX4_lawNamed_33 : decode cX4_lawNamed 33 = .ok (.aload_n 0, 1) := by decide +kernel
theorem dX4_lawNamed_34 : decode cX4_lawNamed 34 = .ok (.ldc 129, 2) := by decide +kernel
theorem dX4_lawNamed_36 : decode cX4_lawNamed 36 = .ok (.invokevirtual 58, 3) := by decide +kernel
theorem dX4_lawNamed_39 : decode cX4_lawNamed 39 = .ok (.ifCond .eq 7, 3) := by decide +kernel
theorem dX4_lawNamed_42 : decode cX4_lawNamed 42 = .ok (.iconst 3, 1) := by decide +kernel
theorem dX4_lawNamed_43 : decode cX4_lawNamed 43 = .ok (.goto 4, 3) := by decide +kernel
theorem dX4_lawNamed_46 : decode cX4_lawNamed 46 = .ok (.iconst (-1), 1) := by decide +kernel
theorem dX4_lawNamed_47 : decode cX4_lawNamed 47 = .ok (.ireturn, 1) := by decide +kernel
set_option maxRecDepth 20000 in
theorem ggX4_isWord_J0_length_8abf5 : GoodIn wsX4_isWord wsJ0_length_8abf5 := goodIn_r _ [9, 10, 11, 12, 13, 8, 14, 15, 16] (by decide +kernel) (by decide +kernel)
set_option maxRecDepth 20000 in
theorem gX4_isWord_J0_length_8abf5 : GoodIn wsX4_isWord (wsV RX4 131 RJ0 yJ0_length_8abf5 wsJ0_length_8abf5) := goodIn_app (goodIn_of _ (by decide +kernel)) ggX4_isWord_J0_length_8abf5
set_option maxRecDepth 20000 in
theorem ggX4_isWord_J0_charAt_5068e : GoodIn wsX4_isWord wsJ0_charAt_5068e := goodIn_r _ [20, 10, 21, 22, 23, 8, 24, 15, 16, 25, 26, 27, 28, 29, 30, 31, 32, 33, 34, 35, 36, 37, 38, 39, 40, 41, 42, 43, 44, 45, 46, 47, 48, 49, 50, 51, 52, 53] (by decide +kernel) (by decide +kernel)
set_option maxRecDepth 20000 in
theorem gX4_isWord_J0_charAt_5068e : GoodIn wsX4_isWord (wsV RX4 135 RJ0 yJ0_charAt_5068e wsJ0_charAt_5068e) := goodIn_app (goodIn_of _ (by decide +kernel)) ggX4_isWord_J0_charAt_5068e
theorem dX4_isWord_0 : decode cX4_isWord 0 = .ok (.aload_n 0, 1) := by decide +kernel
theorem dX4_isWord_1 : decode cX4_isWord 1 = .ok (.getfield 25, 3) := by decide +kernel
theorem dX4_isWord_4 : decode cX4_isWord 4 = .ok (.iconst 1, 1) := by decide +kernel
theorem dX4_isWord_5 : decode cX4_isWord 5 = .ok (.if_icmp .ne 19, 3) := by decide +kernel
theorem dX4_isWord_8 : decode cX4_isWord 8 = .ok (.aload_n 0, 1) := by decide +kernel
theorem dX4_isWord_9 : decode cX4_isWord 9 = .ok (.getfield 19, 3) := by decide +kernel
theorem dX4_isWord_12 : decode cX4_isWord 12 = .ok (.aload_n 0, 1) := by decide +kernel
theorem dX4_isWord_13 : decode cX4_isWord 13 = .ok (.getfield 32, 3) := by decide +kernel
theorem dX4_isWord_16 : decode cX4_isWord 16 = .ok (.isub, 1) := by decide +kernel
theorem dX4_isWord_17 : decode cX4_isWord 17 = .ok (.aload_n 1, 1) := by decide +kernel
theorem dX4_isWord_18 : decode cX4_isWord 18 = .ok (.invokevirtual 131, 3) := by decide +kernel
theorem dX4_isWord_21 : decode cX4_isWord 21 = .ok (.if_icmp .eq 5, 3) := by decide +kernel
theorem dX4_isWord_24 : decode cX4_isWord 24 = .ok (.iconst 0, 1) := by decide +kernel
theorem dX4_isWord_25 : decode cX4_isWord 25 = .ok (.ireturn, 1) := by decide +kernel
theorem dX4_isWord_26 : decode cX4_isWord 26 = .ok (.iconst 0, 1) := by decide +kernel
theorem dX4_isWord_27 : decode cX4_isWord 27 = .ok (.istore_n 2, 1) := by decide +kernel
theorem dX4_isWord_28 : decode cX4_isWord 28 = .ok (.iload_n 2, 1) := by decide +kernel
theorem dX4_isWord_29 : decode cX4_isWord 29 = .ok (.aload_n 1, 1) := by decide +kernel
theorem dX4_isWord_30 : decode cX4_isWord 30 = .ok (.invokevirtual 131, 3) := by decide +kernel
theorem dX4_isWord_33 : decode cX4_isWord 33 = .ok (.if_icmp .ge 30, 3) := by decide +kernel
theorem dX4_isWord_36 : decode cX4_isWord 36 = .ok (.aload_n 0, 1) := by decide +kernel
theorem dX4_isWord_37 : decode cX4_isWord 37 = .ok (.getfield 11, 3) := by decide +kernel
theorem dX4_isWord_40 : decode cX4_isWord 40 = .ok (.aload_n 0, 1) := by decide +kernel
theorem dX4_isWord_41 : decode cX4_isWord 41 = .ok (.getfield 32, 3) := by decide +kernel
theorem dX4_isWord_44 : decode cX4_isWord 44 = .ok (.iload_n 2, 1) := by decide +kernel
theorem dX4_isWord_45 : decode cX4_isWord 45 = .ok (.iadd, 1) := by decide +kernel
theorem dX4_isWord_46 : decode cX4_isWord 46 = .ok (.baload, 1) := by decide +kernel
theorem dX4_isWord_47 : decode cX4_isWord 47 = .ok (.aload_n 1, 1) := by decide +kernel
theorem dX4_isWord_48 : decode cX4_isWord 48 = .ok (.iload_n 2, 1) := by decide +kernel
theorem dX4_isWord_49 : decode cX4_isWord 49 = .ok (.invokevirtual 135, 3) := by decide +kernel
theorem dX4_isWord_52 : decode cX4_isWord 52 = .ok (.if_icmp .eq 5, 3) := by decide +kernel
theorem dX4_isWord_55 : decode cX4_isWord 55 = .ok (.iconst 0, 1) := by decide +kernel
theorem dX4_isWord_56 : decode cX4_isWord 56 = .ok (.ireturn, 1) := by decide +kernel
theorem dX4_isWord_57 : decode cX4_isWord 57 = .ok (.iinc 2 1, 3) := by decide +kernel
theorem dX4_isWord_60 : decode cX4_isWord 60 = .ok (.goto (-32), 3) := by decide +kernel
theorem dX4_isWord_63 : decode cX4_isWord 63 = .ok (.iconst 1, 1) := by decide +kernel
theorem dX4_isWord_64 : decode cX4_isWord 64 = .ok (.ireturn, 1) := by decide +kernel
set_option maxRecDepth 20000 in
theorem ggX4_readWord_X4_isWord : GoodIn wsX4_readWord wsX4_isWord := goodIn_r _ [5, 6, 7, 8, 9, 10, 11, 12, 13, 14, 15, 16, 17, 18, 19, 20, 21, 22, 23, 24, 25, 26, 27, 28, 29, 30, 31, 32, 33, 34, 35, 36, 37, 38, 39, 40, 41, 42, 43, 44, 45, 46, 47, 48, 49, 50, 51, 52, 53, 54, 55, 56, 57, 58, 75, 76, 77, 78, 79, 80] (by decide +kernel) (by decide +kernel)
set_option maxRecDepth 20000 in
theorem gX4_readWord_X4_isWord : GoodIn wsX4_readWord (wsV RX4 58 RX4 yX4_isWord wsX4_isWord) := goodIn_app (goodIn_of _ (by decide +kernel)) ggX4_readWord_X4_isWord
set_option maxRecDepth 20000 in
theorem ggX4_readWord_X4_next : GoodIn wsX4_readWord wsX4_next := goodIn_r _ [62, 7, 8, 63, 9, 6, 64, 65, 66, 4, 67, 68, 69, 70, 71, 72, 73, 74, 75, 76, 77, 78, 79, 80] (by decide +kernel) (by decide +kernel)
set_option maxRecDepth 20000 in
theorem gX4_readWord_X4_next : GoodIn wsX4_readWord (wsV RX4 22 RX4 yX4_next wsX4_next) := goodIn_app (goodIn_of _ (by decide +kernel)) ggX4_readWord_X4_next
theorem dX4_readWord_0 : decode cX4_readWord 0 = .ok (.aload_n 0, 1) := by decide +kernel
theorem dX4_readWord_1 : decode cX4_readWord 1 = .ok (.aload_n 1, 1) := by decide +kernel
theorem dX4_readWord_2 : decode cX4_readWord 2 = .ok (.invokevirtual 58, 3) := by decide +kernel
theorem dX4_readWord_5 : decode cX4_readWord 5 = .ok (.istore_n 2, 1) := by decide +kernel
theorem dX4_readWord_6 : decode cX4_readWord 6 = .ok (.iload_n 2, 1) := by decide +kernel
theorem dX4_readWord_7 : decode cX4_readWord 7 = .ok (.ifCond .eq 7, 3) := by decide +kernel
theorem dX4_readWord_10 : decode cX4_readWord 10 = .ok (.aload_n 0, 1) := by decide +kernel
theorem dX4_readWord_11 : decode cX4_readWord 11 = .ok (.invokevirtual 22, 3) := by decide +kernel
theorem dX4_readWord_14 : decode cX4_readWord 14 = .ok (.iload_n 2, 1) := by decide +kernel
theorem dX4_readWord_15 : decode cX4_readWord 15 = .ok (.ireturn, 1) := by decide +kernel
set_option maxRecDepth 20000 in
theorem ggX4_readSign_X4_next : GoodIn wsX4_readSign wsX4_next := goodIn_r _ [8, 9, 3, 10, 2, 1, 11, 12, 13, 7, 14, 15, 16, 17, 18, 19, 20, 21, 22, 23, 24, 25, 26, 27] (by decide +kernel) (by decide +kernel)
set_option maxRecDepth 20000 in
theorem gX4_readSign_X4_next : GoodIn wsX4_readSign (wsV RX4 22 RX4 yX4_next wsX4_next) := goodIn_app (goodIn_of _ (by decide +kernel)) ggX4_readSign_X4_next
theorem dX4_readSign_0 : decode cX4_readSign 0 = .ok (.aload_n 0, 1) := by decide +kernel
theorem dX4_readSign_1 : decode cX4_readSign 1 = .ok (.getfield 25, 3) := by decide +kernel
theorem dX4_readSign_4 : decode cX4_readSign 4 = .ok (.iconst 3, 1) := by decide +kernel
theorem dX4_readSign_5 : decode cX4_readSign 5 = .ok (.if_icmp .ne 20, 3) := by decide +kernel
theorem dX4_readSign_8 : decode cX4_readSign 8 = .ok (.aload_n 0, 1) := by decide +kernel
theorem dX4_readSign_9 : decode cX4_readSign 9 = .ok (.getfield 11, 3) := by decide +kernel
theorem dX4_readSign_12 : decode cX4_readSign 12 = .ok (.aload_n 0, 1) := by decide +kernel
theorem dX4_readSign_13 : decode cX4_readSign 13 = .ok (.getfield 32, 3) := by decide +kernel
theorem dX4_readSign_16 : decode cX4_readSign 16 = .ok (.baload, 1) := by decide +kernel
theorem dX4_readSign_17 : decode cX4_readSign 17 = .ok (.iload_n 1, 1) := by decide +kernel
theorem dX4_readSign_18 : decode cX4_readSign 18 = .ok (.if_icmp .ne 7, 3) := by decide +kernel
theorem dX4_readSign_21 : decode cX4_readSign 21 = .ok (.iconst 1, 1) := by decide +kernel
theorem dX4_readSign_22 : decode cX4_readSign 22 = .ok (.goto 4, 3) := by decide +kernel
theorem dX4_readSign_25 : decode cX4_readSign 25 = .ok (.iconst 0, 1) := by decide +kernel
theorem dX4_readSign_26 : decode cX4_readSign 26 = .ok (.istore_n 2, 1) := by decide +kernel
theorem dX4_readSign_27 : decode cX4_readSign 27 = .ok (.iload_n 2, 1) := by decide +kernel
theorem dX4_readSign_28 : decode cX4_readSign 28 = .ok (.ifCond .eq 7, 3) := by decide +kernel
theorem dX4_readSign_31 : decode cX4_readSign 31 = .ok (.aload_n 0, 1) := by decide +kernel
theorem dX4_readSign_32 : decode cX4_readSign 32 = .ok (.invokevirtual 22, 3) := by decide +kernel
theorem dX4_readSign_35 : decode cX4_readSign 35 = .ok (.iload_n 2, 1) := by decide +kernel
theorem dX4_readSign_36 : decode cX4_readSign 36 = .ok (.ireturn, 1) := by decide +kernel
set_option maxRecDepth 20000 in
theorem ggX4_readNumber_X5_within : GoodIn wsX4_readNumber wsX5_within := goodIn_r _ [5] (by decide +kernel) (by decide +kernel)
set_option maxRecDepth 20000 in
theorem gX4_readNumber_X5_within_n139 : GoodIn wsX4_readNumber (wsX5_within) := ggX4_readNumber_X5_within
set_option maxRecDepth 20000 in
theorem ggX4_readNumber_X4_next : GoodIn wsX4_readNumber wsX4_next := goodIn_r _ [10, 11, 12, 13, 14, 1, 2, 15, 16, 9, 17, 18, 19, 20, 21, 22, 23, 24, 25, 26, 27, 28, 29, 30] (by decide +kernel) (by decide +kernel)
set_option maxRecDepth 20000 in
theorem gX4_readNumber_X4_next : GoodIn wsX4_readNumber (wsV RX4 22 RX4 yX4_next wsX4_next) := goodIn_app (goodIn_of _ (by decide +kernel)) ggX4_readNumber_X4_next
theorem dX4_readNumber_0 : decode cX4_readNumber 0 = .ok (.aload_n 0, 1) := by decide +kernel
theorem dX4_readNumber_1 : decode cX4_readNumber 1 = .ok (.getfield 25, 3) := by decide +kernel
theorem dX4_readNumber_4 : decode cX4_readNumber 4 = .ok (.iconst 2, 1) := by decide +kernel
theorem dX4_readNumber_5 : decode cX4_readNumber 5 = .ok (.if_icmp .ne 15, 3) := by decide +kernel
theorem dX4_readNumber_8 : decode cX4_readNumber 8 = .ok (.aload_n 0, 1) := by decide +kernel
theorem dX4_readNumber_9 : decode cX4_readNumber 9 = .ok (.getfield 46, 3) := by decide +kernel
theorem dX4_readNumber_12 : decode cX4_readNumber 12 = .ok (.iload_n 1, 1) := by decide +kernel
theorem dX4_readNumber_13 : decode cX4_readNumber 13 = .ok (.iload_n 2, 1) := by decide +kernel
theorem dX4_readNumber_14 : decode cX4_readNumber 14 = .ok (.invokestatic 139, 3) := by decide +kernel
theorem dX4_readNumber_17 : decode cX4_readNumber 17 = .ok (.ifCond .ne 5, 3) := by decide +kernel
theorem dX4_readNumber_20 : decode cX4_readNumber 20 = .ok (.iconst (-1), 1) := by decide +kernel
theorem dX4_readNumber_21 : decode cX4_readNumber 21 = .ok (.ireturn, 1) := by decide +kernel
theorem dX4_readNumber_22 : decode cX4_readNumber 22 = .ok (.aload_n 0, 1) := by decide +kernel
theorem dX4_readNumber_23 : decode cX4_readNumber 23 = .ok (.getfield 46, 3) := by decide +kernel
theorem dX4_readNumber_26 : decode cX4_readNumber 26 = .ok (.istore_n 3, 1) := by decide +kernel
theorem dX4_readNumber_27 : decode cX4_readNumber 27 = .ok (.aload_n 0, 1) := by decide +kernel
theorem dX4_readNumber_28 : decode cX4_readNumber 28 = .ok (.invokevirtual 22, 3) := by decide +kernel
theorem dX4_readNumber_31 : decode cX4_readNumber 31 = .ok (.iload_n 3, 1) := by decide +kernel
theorem dX4_readNumber_32 : decode cX4_readNumber 32 = .ok (.ireturn, 1) := by decide +kernel
set_option maxRecDepth 20000 in
theorem ggX5_init_X1_init : GoodIn wsX5_init wsX1_init := goodIn_r _ [31, 32, 2, 3, 23, 33, 34, 35, 36, 37, 38, 39, 40, 41, 42, 6, 43, 44, 45, 46, 47, 48, 49, 50, 51, 52, 53, 73, 74, 75, 76, 77, 78, 79, 80, 81, 82] (by decide +kernel) (by decide +kernel)
set_option maxRecDepth 20000 in
theorem gX5_init_X1_init : GoodIn wsX5_init (wsX1_init) := ggX5_init_X1_init
set_option maxRecDepth 20000 in
theorem ggX5_init_X4_init : GoodIn wsX5_init wsX4_init := goodIn_r _ [55, 56, 2, 3, 57, 58, 94, 95, 96, 97, 98, 99] (by decide +kernel) (by decide +kernel)
set_option maxRecDepth 20000 in
theorem gX5_init_X4_init_n27 : GoodIn wsX5_init (wsX4_init) := ggX5_init_X4_init
set_option maxRecDepth 20000 in
theorem ggX5_init_X0_init : GoodIn wsX5_init wsX0_init := goodIn_r _ [60, 61, 2, 3, 23, 62, 100, 101, 102, 103, 104, 105] (by decide +kernel) (by decide +kernel)
set_option maxRecDepth 20000 in
theorem gX5_init_X0_init_n34 : GoodIn wsX5_init (wsX0_init) := ggX5_init_X0_init
set_option maxRecDepth 20000 in
theorem ggX5_init_X2_init : GoodIn wsX5_init wsX2_init := goodIn_r _ [64, 65, 2, 3, 66, 67, 68, 106, 107, 108] (by decide +kernel) (by decide +kernel)
set_option maxRecDepth 20000 in
theorem gX5_init_X2_init_n55 : GoodIn wsX5_init (wsX2_init) := ggX5_init_X2_init
set_option maxRecDepth 20000 in
theorem ggX5_init_X3_init : GoodIn wsX5_init wsX3_init := goodIn_r _ [70, 71, 2, 3, 72, 109, 110, 111, 112] (by decide +kernel) (by decide +kernel)
set_option maxRecDepth 20000 in
theorem gX5_init_X3_init_n56 : GoodIn wsX5_init (wsX3_init) := ggX5_init_X3_init
theorem dX5_init_0 : decode cX5_init 0 = .ok (.aload_n 0, 1) := by decide +kernel
theorem dX5_init_1 : decode cX5_init 1 = .ok (.invokespecial 1, 3) := by decide +kernel
theorem dX5_init_4 : decode cX5_init 4 = .ok (.aload_n 0, 1) := by decide +kernel
theorem dX5_init_5 : decode cX5_init 5 = .ok (.new 7, 3) := by decide +kernel
theorem dX5_init_8 : decode cX5_init 8 = .ok (.dup, 1) := by decide +kernel
theorem dX5_init_9 : decode cX5_init 9 = .ok (.invokespecial 9, 3) := by decide +kernel
theorem dX5_init_12 : decode cX5_init 12 = .ok (.putfield 10, 3) := by decide +kernel
theorem dX5_init_15 : decode cX5_init 15 = .ok (.aload_n 0, 1) := by decide +kernel
theorem dX5_init_16 : decode cX5_init 16 = .ok (.new 7, 3) := by decide +kernel
theorem dX5_init_19 : decode cX5_init 19 = .ok (.dup, 1) := by decide +kernel
theorem dX5_init_20 : decode cX5_init 20 = .ok (.invokespecial 9, 3) := by decide +kernel
theorem dX5_init_23 : decode cX5_init 23 = .ok (.putfield 16, 3) := by decide +kernel
theorem dX5_init_26 : decode cX5_init 26 = .ok (.aload_n 0, 1) := by decide +kernel
theorem dX5_init_27 : decode cX5_init 27 = .ok (.new 7, 3) := by decide +kernel
theorem dX5_init_30 : decode cX5_init 30 = .ok (.dup, 1) := by decide +kernel
theorem dX5_init_31 : decode cX5_init 31 = .ok (.invokespecial 9, 3) := by decide +kernel
theorem dX5_init_34 : decode cX5_init 34 = .ok (.putfield 19, 3) := by decide +kernel
theorem dX5_init_37 : decode cX5_init 37 = .ok (.aload_n 0, 1) := by decide +kernel
theorem dX5_init_38 : decode cX5_init 38 = .ok (.new 7, 3) := by decide +kernel
theorem dX5_init_41 : decode cX5_init 41 = .ok (.dup, 1) := by decide +kernel
theorem dX5_init_42 : decode cX5_init 42 = .ok (.invokespecial 9, 3) := by decide +kernel
theorem dX5_init_45 : decode cX5_init 45 = .ok (.putfield 22, 3) := by decide +kernel
theorem dX5_init_48 : decode cX5_init 48 = .ok (.aload_n 0, 1) := by decide +kernel
theorem dX5_init_49 : decode cX5_init 49 = .ok (.new 25, 3) := by decide +kernel
theorem dX5_init_52 : decode cX5_init 52 = .ok (.dup, 1) := by decide +kernel
theorem dX5_init_53 : decode cX5_init 53 = .ok (.invokespecial 27, 3) := by decide +kernel
theorem dX5_init_56 : decode cX5_init 56 = .ok (.putfield 28, 3) := by decide +kernel
theorem dX5_init_59 : decode cX5_init 59 = .ok (.aload_n 0, 1) := by decide +kernel
theorem dX5_init_60 : decode cX5_init 60 = .ok (.new 32, 3) := by decide +kernel
theorem dX5_init_63 : decode cX5_init 63 = .ok (.dup, 1) := by decide +kernel
theorem dX5_init_64 : decode cX5_init 64 = .ok (.invokespecial 34, 3) := by decide +kernel
theorem dX5_init_67 : decode cX5_init 67 = .ok (.putfield 35, 3) := by decide +kernel
theorem dX5_init_70 : decode cX5_init 70 = .ok (.aload_n 0, 1) := by decide +kernel
theorem dX5_init_71 : decode cX5_init 71 = .ok (.iconst 4, 1) := by decide +kernel
theorem dX5_init_72 : decode cX5_init 72 = .ok (.anewarray 39, 3) := by decide +kernel
theorem dX5_init_75 : decode cX5_init 75 = .ok (.putfield 41, 3) := by decide +kernel
theorem dX5_init_78 : decode cX5_init 78 = .ok (.aload_n 0, 1) := by decide +kernel
theorem dX5_init_79 : decode cX5_init 79 = .ok (.iconst 4, 1) := by decide +kernel
theorem dX5_init_80 : decode cX5_init 80 = .ok (.anewarray 45, 3) := by decide +kernel
theorem dX5_init_83 : decode cX5_init 83 = .ok (.putfield 47, 3) := by decide +kernel
theorem dX5_init_86 : decode cX5_init 86 = .ok (.aload_n 0, 1) := by decide +kernel
theorem dX5_init_87 : decode cX5_init 87 = .ok (.bipush 30, 2) := by decide +kernel
theorem dX5_init_89 : decode cX5_init 89 = .ok (.newarray .int, 2) := by decide +kernel
theorem dX5_init_91 : decode cX5_init 91 = .ok (.putfield 51, 3) := by decide +kernel
theorem dX5_init_94 : decode cX5_init 94 = .ok (.iconst 0, 1) := by decide +kernel
theorem dX5_init_95 : decode cX5_init 95 = .ok (.istore_n 1, 1) := by decide +kernel
theorem dX5_init_96 : decode cX5_init 96 = .ok (.iload_n 1, 1) := by decide +kernel
theorem dX5_init_97 : decode cX5_init 97 = .ok (.iconst 4, 1) := by decide +kernel
theorem dX5_init_98 : decode cX5_init 98 = .ok (.if_icmp .ge 22, 3) := by decide +kernel
theorem dX5_init_101 : decode cX5_init 101 = .ok (.aload_n 0, 1) := by decide +kernel
theorem dX5_init_102 : decode cX5_init 102 = .ok (.getfield 41, 3) := by decide +kernel
theorem dX5_init_105 : decode cX5_init 105 = .ok (.iload_n 1, 1) := by decide +kernel
theorem dX5_init_106 : decode cX5_init 106 = .ok (.new 39, 3) := by decide +kernel
theorem dX5_init_109 : decode cX5_init 109 = .ok (.dup, 1) := by decide +kernel
theorem dX5_init_110 : decode cX5_init 110 = .ok (.invokespecial 55, 3) := by decide +kernel
theorem dX5_init_113 : decode cX5_init 113 = .ok (.aastore, 1) := by decide +kernel
theorem dX5_init_114 : decode cX5_init 114 = .ok (.iinc 1 1, 3) := by decide +kernel
theorem dX5_init_117 : decode cX5_init 117 = .ok (.goto (-21), 3) := by decide +kernel
theorem dX5_init_120 : decode cX5_init 120 = .ok (.iconst 0, 1) := by decide +kernel
theorem dX5_init_121 : decode cX5_init 121 = .ok (.istore_n 1, 1) := by decide +kernel
theorem dX5_init_122 : decode cX5_init 122 = .ok (.iload_n 1, 1) := by decide +kernel
theorem dX5_init_123 : decode cX5_init 123 = .ok (.iconst 4, 1) := by decide +kernel
theorem dX5_init_124 : decode cX5_init 124 = .ok (.if_icmp .ge 22, 3) := by decide +kernel
theorem dX5_init_127 : decode cX5_init 127 = .ok (.aload_n 0, 1) := by decide +kernel
theorem dX5_init_128 : decode cX5_init 128 = .ok (.getfield 47, 3) := by decide +kernel
theorem dX5_init_131 : decode cX5_init 131 = .ok (.iload_n 1, 1) := by decide +kernel
theorem dX5_init_132 : decode cX5_init 132 = .ok (.new 45, 3) := by decide +kernel
theorem dX5_init_135 : decode cX5_init 135 = .ok (.dup, 1) := by decide +kernel
theorem dX5_init_136 : decode cX5_init 136 = .ok (.invokespecial 56, 3) := by decide +kernel
theorem dX5_init_139 : decode cX5_init 139 = .ok (.aastore, 1) := by decide +kernel
theorem dX5_init_140 : decode cX5_init 140 = .ok (.iinc 1 1, 3) := by decide +kernel
theorem dX5_init_143 : decode cX5_init 143 = .ok (.goto (-21), 3) := by decide +kernel
theorem dX5_init_146 : decode cX5_init 146 = .ok (.return_, 1) := by decide +kernel
set_option maxRecDepth 20000 in
theorem ggX5_feed_X5_within : GoodIn wsX5_feed wsX5_within := goodIn_r _ [5] (by decide +kernel) (by decide +kernel)
set_option maxRecDepth 20000 in
theorem gX5_feed_X5_within : GoodIn wsX5_feed (va_wsS RX5 57 yX5_within wsX5_within) := goodIn_app (goodIn_of _ (by decide +kernel)) ggX5_feed_X5_within
set_option maxRecDepth 20000 in
theorem ggX5_feed_X4_take : GoodIn wsX5_feed wsX4_take := goodIn_r _ [10, 11, 12, 24, 25, 26, 27, 28, 29] (by decide +kernel) (by decide +kernel)
set_option maxRecDepth 20000 in
theorem gX5_feed_X4_take : GoodIn wsX5_feed (wsV RX5 61 RX4 yX4_take wsX4_take) := goodIn_app (goodIn_of _ (by decide +kernel)) ggX5_feed_X4_take
theorem dX5_feed_0 : decode cX5_feed 0 = .ok (.iload_n 3, 1) := by decide +kernel
theorem dX5_feed_1 : decode cX5_feed 1 = .ok (.iconst 1, 1) := by decide +kernel
theorem dX5_feed_2 : decode cX5_feed 2 = .ok (.bipush 8, 2) := by decide +kernel
theorem dX5_feed_4 : decode cX5_feed 4 = .ok (.invokestatic 57, 3) := by decide +kernel
theorem dX5_feed_7 : decode cX5_feed 7 = .ok (.ifCond .eq 15, 3) := by decide +kernel
theorem dX5_feed_10 : decode cX5_feed 10 = .ok (.aload_n 0, 1) := by decide +kernel
theorem dX5_feed_11 : decode cX5_feed 11 = .ok (.getfield 28, 3) := by decide +kernel
theorem dX5_feed_14 : decode cX5_feed 14 = .ok (.lload_n 1, 1) := by decide +kernel
theorem dX5_feed_15 : decode cX5_feed 15 = .ok (.iload_n 3, 1) := by decide +kernel
theorem dX5_feed_16 : decode cX5_feed 16 = .ok (.invokevirtual 61, 3) := by decide +kernel
theorem dX5_feed_19 : decode cX5_feed 19 = .ok (.goto 4, 3) := by decide +kernel
theorem dX5_feed_22 : decode cX5_feed 22 = .ok (.iconst (-1), 1) := by decide +kernel
theorem dX5_feed_23 : decode cX5_feed 23 = .ok (.ireturn, 1) := by decide +kernel
set_option maxRecDepth 20000 in
theorem ggX5_port_X1_clear : GoodIn wsX5_port wsX1_clear := goodIn_r _ [12, 13, 14, 15, 16, 17, 18, 19, 20, 21, 22, 11, 23, 24, 25, 169, 170, 171, 172, 173, 174, 175, 176, 177, 178] (by decide +kernel) (by decide +kernel)
set_option maxRecDepth 20000 in
theorem gX5_port_X1_clear : GoodIn wsX5_port (wsV RX5 65 RX1 yX1_clear wsX1_clear) := goodIn_app (goodIn_of _ (by decide +kernel)) ggX5_port_X1_clear
set_option maxRecDepth 20000 in
theorem ggX5_port_X4_readInto : GoodIn wsX5_port wsX4_readInto := goodIn_r _ [30, 31, 32, 33, 34, 35, 36, 29, 37, 38, 39, 40, 41, 42, 43, 44, 45, 46, 47, 48, 49, 50, 51, 52, 53, 54, 55, 56, 57, 58, 59, 60, 61, 62, 63, 64, 65, 66, 67, 68, 69, 70, 71, 72, 73, 74, 75, 76, 77, 78, 79, 80, 81, 82, 83, 84, 85, 86, 87, 88, 89, 90, 91, 92, 93, 94, 95, 96, 97, 98, 99, 100, 101, 102, 103, 104, 105, 106, 107, 108, 109, 110, 111, 112, 113, 114, 115, 116, 117, 118, 119, 120, 121, 122, 123, 124, 125, 126, 127, 128, 129, 130, 131, 132, 133, 134, 11, 135, 18, 136, 137, 138, 139, 140, 141, 142, 143, 21, 22, 23, 24, 25, 144, 145, 146, 147, 148, 149, 150, 151, 152, 179, 180, 181, 182, 183, 184, 169, 170, 171, 172, 173, 174, 175, 176, 177, 178] (by decide +kernel) (by decide +kernel)
set_option maxRecDepth 20000 in
theorem gX5_port_X4_readInto : GoodIn wsX5_port (wsV RX5 72 RX4 yX4_readInto wsX4_readInto) := goodIn_app (goodIn_of _ (by decide +kernel)) ggX5_port_X4_readInto
set_option maxRecDepth 20000 in
theorem ggX5_port_X1_become : GoodIn wsX5_port wsX1_become := goodIn_r _ [156, 13, 14, 15, 16, 17, 136, 137, 138, 24, 25, 18, 19, 157, 169, 170, 171, 172, 173, 174, 175, 176, 177, 178] (by decide +kernel) (by decide +kernel)
set_option maxRecDepth 20000 in
theorem gX5_port_X1_become : GoodIn wsX5_port (wsV RX5 79 RX1 yX1_become wsX1_become) := goodIn_app (goodIn_of _ (by decide +kernel)) ggX5_port_X1_become
theorem dX5_port_0 : decode cX5_port 0 = .ok (.aload_n 0, 1) := by decide +kernel
theorem dX5_port_1 : decode cX5_port 1 = .ok (.getfield 19, 3) := by decide +kernel
theorem dX5_port_4 : decode cX5_port 4 = .ok (.invokevirtual 65, 3) := by decide +kernel
theorem dX5_port_7 : decode cX5_port 7 = .ok (.aload_n 0, 1) := by decide +kernel
theorem dX5_port_8 : decode cX5_port 8 = .ok (.getfield 19, 3) := by decide +kernel
theorem dX5_port_11 : decode cX5_port 11 = .ok (.aload_n 0, 1) := by decide +kernel
theorem dX5_port_12 : decode cX5_port 12 = .ok (.getfield 10, 3) := by decide +kernel
theorem dX5_port_15 : decode cX5_port 15 = .ok (.getfield 68, 3) := by decide +kernel
theorem dX5_port_18 : decode cX5_port 18 = .ok (.putfield 68, 3) := by decide +kernel
theorem dX5_port_21 : decode cX5_port 21 = .ok (.aload_n 0, 1) := by decide +kernel
theorem dX5_port_22 : decode cX5_port 22 = .ok (.getfield 28, 3) := by decide +kernel
theorem dX5_port_25 : decode cX5_port 25 = .ok (.aload_n 0, 1) := by decide +kernel
theorem dX5_port_26 : decode cX5_port 26 = .ok (.getfield 19, 3) := by decide +kernel
theorem dX5_port_29 : decode cX5_port 29 = .ok (.invokevirtual 72, 3) := by decide +kernel
theorem dX5_port_32 : decode cX5_port 32 = .ok (.istore_n 1, 1) := by decide +kernel
theorem dX5_port_33 : decode cX5_port 33 = .ok (.aload_n 0, 1) := by decide +kernel
theorem dX5_port_34 : decode cX5_port 34 = .ok (.getfield 28, 3) := by decide +kernel
theorem dX5_port_37 : decode cX5_port 37 = .ok (.iconst 0, 1) := by decide +kernel
theorem dX5_port_38 : decode cX5_port 38 = .ok (.putfield 76, 3) := by decide +kernel
theorem dX5_port_41 : decode cX5_port 41 = .ok (.iload_n 1, 1) := by decide +kernel
theorem dX5_port_42 : decode cX5_port 42 = .ok (.ifCond .lt 8, 3) := by decide +kernel
theorem dX5_port_45 : decode cX5_port 45 = .ok (.bipush (-100), 2) := by decide +kernel
theorem dX5_port_47 : decode cX5_port 47 = .ok (.iload_n 1, 1) := by decide +kernel
theorem dX5_port_48 : decode cX5_port 48 = .ok (.isub, 1) := by decide +kernel
theorem dX5_port_49 : decode cX5_port 49 = .ok (.ireturn, 1) := by decide +kernel
theorem dX5_port_50 : decode cX5_port 50 = .ok (.aload_n 0, 1) := by decide +kernel
theorem dX5_port_51 : decode cX5_port 51 = .ok (.getfield 10, 3) := by decide +kernel
theorem dX5_port_54 : decode cX5_port 54 = .ok (.aload_n 0, 1) := by decide +kernel
theorem dX5_port_55 : decode cX5_port 55 = .ok (.getfield 19, 3) := by decide +kernel
theorem dX5_port_58 : decode cX5_port 58 = .ok (.invokevirtual 79, 3) := by decide +kernel
theorem dX5_port_61 : decode cX5_port 61 = .ok (.aload_n 0, 1) := by decide +kernel
theorem dX5_port_62 : decode cX5_port 62 = .ok (.iconst 0, 1) := by decide +kernel
theorem dX5_port_63 : decode cX5_port 63 = .ok (.putfield 83, 3) := by decide +kernel
theorem dX5_port_66 : decode cX5_port 66 = .ok (.aload_n 0, 1) := by decide +kernel
theorem dX5_port_67 : decode cX5_port 67 = .ok (.getfield 10, 3) := by decide +kernel
theorem dX5_port_70 : decode cX5_port 70 = .ok (.getfield 86, 3) := by decide +kernel
theorem dX5_port_73 : decode cX5_port 73 = .ok (.ireturn, 1) := by decide +kernel
set_option maxRecDepth 20000 in
theorem ggX5_set_X5_within : GoodIn wsX5_set wsX5_within := goodIn_r _ [8] (by decide +kernel) (by decide +kernel)
set_option maxRecDepth 20000 in
theorem gX5_set_X5_within : GoodIn wsX5_set (va_wsS RX5 57 yX5_within wsX5_within) := goodIn_app (goodIn_of _ (by decide +kernel)) ggX5_set_X5_within
theorem dX5_set_0 : decode cX5_set 0 = .ok (.iload_n 1, 1) := by decide +kernel
theorem dX5_set_1 : decode cX5_set 1 = .ok (.iconst 0, 1) := by decide +kernel
theorem dX5_set_2 : decode cX5_set 2 = .ok (.iconst 3, 1) := by decide +kernel
theorem dX5_set_3 : decode cX5_set 3 = .ok (.invokestatic 57, 3) := by decide +kernel
theorem dX5_set_6 : decode cX5_set 6 = .ok (.ifCond .eq 20, 3) := by decide +kernel
theorem dX5_set_9 : decode cX5_set 9 = .ok (.iload_n 2, 1) := by decide +kernel
theorem dX5_set_10 : decode cX5_set 10 = .ok (.getstatic 89, 3) := by decide +kernel
theorem dX5_set_13 : decode cX5_set 13 = .ok (.iload_n 1, 1) := by decide +kernel
theorem dX5_set_14 : decode cX5_set 14 = .ok (.iaload, 1) := by decide +kernel
theorem dX5_set_15 : decode cX5_set 15 = .ok (.getstatic 92, 3) := by decide +kernel
theorem dX5_set_18 : decode cX5_set 18 = .ok (.iload_n 1, 1) := by decide +kernel
theorem dX5_set_19 : decode cX5_set 19 = .ok (.iaload, 1) := by decide +kernel
theorem dX5_set_20 : decode cX5_set 20 = .ok (.invokestatic 57, 3) := by decide +kernel
theorem dX5_set_23 : decode cX5_set 23 = .ok (.ifCond .ne 5, 3) := by decide +kernel
theorem dX5_set_26 : decode cX5_set 26 = .ok (.iconst (-1), 1) := by decide +kernel
theorem dX5_set_27 : decode cX5_set 27 = .ok (.ireturn, 1) := by decide +kernel
theorem dX5_set_28 : decode cX5_set 28 = .ok (.aload_n 0, 1) := by decide +kernel
theorem dX5_set_29 : decode cX5_set 29 = .ok (.getfield 10, 3) := by decide +kernel
theorem dX5_set_32 : decode cX5_set 32 = .ok (.getfield 95, 3) := by decide +kernel
theorem dX5_set_35 : decode cX5_set 35 = .ok (.iload_n 1, 1) := by decide +kernel
theorem dX5_set_36 : decode cX5_set 36 = .ok (.iaload, 1) := by decide +kernel
theorem dX5_set_37 : decode cX5_set 37 = .ok (.istore_n 3, 1) := by decide +kernel
theorem dX5_set_38 : decode cX5_set 38 = .ok (.aload_n 0, 1) := by decide +kernel
theorem dX5_set_39 : decode cX5_set 39 = .ok (.getfield 10, 3) := by decide +kernel
theorem dX5_set_42 : decode cX5_set 42 = .ok (.getfield 95, 3) := by decide +kernel
theorem dX5_set_45 : decode cX5_set 45 = .ok (.iload_n 1, 1) := by decide +kernel
theorem dX5_set_46 : decode cX5_set 46 = .ok (.iload_n 2, 1) := by decide +kernel
theorem dX5_set_47 : decode cX5_set 47 = .ok (.iastore, 1) := by decide +kernel
theorem dX5_set_48 : decode cX5_set 48 = .ok (.iload_n 3, 1) := by decide +kernel
theorem dX5_set_49 : decode cX5_set 49 = .ok (.ireturn, 1) := by decide +kernel
set_option maxRecDepth 20000 in
theorem ggX5_lawOf_X5_within : GoodIn wsX5_lawOf wsX5_within := goodIn_r _ [6] (by decide +kernel) (by decide +kernel)
set_option maxRecDepth 20000 in
theorem gX5_lawOf_X5_within : GoodIn wsX5_lawOf (va_wsS RX5 57 yX5_within wsX5_within) := goodIn_app (goodIn_of _ (by decide +kernel)) ggX5_lawOf_X5_within
theorem dX5_lawOf_0 : decode cX5_lawOf 0 = .ok (.iload_n 1, 1) := by decide +kernel
theorem dX5_lawOf_1 : decode cX5_lawOf 1 = .ok (.iconst 0, 1) := by decide +kernel
theorem dX5_lawOf_2 : decode cX5_lawOf 2 = .ok (.iconst 3, 1) := by decide +kernel
theorem dX5_lawOf_3 : decode cX5_lawOf 3 = .ok (.invokestatic 57, 3) := by decide +kernel
theorem dX5_lawOf_6 : decode cX5_lawOf 6 = .ok (.ifCond .eq 15, 3) := by decide +kernel
theorem dX5_lawOf_9 : decode cX5_lawOf 9 = .ok (.aload_n 0, 1) := by decide +kernel
theorem dX5_lawOf_10 : decode cX5_lawOf 10 = .ok (.getfield 10, 3) := by decide +kernel
theorem dX5_lawOf_13 : decode cX5_lawOf 13 = .ok (.getfield 95, 3) := by decide +kernel
theorem dX5_lawOf_16 : decode cX5_lawOf 16 = .ok (.iload_n 1, 1) := by decide +kernel
theorem dX5_lawOf_17 : decode cX5_lawOf 17 = .ok (.iaload, 1) := by decide +kernel
theorem dX5_lawOf_18 : decode cX5_lawOf 18 = .ok (.goto 4, 3) := by decide +kernel
theorem dX5_lawOf_21 : decode cX5_lawOf 21 = .ok (.iconst (-1), 1) := by decide +kernel
theorem dX5_lawOf_22 : decode cX5_lawOf 22 = .ok (.ireturn, 1) := by decide +kernel
set_option maxRecDepth 20000 in
theorem ggX5_mark_X5_isKind : GoodIn wsX5_mark wsX5_isKind := goodIn_r _ [6, 7, 8, 5, 9] (by decide +kernel) (by decide +kernel)
set_option maxRecDepth 20000 in
theorem gX5_mark_X5_isKind : GoodIn wsX5_mark (va_wsS RX5 98 yX5_isKind wsX5_isKind) := goodIn_app (goodIn_of _ (by decide +kernel)) ggX5_mark_X5_isKind
set_option maxRecDepth 20000 in
theorem ggX5_mark_X5_isInk : GoodIn wsX5_mark wsX5_isInk := goodIn_r _ [12, 7, 8, 5, 9] (by decide +kernel) (by decide +kernel)
set_option maxRecDepth 20000 in
theorem gX5_mark_X5_isInk : GoodIn wsX5_mark (va_wsS RX5 102 yX5_isInk wsX5_isInk) := goodIn_app (goodIn_of _ (by decide +kernel)) ggX5_mark_X5_isInk
set_option maxRecDepth 20000 in
theorem ggX5_mark_X5_isOne : GoodIn wsX5_mark wsX5_isOne := goodIn_r _ [15, 7, 8, 5, 9] (by decide +kernel) (by decide +kernel)
set_option maxRecDepth 20000 in
theorem gX5_mark_X5_isOne : GoodIn wsX5_mark (va_wsS RX5 105 yX5_isOne wsX5_isOne) := goodIn_app (goodIn_of _ (by decide +kernel)) ggX5_mark_X5_isOne
set_option maxRecDepth 20000 in
theorem ggX5_mark_X1_add : GoodIn wsX5_mark wsX1_add := goodIn_r _ [20, 21, 22, 23, 24, 36, 37, 38, 39, 40, 41, 42, 43, 44, 45] (by decide +kernel) (by decide +kernel)
set_option maxRecDepth 20000 in
theorem gX5_mark_X1_add : GoodIn wsX5_mark (wsV RX5 108 RX1 yX1_add wsX1_add) := goodIn_app (goodIn_of _ (by decide +kernel)) ggX5_mark_X1_add
theorem dX5_mark_0 : decode cX5_mark 0 = .ok (.iload_n 1, 1) := by decide +kernel
theorem dX5_mark_1 : decode cX5_mark 1 = .ok (.invokestatic 98, 3) := by decide +kernel
theorem dX5_mark_4 : decode cX5_mark 4 = .ok (.ifCond .eq 17, 3) := by decide +kernel
theorem dX5_mark_7 : decode cX5_mark 7 = .ok (.iload_n 2, 1) := by decide +kernel
theorem dX5_mark_8 : decode cX5_mark 8 = .ok (.invokestatic 102, 3) := by decide +kernel
theorem dX5_mark_11 : decode cX5_mark 11 = .ok (.ifCond .eq 10, 3) := by decide +kernel
theorem dX5_mark_14 : decode cX5_mark 14 = .ok (.iload_n 3, 1) := by decide +kernel
theorem dX5_mark_15 : decode cX5_mark 15 = .ok (.invokestatic 105, 3) := by decide +kernel
theorem dX5_mark_18 : decode cX5_mark 18 = .ok (.ifCond .ne 5, 3) := by decide +kernel
theorem dX5_mark_21 : decode cX5_mark 21 = .ok (.iconst (-1), 1) := by decide +kernel
theorem dX5_mark_22 : decode cX5_mark 22 = .ok (.ireturn, 1) := by decide +kernel
theorem dX5_mark_23 : decode cX5_mark 23 = .ok (.aload_n 0, 1) := by decide +kernel
theorem dX5_mark_24 : decode cX5_mark 24 = .ok (.getfield 10, 3) := by decide +kernel
theorem dX5_mark_27 : decode cX5_mark 27 = .ok (.iload_n 1, 1) := by decide +kernel
theorem dX5_mark_28 : decode cX5_mark 28 = .ok (.iload_n 2, 1) := by decide +kernel
theorem dX5_mark_29 : decode cX5_mark 29 = .ok (.iload_n 3, 1) := by decide +kernel
theorem dX5_mark_30 : decode cX5_mark 30 = .ok (.invokevirtual 108, 3) := by decide +kernel
theorem dX5_mark_33 : decode cX5_mark 33 = .ok (.ifCond .eq 15, 3) := by decide +kernel
theorem dX5_mark_36 : decode cX5_mark 36 = .ok (.aload_n 0, 1) := by decide +kernel
theorem dX5_mark_37 : decode cX5_mark 37 = .ok (.getfield 10, 3) := by decide +kernel
theorem dX5_mark_40 : decode cX5_mark 40 = .ok (.getfield 86, 3) := by decide +kernel
theorem dX5_mark_43 : decode cX5_mark 43 = .ok (.iconst 1, 1) := by decide +kernel
theorem dX5_mark_44 : decode cX5_mark 44 = .ok (.isub, 1) := by decide +kernel
theorem dX5_mark_45 : decode cX5_mark 45 = .ok (.goto 5, 3) := by decide +kernel
theorem dX5_mark_48 : decode cX5_mark 48 = .ok (.bipush (-2), 2) := by decide +kernel
theorem dX5_mark_50 : decode cX5_mark 50 = .ok (.ireturn, 1) := by decide +kernel
set_option maxRecDepth 20000 in
theorem ggX5_of_X5_isMark : GoodIn wsX5_of wsX5_isMark := goodIn_r _ [9, 1, 10, 11, 12, 8, 13, 55, 56, 57, 58, 59, 60, 61, 62, 63, 64, 65, 66, 67, 68, 69, 70, 71, 72, 73, 74, 75] (by decide +kernel) (by decide +kernel)
set_option maxRecDepth 20000 in
theorem gX5_of_X5_isMark : GoodIn wsX5_of (wsV RX5 111 RX5 yX5_isMark wsX5_isMark) := goodIn_app (goodIn_of _ (by decide +kernel)) ggX5_of_X5_isMark
set_option maxRecDepth 20000 in
theorem ggX5_of_X1_fading : GoodIn wsX5_of wsX1_fading := goodIn_r _ [18, 19, 20, 66, 67, 68, 69, 70, 71, 72, 73, 74, 75] (by decide +kernel) (by decide +kernel)
set_option maxRecDepth 20000 in
theorem gX5_of_X1_fading : GoodIn wsX5_of (wsV RX5 123 RX1 yX1_fading wsX1_fading) := goodIn_app (goodIn_of _ (by decide +kernel)) ggX5_of_X1_fading
set_option maxRecDepth 20000 in
theorem ggX5_of_X1_goesNow : GoodIn wsX5_of wsX1_goesNow := goodIn_r _ [24, 25, 26, 27, 28, 29, 17, 30, 31, 32, 33, 34, 35, 36, 37, 38, 39, 40, 41, 42, 43, 44, 45, 20, 19, 46, 47, 48, 49, 50, 51, 52, 53, 54, 66, 67, 68, 69, 70, 71, 72, 73, 74, 75] (by decide +kernel) (by decide +kernel)
set_option maxRecDepth 20000 in
theorem gX5_of_X1_goesNow : GoodIn wsX5_of (wsV RX5 127 RX1 yX1_goesNow wsX1_goesNow) := goodIn_app (goodIn_of _ (by decide +kernel)) ggX5_of_X1_goesNow
theorem dX5_of_0 : decode cX5_of 0 = .ok (.aload_n 0, 1) := by decide +kernel
theorem dX5_of_1 : decode cX5_of 1 = .ok (.iload_n 1, 1) := by decide +kernel
theorem dX5_of_2 : decode cX5_of 2 = .ok (.invokevirtual 111, 3) := by decide +kernel
theorem dX5_of_5 : decode cX5_of 5 = .ok (.ifCond .ne 5, 3) := by decide +kernel
theorem dX5_of_8 : decode cX5_of 8 = .ok (.iconst (-1), 1) := by decide +kernel
theorem dX5_of_9 : decode cX5_of 9 = .ok (.ireturn, 1) := by decide +kernel
theorem dX5_of_10 : decode cX5_of 10 = .ok (.iload_n 2, 1) := by decide +kernel
theorem dX5_of_11 : decode cX5_of 11 = .ok (.tableswitch 93 0 4 #[33, 43, 53, 63, 76], 33) := by decide +kernel
theorem dX5_of_44 : decode cX5_of 44 = .ok (.aload_n 0, 1) := by decide +kernel
theorem dX5_of_45 : decode cX5_of 45 = .ok (.getfield 10, 3) := by decide +kernel
theorem dX5_of_48 : decode cX5_of 48 = .ok (.getfield 114, 3) := by decide +kernel
theorem dX5_of_51 : decode cX5_of 51 = .ok (.iload_n 1, 1) := by decide +kernel
theorem dX5_of_52 : decode cX5_of 52 = .ok (.iaload, 1) := by decide +kernel
theorem dX5_of_53 : decode cX5_of 53 = .ok (.ireturn, 1) := by decide +kernel
theorem dX5_of_54 : decode cX5_of 54 = .ok (.aload_n 0, 1) := by decide +kernel
theorem dX5_of_55 : decode cX5_of 55 = .ok (.getfield 10, 3) := by decide +kernel
theorem dX5_of_58 : decode cX5_of 58 = .ok (.getfield 117, 3) := by decide +kernel
theorem dX5_of_61 : decode cX5_of 61 = .ok (.iload_n 1, 1) := by decide +kernel
theorem dX5_of_62 : decode cX5_of 62 = .ok (.iaload, 1) := by decide +kernel
theorem dX5_of_63 : decode cX5_of 63 = .ok (.ireturn, 1) := by decide +kernel
theorem dX5_of_64 : decode cX5_of 64 = .ok (.aload_n 0, 1) := by decide +kernel
theorem dX5_of_65 : decode cX5_of 65 = .ok (.getfield 10, 3) := by decide +kernel
theorem dX5_of_68 : decode cX5_of 68 = .ok (.getfield 120, 3) := by decide +kernel
theorem dX5_of_71 : decode cX5_of 71 = .ok (.iload_n 1, 1) := by decide +kernel
theorem dX5_of_72 : decode cX5_of 72 = .ok (.iaload, 1) := by decide +kernel
theorem dX5_of_73 : decode cX5_of 73 = .ok (.ireturn, 1) := by decide +kernel
theorem dX5_of_74 : decode cX5_of 74 = .ok (.aload_n 0, 1) := by decide +kernel
theorem dX5_of_75 : decode cX5_of 75 = .ok (.getfield 10, 3) := by decide +kernel
theorem dX5_of_78 : decode cX5_of 78 = .ok (.iload_n 1, 1) := by decide +kernel
theorem dX5_of_79 : decode cX5_of 79 = .ok (.invokevirtual 123, 3) := by decide +kernel
theorem dX5_of_82 : decode cX5_of 82 = .ok (.sipush 1000, 3) := by decide +kernel
theorem dX5_of_85 : decode cX5_of 85 = .ok (.iadd, 1) := by decide +kernel
theorem dX5_of_86 : decode cX5_of 86 = .ok (.ireturn, 1) := by decide +kernel
theorem dX5_of_87 : decode cX5_of 87 = .ok (.aload_n 0, 1) := by decide +kernel
theorem dX5_of_88 : decode cX5_of 88 = .ok (.getfield 10, 3) := by decide +kernel
theorem dX5_of_91 : decode cX5_of 91 = .ok (.iload_n 1, 1) := by decide +kernel
theorem dX5_of_92 : decode cX5_of 92 = .ok (.invokevirtual 127, 3) := by decide +kernel
theorem dX5_of_95 : decode cX5_of 95 = .ok (.ifCond .eq 7, 3) := by decide +kernel
theorem dX5_of_98 : decode cX5_of 98 = .ok (.iconst 1, 1) := by decide +kernel
theorem dX5_of_99 : decode cX5_of 99 = .ok (.goto 4, 3) := by decide +kernel
theorem dX5_of_102 : decode cX5_of 102 = .ok (.iconst 0, 1) := by decide +kernel
theorem dX5_of_103 : decode cX5_of 103 = .ok (.ireturn, 1) := by decide +kernel
theorem dX5_of_104 : decode cX5_of 104 = .ok (.iconst (-1), 1) := by decide +kernel
theorem dX5_of_105 : decode cX5_of 105 = .ok (.ireturn, 1) := by decide +kernel
set_option maxRecDepth 20000 in
theorem ggX5_mind_X5_isMark : GoodIn wsX5_mind wsX5_isMark := goodIn_r _ [8, 1, 9, 10, 11, 7, 12, 19, 20, 21, 22, 23, 24, 25, 26, 27, 28, 29, 30, 31, 32, 33, 34, 35, 36, 37, 38, 39] (by decide +kernel) (by decide +kernel)
set_option maxRecDepth 20000 in
theorem gX5_mind_X5_isMark : GoodIn wsX5_mind (wsV RX5 111 RX5 yX5_isMark wsX5_isMark) := goodIn_app (goodIn_of _ (by decide +kernel)) ggX5_mind_X5_isMark
set_option maxRecDepth 20000 in
theorem ggX5_mind_X5_isKind : GoodIn wsX5_mind wsX5_isKind := goodIn_r _ [15, 10, 11, 7, 12] (by decide +kernel) (by decide +kernel)
set_option maxRecDepth 20000 in
theorem gX5_mind_X5_isKind : GoodIn wsX5_mind (va_wsS RX5 98 yX5_isKind wsX5_isKind) := goodIn_app (goodIn_of _ (by decide +kernel)) ggX5_mind_X5_isKind
set_option maxRecDepth 20000 in
theorem ggX5_mind_X5_isInk : GoodIn wsX5_mind wsX5_isInk := goodIn_r _ [18, 10, 11, 7, 12] (by decide +kernel) (by decide +kernel)
set_option maxRecDepth 20000 in
theorem gX5_mind_X5_isInk : GoodIn wsX5_mind (va_wsS RX5 102 yX5_isInk wsX5_isInk) := goodIn_app (goodIn_of _ (by decide +kernel)) ggX5_mind_X5_isInk
theorem dX5_mind_0 : decode cX5_mind 0 = .ok (.aload_n 0, 1) := by decide +kernel
theorem dX5_mind_1 : decode cX5_mind 1 = .ok (.iload_n 1, 1) := by decide +kernel
theorem dX5_mind_2 : decode cX5_mind 2 = .ok (.invokevirtual 111, 3) := by decide +kernel
theorem dX5_mind_5 : decode cX5_mind 5 = .ok (.ifCond .eq 17, 3) := by decide +kernel
theorem dX5_mind_8 : decode cX5_mind 8 = .ok (.iload_n 2, 1) := by decide +kernel
theorem dX5_mind_9 : decode cX5_mind 9 = .ok (.invokestatic 98, 3) := by decide +kernel
theorem dX5_mind_12 : decode cX5_mind 12 = .ok (.ifCond .eq 10, 3) := by decide +kernel
theorem dX5_mind_15 : decode cX5_mind 15 = .ok (.iload_n 3, 1) := by decide +kernel
theorem dX5_mind_16 : decode cX5_mind 16 = .ok (.invokestatic 102, 3) := by decide +kernel
theorem dX5_mind_19 : decode cX5_mind 19 = .ok (.ifCond .ne 5, 3) := by decide +kernel
theorem dX5_mind_22 : decode cX5_mind 22 = .ok (.iconst (-1), 1) := by decide +kernel
theorem dX5_mind_23 : decode cX5_mind 23 = .ok (.ireturn, 1) := by decide +kernel
theorem dX5_mind_24 : decode cX5_mind 24 = .ok (.aload_n 0, 1) := by decide +kernel
theorem dX5_mind_25 : decode cX5_mind 25 = .ok (.getfield 10, 3) := by decide +kernel
theorem dX5_mind_28 : decode cX5_mind 28 = .ok (.getfield 114, 3) := by decide +kernel
theorem dX5_mind_31 : decode cX5_mind 31 = .ok (.iload_n 1, 1) := by decide +kernel
theorem dX5_mind_32 : decode cX5_mind 32 = .ok (.iaload, 1) := by decide +kernel
theorem dX5_mind_33 : decode cX5_mind 33 = .ok (.istore 4, 2) := by decide +kernel
theorem dX5_mind_35 : decode cX5_mind 35 = .ok (.aload_n 0, 1) := by decide +kernel
theorem dX5_mind_36 : decode cX5_mind 36 = .ok (.getfield 10, 3) := by decide +kernel
theorem dX5_mind_39 : decode cX5_mind 39 = .ok (.getfield 114, 3) := by decide +kernel
theorem dX5_mind_42 : decode cX5_mind 42 = .ok (.iload_n 1, 1) := by decide +kernel
theorem dX5_mind_43 : decode cX5_mind 43 = .ok (.iload_n 2, 1) := by decide +kernel
theorem dX5_mind_44 : decode cX5_mind 44 = .ok (.iastore, 1) := by decide +kernel
theorem dX5_mind_45 : decode cX5_mind 45 = .ok (.aload_n 0, 1) := by decide +kernel
theorem dX5_mind_46 : decode cX5_mind 46 = .ok (.getfield 10, 3) := by decide +kernel
theorem dX5_mind_49 : decode cX5_mind 49 = .ok (.getfield 117, 3) := by decide +kernel
theorem dX5_mind_52 : decode cX5_mind 52 = .ok (.iload_n 1, 1) := by decide +kernel
theorem dX5_mind_53 : decode cX5_mind 53 = .ok (.iload_n 3, 1) := by decide +kernel
theorem dX5_mind_54 : decode cX5_mind 54 = .ok (.iastore, 1) := by decide +kernel
theorem dX5_mind_55 : decode cX5_mind 55 = .ok (.iload 4, 2) := by decide +kernel
theorem dX5_mind_57 : decode cX5_mind 57 = .ok (.ireturn, 1) := by decide +kernel
set_option maxRecDepth 20000 in
theorem ggX5_move_X5_isMark : GoodIn wsX5_move wsX5_isMark := goodIn_r _ [7, 1, 8, 9, 10, 6, 11, 15, 16, 17, 18, 19, 20, 21, 22, 23, 24, 25, 26, 27, 28, 29, 30, 31, 32, 33, 34, 35] (by decide +kernel) (by decide +kernel)
set_option maxRecDepth 20000 in
theorem gX5_move_X5_isMark : GoodIn wsX5_move (wsV RX5 111 RX5 yX5_isMark wsX5_isMark) := goodIn_app (goodIn_of _ (by decide +kernel)) ggX5_move_X5_isMark
set_option maxRecDepth 20000 in
theorem ggX5_move_X5_isOne : GoodIn wsX5_move wsX5_isOne := goodIn_r _ [14, 9, 10, 6, 11] (by decide +kernel) (by decide +kernel)
set_option maxRecDepth 20000 in
theorem gX5_move_X5_isOne : GoodIn wsX5_move (va_wsS RX5 105 yX5_isOne wsX5_isOne) := goodIn_app (goodIn_of _ (by decide +kernel)) ggX5_move_X5_isOne
theorem dX5_move_0 : decode cX5_move 0 = .ok (.aload_n 0, 1) := by decide +kernel
theorem dX5_move_1 : decode cX5_move 1 = .ok (.iload_n 1, 1) := by decide +kernel
theorem dX5_move_2 : decode cX5_move 2 = .ok (.invokevirtual 111, 3) := by decide +kernel
theorem dX5_move_5 : decode cX5_move 5 = .ok (.ifCond .eq 10, 3) := by decide +kernel
theorem dX5_move_8 : decode cX5_move 8 = .ok (.iload_n 2, 1) := by decide +kernel
theorem dX5_move_9 : decode cX5_move 9 = .ok (.invokestatic 105, 3) := by decide +kernel
theorem dX5_move_12 : decode cX5_move 12 = .ok (.ifCond .ne 5, 3) := by decide +kernel
theorem dX5_move_15 : decode cX5_move 15 = .ok (.iconst (-1), 1) := by decide +kernel
theorem dX5_move_16 : decode cX5_move 16 = .ok (.ireturn, 1) := by decide +kernel
theorem dX5_move_17 : decode cX5_move 17 = .ok (.aload_n 0, 1) := by decide +kernel
theorem dX5_move_18 : decode cX5_move 18 = .ok (.getfield 10, 3) := by decide +kernel
theorem dX5_move_21 : decode cX5_move 21 = .ok (.getfield 120, 3) := by decide +kernel
theorem dX5_move_24 : decode cX5_move 24 = .ok (.iload_n 1, 1) := by decide +kernel
theorem dX5_move_25 : decode cX5_move 25 = .ok (.iaload, 1) := by decide +kernel
theorem dX5_move_26 : decode cX5_move 26 = .ok (.istore_n 3, 1) := by decide +kernel
theorem dX5_move_27 : decode cX5_move 27 = .ok (.aload_n 0, 1) := by decide +kernel
theorem dX5_move_28 : decode cX5_move 28 = .ok (.getfield 10, 3) := by decide +kernel
theorem dX5_move_31 : decode cX5_move 31 = .ok (.getfield 120, 3) := by decide +kernel
theorem dX5_move_34 : decode cX5_move 34 = .ok (.iload_n 1, 1) := by decide +kernel
theorem dX5_move_35 : decode cX5_move 35 = .ok (.iload_n 2, 1) := by decide +kernel
theorem dX5_move_36 : decode cX5_move 36 = .ok (.iastore, 1) := by decide +kernel
theorem dX5_move_37 : decode cX5_move 37 = .ok (.iload_n 3, 1) := by decide +kernel
theorem dX5_move_38 : decode cX5_move 38 = .ok (.ireturn, 1) := by decide +kernel
set_option maxRecDepth 20000 in
theorem ggX5_touch_X5_isRest : GoodIn wsX5_touch wsX5_isRest := goodIn_r _ [5, 6, 7, 4, 8] (by decide +kernel) (by decide +kernel)
set_option maxRecDepth 20000 in
theorem gX5_touch_X5_isRest : GoodIn wsX5_touch (va_wsS RX5 130 yX5_isRest wsX5_isRest) := goodIn_app (goodIn_of _ (by decide +kernel)) ggX5_touch_X5_isRest
set_option maxRecDepth 20000 in
theorem ggX5_touch_X5_isOne : GoodIn wsX5_touch wsX5_isOne := goodIn_r _ [11, 6, 7, 4, 8] (by decide +kernel) (by decide +kernel)
set_option maxRecDepth 20000 in
theorem gX5_touch_X5_isOne : GoodIn wsX5_touch (va_wsS RX5 105 yX5_isOne wsX5_isOne) := goodIn_app (goodIn_of _ (by decide +kernel)) ggX5_touch_X5_isOne
set_option maxRecDepth 20000 in
theorem ggX5_touch_X1_join : GoodIn wsX5_touch wsX1_join := goodIn_r _ [16, 17, 18, 30, 31, 32, 33, 34, 35, 36, 37, 38, 39] (by decide +kernel) (by decide +kernel)
set_option maxRecDepth 20000 in
theorem gX5_touch_X1_join : GoodIn wsX5_touch (wsV RX5 133 RX1 yX1_join wsX1_join) := goodIn_app (goodIn_of _ (by decide +kernel)) ggX5_touch_X1_join
theorem dX5_touch_0 : decode cX5_touch 0 = .ok (.iload_n 1, 1) := by decide +kernel
theorem dX5_touch_1 : decode cX5_touch 1 = .ok (.invokestatic 130, 3) := by decide +kernel
theorem dX5_touch_4 : decode cX5_touch 4 = .ok (.ifCond .eq 22, 3) := by decide +kernel
theorem dX5_touch_7 : decode cX5_touch 7 = .ok (.iload_n 2, 1) := by decide +kernel
theorem dX5_touch_8 : decode cX5_touch 8 = .ok (.invokestatic 105, 3) := by decide +kernel
theorem dX5_touch_11 : decode cX5_touch 11 = .ok (.ifCond .eq 15, 3) := by decide +kernel
theorem dX5_touch_14 : decode cX5_touch 14 = .ok (.iload_n 3, 1) := by decide +kernel
theorem dX5_touch_15 : decode cX5_touch 15 = .ok (.invokestatic 105, 3) := by decide +kernel
theorem dX5_touch_18 : decode cX5_touch 18 = .ok (.ifCond .eq 8, 3) := by decide +kernel
theorem dX5_touch_21 : decode cX5_touch 21 = .ok (.iload_n 2, 1) := by decide +kernel
theorem dX5_touch_22 : decode cX5_touch 22 = .ok (.iload_n 3, 1) := by decide +kernel
theorem dX5_touch_23 : decode cX5_touch 23 = .ok (.if_icmp .ne 5, 3) := by decide +kernel
theorem dX5_touch_26 : decode cX5_touch 26 = .ok (.iconst (-1), 1) := by decide +kernel
theorem dX5_touch_27 : decode cX5_touch 27 = .ok (.ireturn, 1) := by decide +kernel
theorem dX5_touch_28 : decode cX5_touch 28 = .ok (.aload_n 0, 1) := by decide +kernel
theorem dX5_touch_29 : decode cX5_touch 29 = .ok (.getfield 10, 3) := by decide +kernel
theorem dX5_touch_32 : decode cX5_touch 32 = .ok (.iload_n 1, 1) := by decide +kernel
theorem dX5_touch_33 : decode cX5_touch 33 = .ok (.iload_n 2, 1) := by decide +kernel
theorem dX5_touch_34 : decode cX5_touch 34 = .ok (.iload_n 3, 1) := by decide +kernel
theorem dX5_touch_35 : decode cX5_touch 35 = .ok (.invokevirtual 133, 3) := by decide +kernel
theorem dX5_touch_38 : decode cX5_touch 38 = .ok (.iconst 1, 1) := by decide +kernel
theorem dX5_touch_39 : decode cX5_touch 39 = .ok (.ireturn, 1) := by decide +kernel
set_option maxRecDepth 20000 in
theorem ggX5_part_X5_isRest : GoodIn wsX5_part wsX5_isRest := goodIn_r _ [6, 7, 8, 5, 9] (by decide +kernel) (by decide +kernel)
set_option maxRecDepth 20000 in
theorem gX5_part_X5_isRest : GoodIn wsX5_part (va_wsS RX5 130 yX5_isRest wsX5_isRest) := goodIn_app (goodIn_of _ (by decide +kernel)) ggX5_part_X5_isRest
set_option maxRecDepth 20000 in
theorem ggX5_part_X1_join : GoodIn wsX5_part wsX1_join := goodIn_r _ [14, 15, 16, 28, 29, 30, 31, 32, 33, 34, 35, 36, 37] (by decide +kernel) (by decide +kernel)
set_option maxRecDepth 20000 in
theorem gX5_part_X1_join : GoodIn wsX5_part (wsV RX5 133 RX1 yX1_join wsX1_join) := goodIn_app (goodIn_of _ (by decide +kernel)) ggX5_part_X1_join
theorem dX5_part_0 : decode cX5_part 0 = .ok (.iload_n 1, 1) := by decide +kernel
theorem dX5_part_1 : decode cX5_part 1 = .ok (.invokestatic 130, 3) := by decide +kernel
theorem dX5_part_4 : decode cX5_part 4 = .ok (.ifCond .ne 5, 3) := by decide +kernel
theorem dX5_part_7 : decode cX5_part 7 = .ok (.iconst (-1), 1) := by decide +kernel
theorem dX5_part_8 : decode cX5_part 8 = .ok (.ireturn, 1) := by decide +kernel
theorem dX5_part_9 : decode cX5_part 9 = .ok (.aload_n 0, 1) := by decide +kernel
theorem dX5_part_10 : decode cX5_part 10 = .ok (.getfield 10, 3) := by decide +kernel
theorem dX5_part_13 : decode cX5_part 13 = .ok (.getfield 137, 3) := by decide +kernel
theorem dX5_part_16 : decode cX5_part 16 = .ok (.iload_n 1, 1) := by decide +kernel
theorem dX5_part_17 : decode cX5_part 17 = .ok (.iaload, 1) := by decide +kernel
theorem dX5_part_18 : decode cX5_part 18 = .ok (.iconst (-1), 1) := by decide +kernel
theorem dX5_part_19 : decode cX5_part 19 = .ok (.if_icmp .eq 7, 3) := by decide +kernel
theorem dX5_part_22 : decode cX5_part 22 = .ok (.iconst 1, 1) := by decide +kernel
theorem dX5_part_23 : decode cX5_part 23 = .ok (.goto 4, 3) := by decide +kernel
theorem dX5_part_26 : decode cX5_part 26 = .ok (.iconst 0, 1) := by decide +kernel
theorem dX5_part_27 : decode cX5_part 27 = .ok (.istore_n 2, 1) := by decide +kernel
theorem dX5_part_28 : decode cX5_part 28 = .ok (.aload_n 0, 1) := by decide +kernel
theorem dX5_part_29 : decode cX5_part 29 = .ok (.getfield 10, 3) := by decide +kernel
theorem dX5_part_32 : decode cX5_part 32 = .ok (.iload_n 1, 1) := by decide +kernel
theorem dX5_part_33 : decode cX5_part 33 = .ok (.iconst (-1), 1) := by decide +kernel
theorem dX5_part_34 : decode cX5_part 34 = .ok (.iconst (-1), 1) := by decide +kernel
theorem dX5_part_35 : decode cX5_part 35 = .ok (.invokevirtual 133, 3) := by decide +kernel
theorem dX5_part_38 : decode cX5_part 38 = .ok (.iload_n 2, 1) := by decide +kernel
theorem dX5_part_39 : decode cX5_part 39 = .ok (.ifCond .eq 7, 3) := by decide +kernel
theorem dX5_part_42 : decode cX5_part 42 = .ok (.iconst 1, 1) := by decide +kernel
theorem dX5_part_43 : decode cX5_part 43 = .ok (.goto 4, 3) := by decide +kernel
theorem dX5_part_46 : decode cX5_part 46 = .ok (.iconst 0, 1) := by decide +kernel
theorem dX5_part_47 : decode cX5_part 47 = .ok (.ireturn, 1) := by decide +kernel
set_option maxRecDepth 20000 in
theorem ggX5_touchOf_X5_isRest : GoodIn wsX5_touchOf wsX5_isRest := goodIn_r _ [7, 8, 9, 6, 10] (by decide +kernel) (by decide +kernel)
set_option maxRecDepth 20000 in
theorem gX5_touchOf_X5_isRest : GoodIn wsX5_touchOf (va_wsS RX5 130 yX5_isRest wsX5_isRest) := goodIn_app (goodIn_of _ (by decide +kernel)) ggX5_touchOf_X5_isRest
set_option maxRecDepth 20000 in
theorem ggX5_touchOf_X5_within : GoodIn wsX5_touchOf wsX5_within := goodIn_r _ [10] (by decide +kernel) (by decide +kernel)
set_option maxRecDepth 20000 in
theorem gX5_touchOf_X5_within : GoodIn wsX5_touchOf (va_wsS RX5 57 yX5_within wsX5_within) := goodIn_app (goodIn_of _ (by decide +kernel)) ggX5_touchOf_X5_within
theorem dX5_touchOf_0 : decode cX5_touchOf 0 = .ok (.iload_n 1, 1) := by decide +kernel
theorem dX5_touchOf_1 : decode cX5_touchOf 1 = .ok (.invokestatic 130, 3) := by decide +kernel
theorem dX5_touchOf_4 : decode cX5_touchOf 4 = .ok (.ifCond .eq 12, 3) := by decide +kernel
theorem dX5_touchOf_7 : decode cX5_touchOf 7 = .ok (.iload_n 2, 1) := by decide +kernel
theorem dX5_touchOf_8 : decode cX5_touchOf 8 = .ok (.iconst 0, 1) := by decide +kernel
theorem dX5_touchOf_9 : decode cX5_touchOf 9 = .ok (.iconst 1, 1) := by decide +kernel
theorem dX5_touchOf_10 : decode cX5_touchOf 10 = .ok (.invokestatic 57, 3) := by decide +kernel
theorem dX5_touchOf_13 : decode cX5_touchOf 13 = .ok (.ifCond .ne 5, 3) := by decide +kernel
theorem dX5_touchOf_16 : decode cX5_touchOf 16 = .ok (.iconst (-1), 1) := by decide +kernel
theorem dX5_touchOf_17 : decode cX5_touchOf 17 = .ok (.ireturn, 1) := by decide +kernel
theorem dX5_touchOf_18 : decode cX5_touchOf 18 = .ok (.aload_n 0, 1) := by decide +kernel
theorem dX5_touchOf_19 : decode cX5_touchOf 19 = .ok (.getfield 10, 3) := by decide +kernel
theorem dX5_touchOf_22 : decode cX5_touchOf 22 = .ok (.getfield 137, 3) := by decide +kernel
theorem dX5_touchOf_25 : decode cX5_touchOf 25 = .ok (.iload_n 1, 1) := by decide +kernel
theorem dX5_touchOf_26 : decode cX5_touchOf 26 = .ok (.iaload, 1) := by decide +kernel
theorem dX5_touchOf_27 : decode cX5_touchOf 27 = .ok (.iconst (-1), 1) := by decide +kernel
theorem dX5_touchOf_28 : decode cX5_touchOf 28 = .ok (.if_icmp .ne 6, 3) := by decide +kernel
theorem dX5_touchOf_31 : decode cX5_touchOf 31 = .ok (.bipush (-3), 2) := by decide +kernel
theorem dX5_touchOf_33 : decode cX5_touchOf 33 = .ok (.ireturn, 1) := by decide +kernel
theorem dX5_touchOf_34 : decode cX5_touchOf 34 = .ok (.iload_n 2, 1) := by decide +kernel
theorem dX5_touchOf_35 : decode cX5_touchOf 35 = .ok (.ifCond .ne 15, 3) := by decide +kernel
theorem dX5_touchOf_38 : decode cX5_touchOf 38 = .ok (.aload_n 0, 1) := by decide +kernel
theorem dX5_touchOf_39 : decode cX5_touchOf 39 = .ok (.getfield 10, 3) := by decide +kernel
theorem dX5_touchOf_42 : decode cX5_touchOf 42 = .ok (.getfield 137, 3) := by decide +kernel
theorem dX5_touchOf_45 : decode cX5_touchOf 45 = .ok (.iload_n 1, 1) := by decide +kernel
theorem dX5_touchOf_46 : decode cX5_touchOf 46 = .ok (.iaload, 1) := by decide +kernel
theorem dX5_touchOf_47 : decode cX5_touchOf 47 = .ok (.goto 12, 3) := by decide +kernel
theorem dX5_touchOf_50 : decode cX5_touchOf 50 = .ok (.aload_n 0, 1) := by decide +kernel
theorem dX5_touchOf_51 : decode cX5_touchOf 51 = .ok (.getfield 10, 3) := by decide +kernel
theorem dX5_touchOf_54 : decode cX5_touchOf 54 = .ok (.getfield 140, 3) := by decide +kernel
theorem dX5_touchOf_57 : decode cX5_touchOf 57 = .ok (.iload_n 1, 1) := by decide +kernel
theorem dX5_touchOf_58 : decode cX5_touchOf 58 = .ok (.iaload, 1) := by decide +kernel
theorem dX5_touchOf_59 : decode cX5_touchOf 59 = .ok (.ireturn, 1) := by decide +kernel
set_option maxRecDepth 20000 in
theorem ggX5_who_X5_isOne : GoodIn wsX5_who wsX5_isOne := goodIn_r _ [5, 6, 7, 4, 8] (by decide +kernel) (by decide +kernel)
set_option maxRecDepth 20000 in
theorem gX5_who_X5_isOne : GoodIn wsX5_who (va_wsS RX5 105 yX5_isOne wsX5_isOne) := goodIn_app (goodIn_of _ (by decide +kernel)) ggX5_who_X5_isOne
set_option maxRecDepth 20000 in
theorem ggX5_who_X5_within : GoodIn wsX5_who wsX5_within := goodIn_r _ [8] (by decide +kernel) (by decide +kernel)
set_option maxRecDepth 20000 in
theorem gX5_who_X5_within : GoodIn wsX5_who (va_wsS RX5 57 yX5_within wsX5_within) := goodIn_app (goodIn_of _ (by decide +kernel)) ggX5_who_X5_within
set_option maxRecDepth 20000 in
theorem ggX5_who_X1_marksOn : GoodIn wsX5_who wsX1_marksOn := goodIn_r _ [13, 14, 15, 35, 36, 37, 38, 39, 40, 41, 42, 43, 44] (by decide +kernel) (by decide +kernel)
set_option maxRecDepth 20000 in
theorem gX5_who_X1_marksOn : GoodIn wsX5_who (wsV RX5 143 RX1 yX1_marksOn wsX1_marksOn) := goodIn_app (goodIn_of _ (by decide +kernel)) ggX5_who_X1_marksOn
set_option maxRecDepth 20000 in
theorem ggX5_who_X1_circle : GoodIn wsX5_who wsX1_circle := goodIn_r _ [19, 20, 21, 22, 4, 23, 35, 36, 37, 38, 39, 40, 41, 42, 43, 44] (by decide +kernel) (by decide +kernel)
set_option maxRecDepth 20000 in
theorem gX5_who_X1_circle : GoodIn wsX5_who (wsV RX5 146 RX1 yX1_circle wsX1_circle) := goodIn_app (goodIn_of _ (by decide +kernel)) ggX5_who_X1_circle
theorem dX5_who_0 : decode cX5_who 0 = .ok (.iload_n 1, 1) := by decide +kernel
theorem dX5_who_1 : decode cX5_who 1 = .ok (.invokestatic 105, 3) := by decide +kernel
theorem dX5_who_4 : decode cX5_who 4 = .ok (.ifCond .eq 12, 3) := by decide +kernel
theorem dX5_who_7 : decode cX5_who 7 = .ok (.iload_n 2, 1) := by decide +kernel
theorem dX5_who_8 : decode cX5_who 8 = .ok (.iconst 0, 1) := by decide +kernel
theorem dX5_who_9 : decode cX5_who 9 = .ok (.iconst 1, 1) := by decide +kernel
theorem dX5_who_10 : decode cX5_who 10 = .ok (.invokestatic 57, 3) := by decide +kernel
theorem dX5_who_13 : decode cX5_who 13 = .ok (.ifCond .ne 5, 3) := by decide +kernel
theorem dX5_who_16 : decode cX5_who 16 = .ok (.iconst (-1), 1) := by decide +kernel
theorem dX5_who_17 : decode cX5_who 17 = .ok (.ireturn, 1) := by decide +kernel
theorem dX5_who_18 : decode cX5_who 18 = .ok (.iload_n 2, 1) := by decide +kernel
theorem dX5_who_19 : decode cX5_who 19 = .ok (.ifCond .ne 14, 3) := by decide +kernel
theorem dX5_who_22 : decode cX5_who 22 = .ok (.aload_n 0, 1) := by decide +kernel
theorem dX5_who_23 : decode cX5_who 23 = .ok (.getfield 10, 3) := by decide +kernel
theorem dX5_who_26 : decode cX5_who 26 = .ok (.iload_n 1, 1) := by decide +kernel
theorem dX5_who_27 : decode cX5_who 27 = .ok (.invokevirtual 143, 3) := by decide +kernel
theorem dX5_who_30 : decode cX5_who 30 = .ok (.goto 11, 3) := by decide +kernel
theorem dX5_who_33 : decode cX5_who 33 = .ok (.aload_n 0, 1) := by decide +kernel
theorem dX5_who_34 : decode cX5_who 34 = .ok (.getfield 10, 3) := by decide +kernel
theorem dX5_who_37 : decode cX5_who 37 = .ok (.iload_n 1, 1) := by decide +kernel
theorem dX5_who_38 : decode cX5_who 38 = .ok (.invokevirtual 146, 3) := by decide +kernel
theorem dX5_who_41 : decode cX5_who 41 = .ok (.ireturn, 1) := by decide +kernel
set_option maxRecDepth 20000 in
theorem ggX5_hours_X5_within : GoodIn wsX5_hours wsX5_within := goodIn_r _ [5] (by decide +kernel) (by decide +kernel)
set_option maxRecDepth 20000 in
theorem gX5_hours_X5_within : GoodIn wsX5_hours (va_wsS RX5 57 yX5_within wsX5_within) := goodIn_app (goodIn_of _ (by decide +kernel)) ggX5_hours_X5_within
set_option maxRecDepth 20000 in
theorem ggX5_hours_X1_passHour : GoodIn wsX5_hours wsX1_passHour := goodIn_r _ [10, 11, 12, 13, 14, 15, 16, 17, 9, 18, 19, 20, 21, 22, 23, 24, 25, 26, 27, 28, 29, 30, 31, 32, 33, 34, 35, 36, 37, 38, 39, 40, 41, 42, 43, 44, 45, 46, 47, 48, 4, 49, 50, 51, 52, 53, 54, 55, 56, 57, 58, 59, 60, 61, 62, 85, 86, 87, 88, 89, 90, 91, 92, 93, 94] (by decide +kernel) (by decide +kernel)
set_option maxRecDepth 20000 in
theorem gX5_hours_X1_passHour : GoodIn wsX5_hours (wsV RX5 149 RX1 yX1_passHour wsX1_passHour) := goodIn_app (goodIn_of _ (by decide +kernel)) ggX5_hours_X1_passHour
set_option maxRecDepth 20000 in
theorem ggX5_hours_X1_marked : GoodIn wsX5_hours wsX1_marked := goodIn_r _ [66, 27, 28, 85, 86, 87, 88, 89, 90, 91, 92, 93, 94] (by decide +kernel) (by decide +kernel)
set_option maxRecDepth 20000 in
theorem gX5_hours_X1_marked : GoodIn wsX5_hours (wsV RX5 152 RX1 yX1_marked wsX1_marked) := goodIn_app (goodIn_of _ (by decide +kernel)) ggX5_hours_X1_marked
set_option maxRecDepth 20000 in
theorem ggX5_hours_J6_bitCount_0f7a4 : GoodIn wsX5_hours wsJ6_bitCount_0f7a4 := goodIn_r _ [70, 71, 72, 73] (by decide +kernel) (by decide +kernel)
set_option maxRecDepth 20000 in
theorem gX5_hours_J6_bitCount_0f7a4 : GoodIn wsX5_hours (va_wsS RX5 156 yJ6_bitCount_0f7a4 wsJ6_bitCount_0f7a4) := goodIn_app (goodIn_of _ (by decide +kernel)) ggX5_hours_J6_bitCount_0f7a4
theorem dX5_hours_0 : decode cX5_hours 0 = .ok (.iload_n 1, 1) := by decide +kernel
theorem dX5_hours_1 : decode cX5_hours 1 = .ok (.iconst 1, 1) := by decide +kernel
theorem dX5_hours_2 : decode cX5_hours 2 = .ok (.bipush 60, 2) := by decide +kernel
theorem dX5_hours_4 : decode cX5_hours 4 = .ok (.invokestatic 57, 3) := by decide +kernel
theorem dX5_hours_7 : decode cX5_hours 7 = .ok (.ifCond .ne 5, 3) := by decide +kernel
theorem dX5_hours_10 : decode cX5_hours 10 = .ok (.iconst (-1), 1) := by decide +kernel
theorem dX5_hours_11 : decode cX5_hours 11 = .ok (.ireturn, 1) := by decide +kernel
theorem dX5_hours_12 : decode cX5_hours 12 = .ok (.iconst 0, 1) := by decide +kernel
theorem dX5_hours_13 : decode cX5_hours 13 = .ok (.istore_n 2, 1) := by decide +kernel
theorem dX5_hours_14 : decode cX5_hours 14 = .ok (.iload_n 2, 1) := by decide +kernel
theorem dX5_hours_15 : decode cX5_hours 15 = .ok (.iload_n 1, 1) := by decide +kernel
theorem dX5_hours_16 : decode cX5_hours 16 = .ok (.if_icmp .ge 16, 3) := by decide +kernel
theorem dX5_hours_19 : decode cX5_hours 19 = .ok (.aload_n 0, 1) := by decide +kernel
theorem dX5_hours_20 : decode cX5_hours 20 = .ok (.getfield 10, 3) := by decide +kernel
theorem dX5_hours_23 : decode cX5_hours 23 = .ok (.invokevirtual 149, 3) := by decide +kernel
theorem dX5_hours_26 : decode cX5_hours 26 = .ok (.iinc 2 1, 3) := by decide +kernel
theorem dX5_hours_29 : decode cX5_hours 29 = .ok (.goto (-15), 3) := by decide +kernel
theorem dX5_hours_32 : decode cX5_hours 32 = .ok (.aload_n 0, 1) := by decide +kernel
theorem dX5_hours_33 : decode cX5_hours 33 = .ok (.getfield 10, 3) := by decide +kernel
theorem dX5_hours_36 : decode cX5_hours 36 = .ok (.invokevirtual 152, 3) := by decide +kernel
theorem dX5_hours_39 : decode cX5_hours 39 = .ok (.invokestatic 156, 3) := by decide +kernel
theorem dX5_hours_42 : decode cX5_hours 42 = .ok (.ireturn, 1) := by decide +kernel
theorem dX5_seed_0 : decode cX5_seed 0 = .ok (.aload_n 0, 1) := by decide +kernel
theorem dX5_seed_1 : decode cX5_seed 1 = .ok (.getfield 10, 3) := by decide +kernel
theorem dX5_seed_4 : decode cX5_seed 4 = .ok (.getfield 68, 3) := by decide +kernel
theorem dX5_seed_7 : decode cX5_seed 7 = .ok (.istore_n 2, 1) := by decide +kernel
theorem dX5_seed_8 : decode cX5_seed 8 = .ok (.aload_n 0, 1) := by decide +kernel
theorem dX5_seed_9 : decode cX5_seed 9 = .ok (.getfield 10, 3) := by decide +kernel
theorem dX5_seed_12 : decode cX5_seed 12 = .ok (.iload_n 1, 1) := by decide +kernel
theorem dX5_seed_13 : decode cX5_seed 13 = .ok (.putfield 68, 3) := by decide +kernel
theorem dX5_seed_16 : decode cX5_seed 16 = .ok (.iload_n 2, 1) := by decide +kernel
theorem dX5_seed_17 : decode cX5_seed 17 = .ok (.ireturn, 1) := by decide +kernel
set_option maxRecDepth 20000 in
theorem ggX5_hour_X1_passHourByDraws : GoodIn wsX5_hour wsX1_passHourByDraws := goodIn_r _ [6, 7, 8, 9, 10, 5, 11, 12, 13, 14, 15, 16, 17, 18, 19, 20, 21, 22, 23, 24, 25, 26, 27, 28, 29, 30, 31, 32, 33, 34, 35, 36, 37, 38, 39, 40, 41, 42, 43, 44, 45, 46, 47, 48, 49, 50, 51, 52, 53, 54, 55, 56, 57, 58, 59, 60, 61, 62, 63, 64, 65, 66, 67, 68, 69, 92, 93, 94, 95, 96, 97, 98, 99, 100, 101] (by decide +kernel) (by decide +kernel)
set_option maxRecDepth 20000 in
theorem gX5_hour_X1_passHourByDraws : GoodIn wsX5_hour (wsV RX5 161 RX1 yX1_passHourByDraws wsX1_passHourByDraws) := goodIn_app (goodIn_of _ (by decide +kernel)) ggX5_hour_X1_passHourByDraws
set_option maxRecDepth 20000 in
theorem ggX5_hour_X1_marked : GoodIn wsX5_hour wsX1_marked := goodIn_r _ [73, 19, 20, 92, 93, 94, 95, 96, 97, 98, 99, 100, 101] (by decide +kernel) (by decide +kernel)
set_option maxRecDepth 20000 in
theorem gX5_hour_X1_marked : GoodIn wsX5_hour (wsV RX5 152 RX1 yX1_marked wsX1_marked) := goodIn_app (goodIn_of _ (by decide +kernel)) ggX5_hour_X1_marked
set_option maxRecDepth 20000 in
theorem ggX5_hour_J6_bitCount_0f7a4 : GoodIn wsX5_hour wsJ6_bitCount_0f7a4 := goodIn_r _ [77, 78, 79, 80] (by decide +kernel) (by decide +kernel)
set_option maxRecDepth 20000 in
theorem gX5_hour_J6_bitCount_0f7a4 : GoodIn wsX5_hour (va_wsS RX5 156 yJ6_bitCount_0f7a4 wsJ6_bitCount_0f7a4) := goodIn_app (goodIn_of _ (by decide +kernel)) ggX5_hour_J6_bitCount_0f7a4
theorem dX5_hour_0 : decode cX5_hour 0 = .ok (.aload_n 0, 1) := by decide +kernel
theorem dX5_hour_1 : decode cX5_hour 1 = .ok (.getfield 10, 3) := by decide +kernel
theorem dX5_hour_4 : decode cX5_hour 4 = .ok (.invokevirtual 161, 3) := by decide +kernel
theorem dX5_hour_7 : decode cX5_hour 7 = .ok (.aload_n 0, 1) := by decide +kernel
theorem dX5_hour_8 : decode cX5_hour 8 = .ok (.getfield 10, 3) := by decide +kernel
theorem dX5_hour_11 : decode cX5_hour 11 = .ok (.invokevirtual 152, 3) := by decide +kernel
theorem dX5_hour_14 : decode cX5_hour 14 = .ok (.invokestatic 156, 3) := by decide +kernel
theorem dX5_hour_17 : decode cX5_hour 17 = .ok (.ireturn, 1) := by decide +kernel
set_option maxRecDepth 20000 in
theorem ggX5_stir_X5_within : GoodIn wsX5_stir wsX5_within := goodIn_r _ [8] (by decide +kernel) (by decide +kernel)
set_option maxRecDepth 20000 in
theorem gX5_stir_X5_within : GoodIn wsX5_stir (va_wsS RX5 57 yX5_within wsX5_within) := goodIn_app (goodIn_of _ (by decide +kernel)) ggX5_stir_X5_within
set_option maxRecDepth 20000 in
theorem ggX5_stir_X1_become : GoodIn wsX5_stir wsX1_become := goodIn_r _ [13, 14, 15, 16, 17, 18, 19, 20, 21, 22, 23, 24, 25, 26, 100, 101, 102, 103, 104, 105, 106, 107, 108, 109] (by decide +kernel) (by decide +kernel)
set_option maxRecDepth 20000 in
theorem gX5_stir_X1_become : GoodIn wsX5_stir (wsV RX5 79 RX1 yX1_become wsX1_become) := goodIn_app (goodIn_of _ (by decide +kernel)) ggX5_stir_X1_become
set_option maxRecDepth 20000 in
theorem ggX5_stir_X1_passHour : GoodIn wsX5_stir wsX1_passHour := goodIn_r _ [30, 31, 22, 23, 25, 32, 33, 34, 12, 35, 36, 37, 38, 39, 40, 41, 42, 43, 24, 21, 20, 44, 45, 46, 47, 48, 49, 50, 51, 19, 14, 52, 53, 54, 55, 56, 57, 58, 59, 60, 7, 61, 62, 63, 64, 65, 66, 67, 68, 69, 70, 71, 72, 73, 74, 100, 101, 102, 103, 104, 105, 106, 107, 108, 109] (by decide +kernel) (by decide +kernel)
set_option maxRecDepth 20000 in
theorem gX5_stir_X1_passHour : GoodIn wsX5_stir (wsV RX5 149 RX1 yX1_passHour wsX1_passHour) := goodIn_app (goodIn_of _ (by decide +kernel)) ggX5_stir_X1_passHour
set_option maxRecDepth 20000 in
theorem ggX5_stir_X1_passHourByDraws : GoodIn wsX5_stir wsX1_passHourByDraws := goodIn_r _ [78, 14, 79, 80, 81, 12, 82, 26, 83, 40, 41, 42, 43, 31, 24, 21, 20, 44, 45, 46, 47, 48, 49, 50, 51, 19, 25, 52, 53, 54, 55, 56, 57, 58, 59, 60, 7, 61, 62, 63, 64, 65, 66, 67, 68, 69, 70, 71, 72, 73, 74, 84, 28, 29, 30, 22, 23, 32, 33, 34, 35, 36, 37, 38, 39, 100, 101, 102, 103, 104, 105, 106, 107, 108, 109] (by decide +kernel) (by decide +kernel)
set_option maxRecDepth 20000 in
theorem gX5_stir_X1_passHourByDraws : GoodIn wsX5_stir (wsV RX5 161 RX1 yX1_passHourByDraws wsX1_passHourByDraws) := goodIn_app (goodIn_of _ (by decide +kernel)) ggX5_stir_X1_passHourByDraws
set_option maxRecDepth 20000 in
theorem ggX5_stir_X1_liesAs : GoodIn wsX5_stir wsX1_liesAs := goodIn_r _ [88, 24, 21, 100, 101, 102, 103, 104, 105, 106, 107, 108, 109] (by decide +kernel) (by decide +kernel)
set_option maxRecDepth 20000 in
theorem gX5_stir_X1_liesAs : GoodIn wsX5_stir (wsV RX5 164 RX1 yX1_liesAs wsX1_liesAs) := goodIn_app (goodIn_of _ (by decide +kernel)) ggX5_stir_X1_liesAs
theorem dX5_stir_0 : decode cX5_stir 0 = .ok (.iload_n 1, 1) := by decide +kernel
theorem dX5_stir_1 : decode cX5_stir 1 = .ok (.iconst 1, 1) := by decide +kernel
theorem dX5_stir_2 : decode cX5_stir 2 = .ok (.bipush 30, 2) := by decide +kernel
theorem dX5_stir_4 : decode cX5_stir 4 = .ok (.invokestatic 57, 3) := by decide +kernel
theorem dX5_stir_7 : decode cX5_stir 7 = .ok (.ifCond .ne 5, 3) := by decide +kernel
theorem dX5_stir_10 : decode cX5_stir 10 = .ok (.iconst (-1), 1) := by decide +kernel
theorem dX5_stir_11 : decode cX5_stir 11 = .ok (.ireturn, 1) := by decide +kernel
theorem dX5_stir_12 : decode cX5_stir 12 = .ok (.aload_n 0, 1) := by decide +kernel
theorem dX5_stir_13 : decode cX5_stir 13 = .ok (.getfield 22, 3) := by decide +kernel
theorem dX5_stir_16 : decode cX5_stir 16 = .ok (.aload_n 0, 1) := by decide +kernel
theorem dX5_stir_17 : decode cX5_stir 17 = .ok (.getfield 10, 3) := by decide +kernel
theorem dX5_stir_20 : decode cX5_stir 20 = .ok (.invokevirtual 79, 3) := by decide +kernel
theorem dX5_stir_23 : decode cX5_stir 23 = .ok (.aload_n 0, 1) := by decide +kernel
theorem dX5_stir_24 : decode cX5_stir 24 = .ok (.getfield 22, 3) := by decide +kernel
theorem dX5_stir_27 : decode cX5_stir 27 = .ok (.invokevirtual 149, 3) := by decide +kernel
theorem dX5_stir_30 : decode cX5_stir 30 = .ok (.aload_n 0, 1) := by decide +kernel
theorem dX5_stir_31 : decode cX5_stir 31 = .ok (.getfield 10, 3) := by decide +kernel
theorem dX5_stir_34 : decode cX5_stir 34 = .ok (.getfield 68, 3) := by decide +kernel
theorem dX5_stir_37 : decode cX5_stir 37 = .ok (.istore_n 2, 1) := by decide +kernel
theorem dX5_stir_38 : decode cX5_stir 38 = .ok (.iconst 0, 1) := by decide +kernel
theorem dX5_stir_39 : decode cX5_stir 39 = .ok (.istore_n 3, 1) := by decide +kernel
theorem dX5_stir_40 : decode cX5_stir 40 = .ok (.iconst 0, 1) := by decide +kernel
theorem dX5_stir_41 : decode cX5_stir 41 = .ok (.istore 4, 2) := by decide +kernel
theorem dX5_stir_43 : decode cX5_stir 43 = .ok (.iload 4, 2) := by decide +kernel
theorem dX5_stir_45 : decode cX5_stir 45 = .ok (.iload_n 1, 1) := by decide +kernel
theorem dX5_stir_46 : decode cX5_stir 46 = .ok (.if_icmp .ge 60, 3) := by decide +kernel
theorem dX5_stir_49 : decode cX5_stir 49 = .ok (.aload_n 0, 1) := by decide +kernel
theorem dX5_stir_50 : decode cX5_stir 50 = .ok (.getfield 19, 3) := by decide +kernel
theorem dX5_stir_53 : decode cX5_stir 53 = .ok (.aload_n 0, 1) := by decide +kernel
theorem dX5_stir_54 : decode cX5_stir 54 = .ok (.getfield 10, 3) := by decide +kernel
theorem dX5_stir_57 : decode cX5_stir 57 = .ok (.invokevirtual 79, 3) := by decide +kernel
theorem dX5_stir_60 : decode cX5_stir 60 = .ok (.aload_n 0, 1) := by decide +kernel
theorem dX5_stir_61 : decode cX5_stir 61 = .ok (.getfield 19, 3) := by decide +kernel
theorem dX5_stir_64 : decode cX5_stir 64 = .ok (.iload_n 2, 1) := by decide +kernel
theorem dX5_stir_65 : decode cX5_stir 65 = .ok (.putfield 68, 3) := by decide +kernel
theorem dX5_stir_68 : decode cX5_stir 68 = .ok (.aload_n 0, 1) := by decide +kernel
theorem dX5_stir_69 : decode cX5_stir 69 = .ok (.getfield 19, 3) := by decide +kernel
theorem dX5_stir_72 : decode cX5_stir 72 = .ok (.invokevirtual 161, 3) := by decide +kernel
theorem dX5_stir_75 : decode cX5_stir 75 = .ok (.aload_n 0, 1) := by decide +kernel
theorem dX5_stir_76 : decode cX5_stir 76 = .ok (.getfield 19, 3) := by decide +kernel
theorem dX5_stir_79 : decode cX5_stir 79 = .ok (.getfield 68, 3) := by decide +kernel
theorem dX5_stir_82 : decode cX5_stir 82 = .ok (.istore_n 2, 1) := by decide +kernel
theorem dX5_stir_83 : decode cX5_stir 83 = .ok (.aload_n 0, 1) := by decide +kernel
theorem dX5_stir_84 : decode cX5_stir 84 = .ok (.getfield 19, 3) := by decide +kernel
theorem dX5_stir_87 : decode cX5_stir 87 = .ok (.aload_n 0, 1) := by decide +kernel
theorem dX5_stir_88 : decode cX5_stir 88 = .ok (.getfield 22, 3) := by decide +kernel
theorem dX5_stir_91 : decode cX5_stir 91 = .ok (.invokevirtual 164, 3) := by decide +kernel
theorem dX5_stir_94 : decode cX5_stir 94 = .ok (.ifCond .ne 6, 3) := by decide +kernel
theorem dX5_stir_97 : decode cX5_stir 97 = .ok (.iinc 3 1, 3) := by decide +kernel
theorem dX5_stir_100 : decode cX5_stir 100 = .ok (.iinc 4 1, 3) := by decide +kernel
theorem dX5_stir_103 : decode cX5_stir 103 = .ok (.goto (-60), 3) := by decide +kernel
theorem dX5_stir_106 : decode cX5_stir 106 = .ok (.iload_n 3, 1) := by decide +kernel
theorem dX5_stir_107 : decode cX5_stir 107 = .ok (.ireturn, 1) := by decide +kernel
set_option maxRecDepth 20000 in
theorem ggX5_state_X1_allInk : GoodIn wsX5_state wsX1_allInk := goodIn_r _ [7, 8, 9, 55, 56, 57, 58, 59, 60, 61, 62, 63, 64] (by decide +kernel) (by decide +kernel)
set_option maxRecDepth 20000 in
theorem gX5_state_X1_allInk : GoodIn wsX5_state (wsV RX5 171 RX1 yX1_allInk wsX1_allInk) := goodIn_app (goodIn_of _ (by decide +kernel)) ggX5_state_X1_allInk
set_option maxRecDepth 20000 in
theorem ggX5_state_X1_marked : GoodIn wsX5_state wsX1_marked := goodIn_r _ [13, 8, 14, 55, 56, 57, 58, 59, 60, 61, 62, 63, 64] (by decide +kernel) (by decide +kernel)
set_option maxRecDepth 20000 in
theorem gX5_state_X1_marked : GoodIn wsX5_state (wsV RX5 152 RX1 yX1_marked wsX1_marked) := goodIn_app (goodIn_of _ (by decide +kernel)) ggX5_state_X1_marked
set_option maxRecDepth 20000 in
theorem ggX5_state_X1_circles : GoodIn wsX5_state wsX1_circles := goodIn_r _ [18, 19, 20, 21, 6, 22, 23, 24, 25, 26, 27, 55, 56, 57, 58, 59, 60, 61, 62, 63, 64] (by decide +kernel) (by decide +kernel)
set_option maxRecDepth 20000 in
theorem gX5_state_X1_circles : GoodIn wsX5_state (wsV RX5 174 RX1 yX1_circles wsX1_circles) := goodIn_app (goodIn_of _ (by decide +kernel)) ggX5_state_X1_circles
set_option maxRecDepth 20000 in
theorem ggX5_state_X1_dried : GoodIn wsX5_state wsX1_dried := goodIn_r _ [31, 8, 9, 55, 56, 57, 58, 59, 60, 61, 62, 63, 64] (by decide +kernel) (by decide +kernel)
set_option maxRecDepth 20000 in
theorem gX5_state_X1_dried : GoodIn wsX5_state (wsV RX5 177 RX1 yX1_dried wsX1_dried) := goodIn_app (goodIn_of _ (by decide +kernel)) ggX5_state_X1_dried
set_option maxRecDepth 20000 in
theorem ggX5_state_X1_mostOnOne : GoodIn wsX5_state wsX1_mostOnOne := goodIn_r _ [35, 36, 37, 38, 39, 40, 41, 42, 6, 43, 8, 14, 55, 56, 57, 58, 59, 60, 61, 62, 63, 64] (by decide +kernel) (by decide +kernel)
set_option maxRecDepth 20000 in
theorem gX5_state_X1_mostOnOne : GoodIn wsX5_state (wsV RX5 180 RX1 yX1_mostOnOne wsX1_mostOnOne) := goodIn_app (goodIn_of _ (by decide +kernel)) ggX5_state_X1_mostOnOne
theorem dX5_state_0 : decode cX5_state 0 = .ok (.iload_n 1, 1) := by decide +kernel
theorem dX5_state_1 : decode cX5_state 1 = .ok (.tableswitch 87 0 5 #[39, 47, 55, 63, 71, 79], 39) := by decide +kernel
theorem dX5_state_40 : decode cX5_state 40 = .ok (.aload_n 0, 1) := by decide +kernel
theorem dX5_state_41 : decode cX5_state 41 = .ok (.getfield 10, 3) := by decide +kernel
theorem dX5_state_44 : decode cX5_state 44 = .ok (.getfield 168, 3) := by decide +kernel
theorem dX5_state_47 : decode cX5_state 47 = .ok (.ireturn, 1) := by decide +kernel
theorem dX5_state_48 : decode cX5_state 48 = .ok (.aload_n 0, 1) := by decide +kernel
theorem dX5_state_49 : decode cX5_state 49 = .ok (.getfield 10, 3) := by decide +kernel
theorem dX5_state_52 : decode cX5_state 52 = .ok (.invokevirtual 171, 3) := by decide +kernel
theorem dX5_state_55 : decode cX5_state 55 = .ok (.ireturn, 1) := by decide +kernel
theorem dX5_state_56 : decode cX5_state 56 = .ok (.aload_n 0, 1) := by decide +kernel
theorem dX5_state_57 : decode cX5_state 57 = .ok (.getfield 10, 3) := by decide +kernel
theorem dX5_state_60 : decode cX5_state 60 = .ok (.invokevirtual 152, 3) := by decide +kernel
theorem dX5_state_63 : decode cX5_state 63 = .ok (.ireturn, 1) := by decide +kernel
theorem dX5_state_64 : decode cX5_state 64 = .ok (.aload_n 0, 1) := by decide +kernel
theorem dX5_state_65 : decode cX5_state 65 = .ok (.getfield 10, 3) := by decide +kernel
theorem dX5_state_68 : decode cX5_state 68 = .ok (.invokevirtual 174, 3) := by decide +kernel
theorem dX5_state_71 : decode cX5_state 71 = .ok (.ireturn, 1) := by decide +kernel
theorem dX5_state_72 : decode cX5_state 72 = .ok (.aload_n 0, 1) := by decide +kernel
theorem dX5_state_73 : decode cX5_state 73 = .ok (.getfield 10, 3) := by decide +kernel
theorem dX5_state_76 : decode cX5_state 76 = .ok (.invokevirtual 177, 3) := by decide +kernel
theorem dX5_state_79 : decode cX5_state 79 = .ok (.ireturn, 1) := by decide +kernel
theorem dX5_state_80 : decode cX5_state 80 = .ok (.aload_n 0, 1) := by decide +kernel
theorem dX5_state_81 : decode cX5_state 81 = .ok (.getfield 10, 3) := by decide +kernel
theorem dX5_state_84 : decode cX5_state 84 = .ok (.invokevirtual 180, 3) := by decide +kernel
theorem dX5_state_87 : decode cX5_state 87 = .ok (.ireturn, 1) := by decide +kernel
theorem dX5_state_88 : decode cX5_state 88 = .ok (.iconst (-1), 1) := by decide +kernel
theorem dX5_state_89 : decode cX5_state 89 = .ok (.ireturn, 1) := by decide +kernel
set_option maxRecDepth 20000 in
theorem ggX5_where_X5_isMark : GoodIn wsX5_where wsX5_isMark := goodIn_r _ [8, 2, 9, 10, 11, 7, 12, 79, 80, 81, 82, 83, 84, 85, 86, 87, 88, 89, 90, 91, 92, 93, 94, 95, 96, 97, 98, 99] (by decide +kernel) (by decide +kernel)
set_option maxRecDepth 20000 in
theorem gX5_where_X5_isMark : GoodIn wsX5_where (wsV RX5 111 RX5 yX5_isMark wsX5_isMark) := goodIn_app (goodIn_of _ (by decide +kernel)) ggX5_where_X5_isMark
set_option maxRecDepth 20000 in
theorem ggX5_where_X5_within : GoodIn wsX5_where wsX5_within := goodIn_r _ [12] (by decide +kernel) (by decide +kernel)
set_option maxRecDepth 20000 in
theorem gX5_where_X5_within : GoodIn wsX5_where (va_wsS RX5 57 yX5_within wsX5_within) := goodIn_app (goodIn_of _ (by decide +kernel)) ggX5_where_X5_within
set_option maxRecDepth 20000 in
theorem ggX5_where_X1_become : GoodIn wsX5_where wsX1_become := goodIn_r _ [17, 18, 19, 20, 21, 22, 23, 24, 25, 26, 27, 28, 29, 30, 90, 91, 92, 93, 94, 95, 96, 97, 98, 99] (by decide +kernel) (by decide +kernel)
set_option maxRecDepth 20000 in
theorem gX5_where_X1_become : GoodIn wsX5_where (wsV RX5 79 RX1 yX1_become wsX1_become) := goodIn_app (goodIn_of _ (by decide +kernel)) ggX5_where_X1_become
set_option maxRecDepth 20000 in
theorem ggX5_where_X1_passHour : GoodIn wsX5_where wsX1_passHour := goodIn_r _ [34, 35, 26, 27, 29, 36, 37, 38, 16, 39, 40, 41, 42, 43, 44, 45, 46, 47, 28, 25, 24, 48, 49, 50, 51, 52, 53, 54, 55, 23, 18, 56, 57, 58, 59, 60, 61, 62, 63, 64, 7, 65, 66, 67, 68, 69, 70, 71, 72, 73, 74, 75, 76, 77, 78, 90, 91, 92, 93, 94, 95, 96, 97, 98, 99] (by decide +kernel) (by decide +kernel)
set_option maxRecDepth 20000 in
theorem gX5_where_X1_passHour : GoodIn wsX5_where (wsV RX5 149 RX1 yX1_passHour wsX1_passHour) := goodIn_app (goodIn_of _ (by decide +kernel)) ggX5_where_X1_passHour
theorem dX5_where_0 : decode cX5_where 0 = .ok (.aload_n 0, 1) := by decide +kernel
theorem dX5_where_1 : decode cX5_where 1 = .ok (.iload_n 1, 1) := by decide +kernel
theorem dX5_where_2 : decode cX5_where 2 = .ok (.invokevirtual 111, 3) := by decide +kernel
theorem dX5_where_5 : decode cX5_where 5 = .ok (.ifCond .eq 13, 3) := by decide +kernel
theorem dX5_where_8 : decode cX5_where 8 = .ok (.iload_n 2, 1) := by decide +kernel
theorem dX5_where_9 : decode cX5_where 9 = .ok (.iconst 0, 1) := by decide +kernel
theorem dX5_where_10 : decode cX5_where 10 = .ok (.bipush 60, 2) := by decide +kernel
theorem dX5_where_12 : decode cX5_where 12 = .ok (.invokestatic 57, 3) := by decide +kernel
theorem dX5_where_15 : decode cX5_where 15 = .ok (.ifCond .ne 5, 3) := by decide +kernel
theorem dX5_where_18 : decode cX5_where 18 = .ok (.iconst (-1), 1) := by decide +kernel
theorem dX5_where_19 : decode cX5_where 19 = .ok (.ireturn, 1) := by decide +kernel
theorem dX5_where_20 : decode cX5_where 20 = .ok (.aload_n 0, 1) := by decide +kernel
theorem dX5_where_21 : decode cX5_where 21 = .ok (.getfield 19, 3) := by decide +kernel
theorem dX5_where_24 : decode cX5_where 24 = .ok (.aload_n 0, 1) := by decide +kernel
theorem dX5_where_25 : decode cX5_where 25 = .ok (.getfield 10, 3) := by decide +kernel
theorem dX5_where_28 : decode cX5_where 28 = .ok (.invokevirtual 79, 3) := by decide +kernel
theorem dX5_where_31 : decode cX5_where 31 = .ok (.iconst 0, 1) := by decide +kernel
theorem dX5_where_32 : decode cX5_where 32 = .ok (.istore_n 3, 1) := by decide +kernel
theorem dX5_where_33 : decode cX5_where 33 = .ok (.iload_n 3, 1) := by decide +kernel
theorem dX5_where_34 : decode cX5_where 34 = .ok (.iload_n 2, 1) := by decide +kernel
theorem dX5_where_35 : decode cX5_where 35 = .ok (.if_icmp .ge 16, 3) := by decide +kernel
theorem dX5_where_38 : decode cX5_where 38 = .ok (.aload_n 0, 1) := by decide +kernel
theorem dX5_where_39 : decode cX5_where 39 = .ok (.getfield 19, 3) := by decide +kernel
theorem dX5_where_42 : decode cX5_where 42 = .ok (.invokevirtual 149, 3) := by decide +kernel
theorem dX5_where_45 : decode cX5_where 45 = .ok (.iinc 3 1, 3) := by decide +kernel
theorem dX5_where_48 : decode cX5_where 48 = .ok (.goto (-15), 3) := by decide +kernel
theorem dX5_where_51 : decode cX5_where 51 = .ok (.aload_n 0, 1) := by decide +kernel
theorem dX5_where_52 : decode cX5_where 52 = .ok (.getfield 19, 3) := by decide +kernel
theorem dX5_where_55 : decode cX5_where 55 = .ok (.getfield 120, 3) := by decide +kernel
theorem dX5_where_58 : decode cX5_where 58 = .ok (.iload_n 1, 1) := by decide +kernel
theorem dX5_where_59 : decode cX5_where 59 = .ok (.iaload, 1) := by decide +kernel
theorem dX5_where_60 : decode cX5_where 60 = .ok (.ireturn, 1) := by decide +kernel
set_option maxRecDepth 20000 in
theorem ggX5_comes_X5_isMark : GoodIn wsX5_comes wsX5_isMark := goodIn_r _ [7, 2, 8, 9, 10, 6, 11, 85, 86, 87, 88, 89, 90, 91, 92, 93, 94, 95, 96, 97, 98, 99, 100, 101, 102, 103, 104, 105] (by decide +kernel) (by decide +kernel)
set_option maxRecDepth 20000 in
theorem gX5_comes_X5_isMark : GoodIn wsX5_comes (wsV RX5 111 RX5 yX5_isMark wsX5_isMark) := goodIn_app (goodIn_of _ (by decide +kernel)) ggX5_comes_X5_isMark
set_option maxRecDepth 20000 in
theorem ggX5_comes_X5_isOne : GoodIn wsX5_comes wsX5_isOne := goodIn_r _ [14, 9, 10, 6, 11] (by decide +kernel) (by decide +kernel)
set_option maxRecDepth 20000 in
theorem gX5_comes_X5_isOne : GoodIn wsX5_comes (va_wsS RX5 105 yX5_isOne wsX5_isOne) := goodIn_app (goodIn_of _ (by decide +kernel)) ggX5_comes_X5_isOne
set_option maxRecDepth 20000 in
theorem ggX5_comes_X1_become : GoodIn wsX5_comes wsX1_become := goodIn_r _ [19, 20, 21, 22, 23, 24, 25, 26, 27, 28, 29, 30, 31, 32, 96, 97, 98, 99, 100, 101, 102, 103, 104, 105] (by decide +kernel) (by decide +kernel)
set_option maxRecDepth 20000 in
theorem gX5_comes_X1_become : GoodIn wsX5_comes (wsV RX5 79 RX1 yX1_become wsX1_become) := goodIn_app (goodIn_of _ (by decide +kernel)) ggX5_comes_X1_become
set_option maxRecDepth 20000 in
theorem ggX5_comes_X1_hoursUntilOn : GoodIn wsX5_comes wsX1_hoursUntilOn := goodIn_r _ [36, 27, 37, 38, 39, 18, 40, 41, 28, 29, 31, 42, 43, 44, 45, 46, 47, 48, 49, 50, 51, 52, 53, 30, 26, 54, 55, 56, 57, 58, 59, 60, 61, 25, 20, 62, 63, 64, 65, 66, 67, 68, 69, 70, 6, 71, 72, 73, 74, 75, 76, 77, 78, 79, 80, 81, 82, 83, 84, 96, 97, 98, 99, 100, 101, 102, 103, 104, 105] (by decide +kernel) (by decide +kernel)
set_option maxRecDepth 20000 in
theorem gX5_comes_X1_hoursUntilOn : GoodIn wsX5_comes (wsV RX5 183 RX1 yX1_hoursUntilOn wsX1_hoursUntilOn) := goodIn_app (goodIn_of _ (by decide +kernel)) ggX5_comes_X1_hoursUntilOn
theorem dX5_comes_0 : decode cX5_comes 0 = .ok (.aload_n 0, 1) := by decide +kernel
theorem dX5_comes_1 : decode cX5_comes 1 = .ok (.iload_n 1, 1) := by decide +kernel
theorem dX5_comes_2 : decode cX5_comes 2 = .ok (.invokevirtual 111, 3) := by decide +kernel
theorem dX5_comes_5 : decode cX5_comes 5 = .ok (.ifCond .eq 10, 3) := by decide +kernel
theorem dX5_comes_8 : decode cX5_comes 8 = .ok (.iload_n 2, 1) := by decide +kernel
theorem dX5_comes_9 : decode cX5_comes 9 = .ok (.invokestatic 105, 3) := by decide +kernel
theorem dX5_comes_12 : decode cX5_comes 12 = .ok (.ifCond .ne 5, 3) := by decide +kernel
theorem dX5_comes_15 : decode cX5_comes 15 = .ok (.iconst (-1), 1) := by decide +kernel
theorem dX5_comes_16 : decode cX5_comes 16 = .ok (.ireturn, 1) := by decide +kernel
theorem dX5_comes_17 : decode cX5_comes 17 = .ok (.aload_n 0, 1) := by decide +kernel
theorem dX5_comes_18 : decode cX5_comes 18 = .ok (.getfield 19, 3) := by decide +kernel
theorem dX5_comes_21 : decode cX5_comes 21 = .ok (.aload_n 0, 1) := by decide +kernel
theorem dX5_comes_22 : decode cX5_comes 22 = .ok (.getfield 10, 3) := by decide +kernel
theorem dX5_comes_25 : decode cX5_comes 25 = .ok (.invokevirtual 79, 3) := by decide +kernel
theorem dX5_comes_28 : decode cX5_comes 28 = .ok (.aload_n 0, 1) := by decide +kernel
theorem dX5_comes_29 : decode cX5_comes 29 = .ok (.getfield 19, 3) := by decide +kernel
theorem dX5_comes_32 : decode cX5_comes 32 = .ok (.iload_n 1, 1) := by decide +kernel
theorem dX5_comes_33 : decode cX5_comes 33 = .ok (.iload_n 2, 1) := by decide +kernel
theorem dX5_comes_34 : decode cX5_comes 34 = .ok (.bipush 60, 2) := by decide +kernel
theorem dX5_comes_36 : decode cX5_comes 36 = .ok (.invokevirtual 183, 3) := by decide +kernel
theorem dX5_comes_39 : decode cX5_comes 39 = .ok (.ireturn, 1) := by decide +kernel
set_option maxRecDepth 20000 in
theorem ggX5_bare_X5_isOne : GoodIn wsX5_bare wsX5_isOne := goodIn_r _ [6, 7, 8, 5, 9] (by decide +kernel) (by decide +kernel)
set_option maxRecDepth 20000 in
theorem gX5_bare_X5_isOne : GoodIn wsX5_bare (va_wsS RX5 105 yX5_isOne wsX5_isOne) := goodIn_app (goodIn_of _ (by decide +kernel)) ggX5_bare_X5_isOne
set_option maxRecDepth 20000 in
theorem ggX5_bare_X1_become : GoodIn wsX5_bare wsX1_become := goodIn_r _ [14, 15, 16, 17, 18, 19, 20, 21, 22, 23, 24, 25, 26, 27, 95, 96, 97, 98, 99, 100, 101, 102, 103, 104] (by decide +kernel) (by decide +kernel)
set_option maxRecDepth 20000 in
theorem gX5_bare_X1_become : GoodIn wsX5_bare (wsV RX5 79 RX1 yX1_become wsX1_become) := goodIn_app (goodIn_of _ (by decide +kernel)) ggX5_bare_X1_become
set_option maxRecDepth 20000 in
theorem ggX5_bare_X1_hoursUntilBare : GoodIn wsX5_bare wsX1_hoursUntilBare := goodIn_r _ [31, 32, 33, 34, 13, 35, 25, 22, 36, 37, 38, 39, 40, 23, 24, 26, 41, 42, 43, 44, 45, 46, 47, 48, 49, 50, 51, 52, 21, 53, 54, 55, 56, 57, 58, 59, 60, 20, 15, 61, 62, 63, 64, 65, 66, 67, 68, 69, 5, 70, 71, 72, 73, 74, 75, 76, 77, 78, 79, 80, 81, 82, 83, 95, 96, 97, 98, 99, 100, 101, 102, 103, 104] (by decide +kernel) (by decide +kernel)
set_option maxRecDepth 20000 in
theorem gX5_bare_X1_hoursUntilBare : GoodIn wsX5_bare (wsV RX5 187 RX1 yX1_hoursUntilBare wsX1_hoursUntilBare) := goodIn_app (goodIn_of _ (by decide +kernel)) ggX5_bare_X1_hoursUntilBare
theorem dX5_bare_0 : decode cX5_bare 0 = .ok (.iload_n 1, 1) := by decide +kernel
theorem dX5_bare_1 : decode cX5_bare 1 = .ok (.invokestatic 105, 3) := by decide +kernel
theorem dX5_bare_4 : decode cX5_bare 4 = .ok (.ifCond .ne 5, 3) := by decide +kernel
theorem dX5_bare_7 : decode cX5_bare 7 = .ok (.iconst (-1), 1) := by decide +kernel
theorem dX5_bare_8 : decode cX5_bare 8 = .ok (.ireturn, 1) := by decide +kernel
theorem dX5_bare_9 : decode cX5_bare 9 = .ok (.aload_n 0, 1) := by decide +kernel
theorem dX5_bare_10 : decode cX5_bare 10 = .ok (.getfield 19, 3) := by decide +kernel
theorem dX5_bare_13 : decode cX5_bare 13 = .ok (.aload_n 0, 1) := by decide +kernel
theorem dX5_bare_14 : decode cX5_bare 14 = .ok (.getfield 10, 3) := by decide +kernel
theorem dX5_bare_17 : decode cX5_bare 17 = .ok (.invokevirtual 79, 3) := by decide +kernel
theorem dX5_bare_20 : decode cX5_bare 20 = .ok (.aload_n 0, 1) := by decide +kernel
theorem dX5_bare_21 : decode cX5_bare 21 = .ok (.getfield 19, 3) := by decide +kernel
theorem dX5_bare_24 : decode cX5_bare 24 = .ok (.iload_n 1, 1) := by decide +kernel
theorem dX5_bare_25 : decode cX5_bare 25 = .ok (.bipush 60, 2) := by decide +kernel
theorem dX5_bare_27 : decode cX5_bare 27 = .ok (.invokevirtual 187, 3) := by decide +kernel
theorem dX5_bare_30 : decode cX5_bare 30 = .ok (.ireturn, 1) := by decide +kernel
set_option maxRecDepth 20000 in
theorem ggX5_dry_X1_become : GoodIn wsX5_dry wsX1_become := goodIn_r _ [7, 8, 9, 10, 11, 12, 13, 14, 15, 16, 17, 18, 19, 20, 89, 90, 91, 92, 93, 94, 95, 96, 97, 98] (by decide +kernel) (by decide +kernel)
set_option maxRecDepth 20000 in
theorem gX5_dry_X1_become : GoodIn wsX5_dry (wsV RX5 79 RX1 yX1_become wsX1_become) := goodIn_app (goodIn_of _ (by decide +kernel)) ggX5_dry_X1_become
set_option maxRecDepth 20000 in
theorem ggX5_dry_X1_hoursUntilDry : GoodIn wsX5_dry wsX1_hoursUntilDry := goodIn_r _ [24, 25, 26, 27, 6, 28, 18, 14, 29, 30, 31, 32, 33, 16, 17, 19, 34, 35, 36, 37, 38, 39, 40, 41, 42, 43, 44, 45, 15, 46, 47, 48, 49, 50, 51, 52, 53, 13, 8, 54, 55, 56, 57, 58, 59, 60, 61, 62, 63, 64, 65, 66, 67, 68, 69, 70, 71, 72, 73, 74, 75, 76, 77, 89, 90, 91, 92, 93, 94, 95, 96, 97, 98] (by decide +kernel) (by decide +kernel)
set_option maxRecDepth 20000 in
theorem gX5_dry_X1_hoursUntilDry : GoodIn wsX5_dry (wsV RX5 191 RX1 yX1_hoursUntilDry wsX1_hoursUntilDry) := goodIn_app (goodIn_of _ (by decide +kernel)) ggX5_dry_X1_hoursUntilDry
theorem dX5_dry_0 : decode cX5_dry 0 = .ok (.aload_n 0, 1) := by decide +kernel
theorem dX5_dry_1 : decode cX5_dry 1 = .ok (.getfield 19, 3) := by decide +kernel
theorem dX5_dry_4 : decode cX5_dry 4 = .ok (.aload_n 0, 1) := by decide +kernel
theorem dX5_dry_5 : decode cX5_dry 5 = .ok (.getfield 10, 3) := by decide +kernel
theorem dX5_dry_8 : decode cX5_dry 8 = .ok (.invokevirtual 79, 3) := by decide +kernel
theorem dX5_dry_11 : decode cX5_dry 11 = .ok (.aload_n 0, 1) := by decide +kernel
theorem dX5_dry_12 : decode cX5_dry 12 = .ok (.getfield 19, 3) := by decide +kernel
theorem dX5_dry_15 : decode cX5_dry 15 = .ok (.bipush 60, 2) := by decide +kernel
theorem dX5_dry_17 : decode cX5_dry 17 = .ok (.invokevirtual 191, 3) := by decide +kernel
theorem dX5_dry_20 : decode cX5_dry 20 = .ok (.ireturn, 1) := by decide +kernel
set_option maxRecDepth 20000 in
theorem ggX5_kindFor_X5_isWish : GoodIn wsX5_kindFor wsX5_isWish := goodIn_r _ [8, 9, 10, 11, 7, 12, 2, 13, 14, 15, 16, 17, 18, 19, 90, 91, 92, 93, 94, 95, 96, 97, 98, 99, 100, 101, 102, 103, 104, 105, 106, 107, 108, 109, 110] (by decide +kernel) (by decide +kernel)
set_option maxRecDepth 20000 in
theorem gX5_kindFor_X5_isWish : GoodIn wsX5_kindFor (wsV RX5 194 RX5 yX5_isWish wsX5_isWish) := goodIn_app (goodIn_of _ (by decide +kernel)) ggX5_kindFor_X5_isWish
set_option maxRecDepth 20000 in
theorem ggX5_kindFor_X1_become : GoodIn wsX5_kindFor wsX1_become := goodIn_r _ [24, 25, 26, 27, 28, 29, 30, 31, 32, 33, 34, 35, 36, 37, 101, 102, 103, 104, 105, 106, 107, 108, 109, 110] (by decide +kernel) (by decide +kernel)
set_option maxRecDepth 20000 in
theorem gX5_kindFor_X1_become : GoodIn wsX5_kindFor (wsV RX5 79 RX1 yX1_become wsX1_become) := goodIn_app (goodIn_of _ (by decide +kernel)) ggX5_kindFor_X1_become
set_option maxRecDepth 20000 in
theorem ggX5_kindFor_X1_hoursUntilOn : GoodIn wsX5_kindFor wsX1_hoursUntilOn := goodIn_r _ [41, 32, 42, 43, 44, 23, 45, 46, 33, 34, 36, 47, 48, 49, 50, 51, 52, 53, 54, 55, 56, 57, 58, 35, 31, 59, 60, 61, 62, 63, 64, 65, 66, 30, 25, 67, 68, 69, 70, 71, 72, 73, 74, 75, 7, 76, 77, 78, 79, 80, 81, 82, 83, 84, 85, 86, 87, 88, 89, 101, 102, 103, 104, 105, 106, 107, 108, 109, 110] (by decide +kernel) (by decide +kernel)
set_option maxRecDepth 20000 in
theorem gX5_kindFor_X1_hoursUntilOn : GoodIn wsX5_kindFor (wsV RX5 183 RX1 yX1_hoursUntilOn wsX1_hoursUntilOn) := goodIn_app (goodIn_of _ (by decide +kernel)) ggX5_kindFor_X1_hoursUntilOn
theorem dX5_kindFor_0 : decode cX5_kindFor 0 = .ok (.aload_n 0, 1) := by decide +kernel
theorem dX5_kindFor_1 : decode cX5_kindFor 1 = .ok (.iload_n 1, 1) := by decide +kernel
theorem dX5_kindFor_2 : decode cX5_kindFor 2 = .ok (.iload_n 2, 1) := by decide +kernel
theorem dX5_kindFor_3 : decode cX5_kindFor 3 = .ok (.iload_n 3, 1) := by decide +kernel
theorem dX5_kindFor_4 : decode cX5_kindFor 4 = .ok (.invokevirtual 194, 3) := by decide +kernel
theorem dX5_kindFor_7 : decode cX5_kindFor 7 = .ok (.ifCond .ne 5, 3) := by decide +kernel
theorem dX5_kindFor_10 : decode cX5_kindFor 10 = .ok (.iconst (-1), 1) := by decide +kernel
theorem dX5_kindFor_11 : decode cX5_kindFor 11 = .ok (.ireturn, 1) := by decide +kernel
theorem dX5_kindFor_12 : decode cX5_kindFor 12 = .ok (.iconst 0, 1) := by decide +kernel
theorem dX5_kindFor_13 : decode cX5_kindFor 13 = .ok (.istore 4, 2) := by decide +kernel
theorem dX5_kindFor_15 : decode cX5_kindFor 15 = .ok (.iload_n 3, 1) := by decide +kernel
theorem dX5_kindFor_16 : decode cX5_kindFor 16 = .ok (.iconst 1, 1) := by decide +kernel
theorem dX5_kindFor_17 : decode cX5_kindFor 17 = .ok (.iadd, 1) := by decide +kernel
theorem dX5_kindFor_18 : decode cX5_kindFor 18 = .ok (.istore 5, 2) := by decide +kernel
theorem dX5_kindFor_20 : decode cX5_kindFor 20 = .ok (.iconst 0, 1) := by decide +kernel
theorem dX5_kindFor_21 : decode cX5_kindFor 21 = .ok (.istore 6, 2) := by decide +kernel
theorem dX5_kindFor_23 : decode cX5_kindFor 23 = .ok (.iload 6, 2) := by decide +kernel
theorem dX5_kindFor_25 : decode cX5_kindFor 25 = .ok (.bipush 6, 2) := by decide +kernel
theorem dX5_kindFor_27 : decode cX5_kindFor 27 = .ok (.if_icmp .ge 59, 3) := by decide +kernel
theorem dX5_kindFor_30 : decode cX5_kindFor 30 = .ok (.aload_n 0, 1) := by decide +kernel
theorem dX5_kindFor_31 : decode cX5_kindFor 31 = .ok (.getfield 19, 3) := by decide +kernel
theorem dX5_kindFor_34 : decode cX5_kindFor 34 = .ok (.aload_n 0, 1) := by decide +kernel
theorem dX5_kindFor_35 : decode cX5_kindFor 35 = .ok (.getfield 10, 3) := by decide +kernel
theorem dX5_kindFor_38 : decode cX5_kindFor 38 = .ok (.invokevirtual 79, 3) := by decide +kernel
theorem dX5_kindFor_41 : decode cX5_kindFor 41 = .ok (.aload_n 0, 1) := by decide +kernel
theorem dX5_kindFor_42 : decode cX5_kindFor 42 = .ok (.getfield 19, 3) := by decide +kernel
theorem dX5_kindFor_45 : decode cX5_kindFor 45 = .ok (.getfield 114, 3) := by decide +kernel
theorem dX5_kindFor_48 : decode cX5_kindFor 48 = .ok (.iload_n 1, 1) := by decide +kernel
theorem dX5_kindFor_49 : decode cX5_kindFor 49 = .ok (.iload 6, 2) := by decide +kernel
theorem dX5_kindFor_51 : decode cX5_kindFor 51 = .ok (.iastore, 1) := by decide +kernel
theorem dX5_kindFor_52 : decode cX5_kindFor 52 = .ok (.aload_n 0, 1) := by decide +kernel
theorem dX5_kindFor_53 : decode cX5_kindFor 53 = .ok (.getfield 19, 3) := by decide +kernel
theorem dX5_kindFor_56 : decode cX5_kindFor 56 = .ok (.iload_n 1, 1) := by decide +kernel
theorem dX5_kindFor_57 : decode cX5_kindFor 57 = .ok (.iload_n 2, 1) := by decide +kernel
theorem dX5_kindFor_58 : decode cX5_kindFor 58 = .ok (.iload 5, 2) := by decide +kernel
theorem dX5_kindFor_60 : decode cX5_kindFor 60 = .ok (.iconst 1, 1) := by decide +kernel
theorem dX5_kindFor_61 : decode cX5_kindFor 61 = .ok (.isub, 1) := by decide +kernel
theorem dX5_kindFor_62 : decode cX5_kindFor 62 = .ok (.invokevirtual 183, 3) := by decide +kernel
theorem dX5_kindFor_65 : decode cX5_kindFor 65 = .ok (.istore 7, 2) := by decide +kernel
theorem dX5_kindFor_67 : decode cX5_kindFor 67 = .ok (.iload 7, 2) := by decide +kernel
theorem dX5_kindFor_69 : decode cX5_kindFor 69 = .ok (.ifCond .lt 11, 3) := by decide +kernel
theorem dX5_kindFor_72 : decode cX5_kindFor 72 = .ok (.iload 6, 2) := by decide +kernel
theorem dX5_kindFor_74 : decode cX5_kindFor 74 = .ok (.istore 4, 2) := by decide +kernel
theorem dX5_kindFor_76 : decode cX5_kindFor 76 = .ok (.iload 7, 2) := by decide +kernel
theorem dX5_kindFor_78 : decode cX5_kindFor 78 = .ok (.istore 5, 2) := by decide +kernel
theorem dX5_kindFor_80 : decode cX5_kindFor 80 = .ok (.iinc 6 1, 3) := by decide +kernel
theorem dX5_kindFor_83 : decode cX5_kindFor 83 = .ok (.goto (-60), 3) := by decide +kernel
theorem dX5_kindFor_86 : decode cX5_kindFor 86 = .ok (.iload 4, 2) := by decide +kernel
theorem dX5_kindFor_88 : decode cX5_kindFor 88 = .ok (.ireturn, 1) := by decide +kernel
set_option maxRecDepth 20000 in
theorem ggX5_inkFor_X5_isWish : GoodIn wsX5_inkFor wsX5_isWish := goodIn_r _ [8, 9, 10, 11, 7, 12, 2, 13, 14, 15, 16, 17, 18, 19, 90, 91, 92, 93, 94, 95, 96, 97, 98, 99, 100, 101, 102, 103, 104, 105, 106, 107, 108, 109, 110] (by decide +kernel) (by decide +kernel)
set_option maxRecDepth 20000 in
theorem gX5_inkFor_X5_isWish : GoodIn wsX5_inkFor (wsV RX5 194 RX5 yX5_isWish wsX5_isWish) := goodIn_app (goodIn_of _ (by decide +kernel)) ggX5_inkFor_X5_isWish
set_option maxRecDepth 20000 in
theorem ggX5_inkFor_X1_become : GoodIn wsX5_inkFor wsX1_become := goodIn_r _ [24, 25, 26, 27, 28, 29, 30, 31, 32, 33, 34, 35, 36, 37, 101, 102, 103, 104, 105, 106, 107, 108, 109, 110] (by decide +kernel) (by decide +kernel)
set_option maxRecDepth 20000 in
theorem gX5_inkFor_X1_become : GoodIn wsX5_inkFor (wsV RX5 79 RX1 yX1_become wsX1_become) := goodIn_app (goodIn_of _ (by decide +kernel)) ggX5_inkFor_X1_become
set_option maxRecDepth 20000 in
theorem ggX5_inkFor_X1_hoursUntilOn : GoodIn wsX5_inkFor wsX1_hoursUntilOn := goodIn_r _ [41, 32, 42, 43, 44, 23, 45, 46, 33, 34, 36, 47, 48, 49, 50, 51, 52, 53, 54, 55, 56, 57, 58, 35, 31, 59, 60, 61, 62, 63, 64, 65, 66, 30, 25, 67, 68, 69, 70, 71, 72, 73, 74, 75, 7, 76, 77, 78, 79, 80, 81, 82, 83, 84, 85, 86, 87, 88, 89, 101, 102, 103, 104, 105, 106, 107, 108, 109, 110] (by decide +kernel) (by decide +kernel)
set_option maxRecDepth 20000 in
theorem gX5_inkFor_X1_hoursUntilOn : GoodIn wsX5_inkFor (wsV RX5 183 RX1 yX1_hoursUntilOn wsX1_hoursUntilOn) := goodIn_app (goodIn_of _ (by decide +kernel)) ggX5_inkFor_X1_hoursUntilOn
theorem dX5_inkFor_0 : decode cX5_inkFor 0 = .ok (.aload_n 0, 1) := by decide +kernel
theorem dX5_inkFor_1 : decode cX5_inkFor 1 = .ok (.iload_n 1, 1) := by decide +kernel
theorem dX5_inkFor_2 : decode cX5_inkFor 2 = .ok (.iload_n 2, 1) := by decide +kernel
theorem dX5_inkFor_3 : decode cX5_inkFor 3 = .ok (.iload_n 3, 1) := by decide +kernel
theorem dX5_inkFor_4 : decode cX5_inkFor 4 = .ok (.invokevirtual 194, 3) := by decide +kernel
theorem dX5_inkFor_7 : decode cX5_inkFor 7 = .ok (.ifCond .ne 5, 3) := by decide +kernel
theorem dX5_inkFor_10 : decode cX5_inkFor 10 = .ok (.iconst (-1), 1) := by decide +kernel
theorem dX5_inkFor_11 : decode cX5_inkFor 11 = .ok (.ireturn, 1) := by decide +kernel
theorem dX5_inkFor_12 : decode cX5_inkFor 12 = .ok (.iconst 0, 1) := by decide +kernel
theorem dX5_inkFor_13 : decode cX5_inkFor 13 = .ok (.istore 4, 2) := by decide +kernel
theorem dX5_inkFor_15 : decode cX5_inkFor 15 = .ok (.iload 4, 2) := by decide +kernel
theorem dX5_inkFor_17 : decode cX5_inkFor 17 = .ok (.bipush 99, 2) := by decide +kernel
theorem dX5_inkFor_19 : decode cX5_inkFor 19 = .ok (.if_icmp .gt 47, 3) := by decide +kernel
theorem dX5_inkFor_22 : decode cX5_inkFor 22 = .ok (.aload_n 0, 1) := by decide +kernel
theorem dX5_inkFor_23 : decode cX5_inkFor 23 = .ok (.getfield 19, 3) := by decide +kernel
theorem dX5_inkFor_26 : decode cX5_inkFor 26 = .ok (.aload_n 0, 1) := by decide +kernel
theorem dX5_inkFor_27 : decode cX5_inkFor 27 = .ok (.getfield 10, 3) := by decide +kernel
theorem dX5_inkFor_30 : decode cX5_inkFor 30 = .ok (.invokevirtual 79, 3) := by decide +kernel
theorem dX5_inkFor_33 : decode cX5_inkFor 33 = .ok (.aload_n 0, 1) := by decide +kernel
theorem dX5_inkFor_34 : decode cX5_inkFor 34 = .ok (.getfield 19, 3) := by decide +kernel
theorem dX5_inkFor_37 : decode cX5_inkFor 37 = .ok (.getfield 117, 3) := by decide +kernel
theorem dX5_inkFor_40 : decode cX5_inkFor 40 = .ok (.iload_n 1, 1) := by decide +kernel
theorem dX5_inkFor_41 : decode cX5_inkFor 41 = .ok (.iload 4, 2) := by decide +kernel
theorem dX5_inkFor_43 : decode cX5_inkFor 43 = .ok (.iastore, 1) := by decide +kernel
theorem dX5_inkFor_44 : decode cX5_inkFor 44 = .ok (.aload_n 0, 1) := by decide +kernel
theorem dX5_inkFor_45 : decode cX5_inkFor 45 = .ok (.getfield 19, 3) := by decide +kernel
theorem dX5_inkFor_48 : decode cX5_inkFor 48 = .ok (.iload_n 1, 1) := by decide +kernel
theorem dX5_inkFor_49 : decode cX5_inkFor 49 = .ok (.iload_n 2, 1) := by decide +kernel
theorem dX5_inkFor_50 : decode cX5_inkFor 50 = .ok (.iload_n 3, 1) := by decide +kernel
theorem dX5_inkFor_51 : decode cX5_inkFor 51 = .ok (.invokevirtual 183, 3) := by decide +kernel
theorem dX5_inkFor_54 : decode cX5_inkFor 54 = .ok (.ifCond .lt 6, 3) := by decide +kernel
theorem dX5_inkFor_57 : decode cX5_inkFor 57 = .ok (.iload 4, 2) := by decide +kernel
theorem dX5_inkFor_59 : decode cX5_inkFor 59 = .ok (.ireturn, 1) := by decide +kernel
theorem dX5_inkFor_60 : decode cX5_inkFor 60 = .ok (.iinc 4 1, 3) := by decide +kernel
theorem dX5_inkFor_63 : decode cX5_inkFor 63 = .ok (.goto (-48), 3) := by decide +kernel
theorem dX5_inkFor_66 : decode cX5_inkFor 66 = .ok (.bipush (-3), 2) := by decide +kernel
theorem dX5_inkFor_68 : decode cX5_inkFor 68 = .ok (.ireturn, 1) := by decide +kernel
set_option maxRecDepth 20000 in
theorem ggX5_touchFor_X5_isWish : GoodIn wsX5_touchFor wsX5_isWish := goodIn_r _ [7, 8, 9, 10, 6, 11, 2, 12, 13, 14, 15, 16, 17, 18, 97, 98, 99, 100, 101, 102, 103, 104, 105, 106, 107, 108, 109, 110, 111, 112, 113, 114, 115, 116, 117] (by decide +kernel) (by decide +kernel)
set_option maxRecDepth 20000 in
theorem gX5_touchFor_X5_isWish : GoodIn wsX5_touchFor (wsV RX5 194 RX5 yX5_isWish wsX5_isWish) := goodIn_app (goodIn_of _ (by decide +kernel)) ggX5_touchFor_X5_isWish
set_option maxRecDepth 20000 in
theorem ggX5_touchFor_X1_become : GoodIn wsX5_touchFor wsX1_become := goodIn_r _ [23, 24, 25, 26, 27, 28, 29, 30, 31, 32, 33, 34, 35, 36, 108, 109, 110, 111, 112, 113, 114, 115, 116, 117] (by decide +kernel) (by decide +kernel)
set_option maxRecDepth 20000 in
theorem gX5_touchFor_X1_become : GoodIn wsX5_touchFor (wsV RX5 79 RX1 yX1_become wsX1_become) := goodIn_app (goodIn_of _ (by decide +kernel)) ggX5_touchFor_X1_become
set_option maxRecDepth 20000 in
theorem ggX5_touchFor_X1_hoursUntilOn : GoodIn wsX5_touchFor wsX1_hoursUntilOn := goodIn_r _ [40, 31, 41, 42, 43, 22, 44, 45, 32, 33, 35, 46, 47, 48, 49, 50, 51, 52, 53, 54, 55, 56, 57, 34, 30, 58, 59, 60, 61, 62, 63, 64, 65, 29, 24, 66, 67, 68, 69, 70, 71, 72, 73, 74, 6, 75, 76, 77, 78, 79, 80, 81, 82, 83, 84, 85, 86, 87, 88, 108, 109, 110, 111, 112, 113, 114, 115, 116, 117] (by decide +kernel) (by decide +kernel)
set_option maxRecDepth 20000 in
theorem gX5_touchFor_X1_hoursUntilOn : GoodIn wsX5_touchFor (wsV RX5 183 RX1 yX1_hoursUntilOn wsX1_hoursUntilOn) := goodIn_app (goodIn_of _ (by decide +kernel)) ggX5_touchFor_X1_hoursUntilOn
set_option maxRecDepth 20000 in
theorem ggX5_touchFor_X5_hoursByTouch : GoodIn wsX5_touchFor wsX5_hoursByTouch := goodIn_r _ [92, 1, 2, 19, 20, 21, 22, 23, 24, 25, 26, 27, 28, 29, 30, 31, 32, 33, 34, 35, 36, 93, 94, 95, 96, 37, 38, 39, 40, 41, 42, 43, 44, 45, 46, 47, 48, 49, 50, 51, 52, 53, 54, 55, 56, 57, 58, 59, 60, 61, 62, 63, 64, 65, 66, 67, 68, 69, 70, 71, 72, 73, 74, 6, 75, 76, 77, 78, 79, 80, 81, 82, 83, 84, 85, 86, 87, 88, 97, 98, 99, 100, 101, 102, 103, 104, 105, 106, 107, 108, 109, 110, 111, 112, 113, 114, 115, 116, 117] (by decide +kernel) (by decide +kernel)
set_option maxRecDepth 20000 in
theorem gX5_touchFor_X5_hoursByTouch : GoodIn wsX5_touchFor (wsV RX5 197 RX5 yX5_hoursByTouch wsX5_hoursByTouch) := goodIn_app (goodIn_of _ (by decide +kernel)) ggX5_touchFor_X5_hoursByTouch
theorem dX5_touchFor_0 : decode cX5_touchFor 0 = .ok (.aload_n 0, 1) := by decide +kernel
theorem dX5_touchFor_1 : decode cX5_touchFor 1 = .ok (.iload_n 1, 1) := by decide +kernel
theorem dX5_touchFor_2 : decode cX5_touchFor 2 = .ok (.iload_n 2, 1) := by decide +kernel
theorem dX5_touchFor_3 : decode cX5_touchFor 3 = .ok (.iload_n 3, 1) := by decide +kernel
theorem dX5_touchFor_4 : decode cX5_touchFor 4 = .ok (.invokevirtual 194, 3) := by decide +kernel
theorem dX5_touchFor_7 : decode cX5_touchFor 7 = .ok (.ifCond .ne 5, 3) := by decide +kernel
theorem dX5_touchFor_10 : decode cX5_touchFor 10 = .ok (.iconst (-1), 1) := by decide +kernel
theorem dX5_touchFor_11 : decode cX5_touchFor 11 = .ok (.ireturn, 1) := by decide +kernel
theorem dX5_touchFor_12 : decode cX5_touchFor 12 = .ok (.aload_n 0, 1) := by decide +kernel
theorem dX5_touchFor_13 : decode cX5_touchFor 13 = .ok (.getfield 19, 3) := by decide +kernel
theorem dX5_touchFor_16 : decode cX5_touchFor 16 = .ok (.aload_n 0, 1) := by decide +kernel
theorem dX5_touchFor_17 : decode cX5_touchFor 17 = .ok (.getfield 10, 3) := by decide +kernel
theorem dX5_touchFor_20 : decode cX5_touchFor 20 = .ok (.invokevirtual 79, 3) := by decide +kernel
theorem dX5_touchFor_23 : decode cX5_touchFor 23 = .ok (.aload_n 0, 1) := by decide +kernel
theorem dX5_touchFor_24 : decode cX5_touchFor 24 = .ok (.getfield 19, 3) := by decide +kernel
theorem dX5_touchFor_27 : decode cX5_touchFor 27 = .ok (.iload_n 1, 1) := by decide +kernel
theorem dX5_touchFor_28 : decode cX5_touchFor 28 = .ok (.iload_n 2, 1) := by decide +kernel
theorem dX5_touchFor_29 : decode cX5_touchFor 29 = .ok (.iload_n 3, 1) := by decide +kernel
theorem dX5_touchFor_30 : decode cX5_touchFor 30 = .ok (.invokevirtual 183, 3) := by decide +kernel
theorem dX5_touchFor_33 : decode cX5_touchFor 33 = .ok (.istore 4, 2) := by decide +kernel
theorem dX5_touchFor_35 : decode cX5_touchFor 35 = .ok (.iload 4, 2) := by decide +kernel
theorem dX5_touchFor_37 : decode cX5_touchFor 37 = .ok (.ifCond .lt 8, 3) := by decide +kernel
theorem dX5_touchFor_40 : decode cX5_touchFor 40 = .ok (.iload 4, 2) := by decide +kernel
theorem dX5_touchFor_42 : decode cX5_touchFor 42 = .ok (.goto 6, 3) := by decide +kernel
theorem dX5_touchFor_45 : decode cX5_touchFor 45 = .ok (.iload_n 3, 1) := by decide +kernel
theorem dX5_touchFor_46 : decode cX5_touchFor 46 = .ok (.iconst 1, 1) := by decide +kernel
theorem dX5_touchFor_47 : decode cX5_touchFor 47 = .ok (.iadd, 1) := by decide +kernel
theorem dX5_touchFor_48 : decode cX5_touchFor 48 = .ok (.istore 5, 2) := by decide +kernel
theorem dX5_touchFor_50 : decode cX5_touchFor 50 = .ok (.bipush (-3), 2) := by decide +kernel
theorem dX5_touchFor_52 : decode cX5_touchFor 52 = .ok (.istore 6, 2) := by decide +kernel
theorem dX5_touchFor_54 : decode cX5_touchFor 54 = .ok (.iconst 0, 1) := by decide +kernel
theorem dX5_touchFor_55 : decode cX5_touchFor 55 = .ok (.istore 7, 2) := by decide +kernel
theorem dX5_touchFor_57 : decode cX5_touchFor 57 = .ok (.iload 7, 2) := by decide +kernel
theorem dX5_touchFor_59 : decode cX5_touchFor 59 = .ok (.bipush 6, 2) := by decide +kernel
theorem dX5_touchFor_61 : decode cX5_touchFor 61 = .ok (.if_icmp .ge 94, 3) := by decide +kernel
theorem dX5_touchFor_64 : decode cX5_touchFor 64 = .ok (.iconst 0, 1) := by decide +kernel
theorem dX5_touchFor_65 : decode cX5_touchFor 65 = .ok (.istore 8, 2) := by decide +kernel
theorem dX5_touchFor_67 : decode cX5_touchFor 67 = .ok (.iload 8, 2) := by decide +kernel
theorem dX5_touchFor_69 : decode cX5_touchFor 69 = .ok (.bipush 64, 2) := by decide +kernel
theorem dX5_touchFor_71 : decode cX5_touchFor 71 = .ok (.if_icmp .ge 78, 3) := by decide +kernel
theorem dX5_touchFor_74 : decode cX5_touchFor 74 = .ok (.iload 8, 2) := by decide +kernel
theorem dX5_touchFor_76 : decode cX5_touchFor 76 = .ok (.bipush 8, 2) := by decide +kernel
theorem dX5_touchFor_78 : decode cX5_touchFor 78 = .ok (.idiv, 1) := by decide +kernel
theorem dX5_touchFor_79 : decode cX5_touchFor 79 = .ok (.istore 9, 2) := by decide +kernel
theorem dX5_touchFor_81 : decode cX5_touchFor 81 = .ok (.iload 8, 2) := by decide +kernel
theorem dX5_touchFor_83 : decode cX5_touchFor 83 = .ok (.bipush 8, 2) := by decide +kernel
theorem dX5_touchFor_85 : decode cX5_touchFor 85 = .ok (.irem, 1) := by decide +kernel
theorem dX5_touchFor_86 : decode cX5_touchFor 86 = .ok (.istore 10, 2) := by decide +kernel
theorem dX5_touchFor_88 : decode cX5_touchFor 88 = .ok (.iload 9, 2) := by decide +kernel
theorem dX5_touchFor_90 : decode cX5_touchFor 90 = .ok (.iload 10, 2) := by decide +kernel
theorem dX5_touchFor_92 : decode cX5_touchFor 92 = .ok (.if_icmp .ge 22, 3) := by decide +kernel
theorem dX5_touchFor_95 : decode cX5_touchFor 95 = .ok (.aload_n 0, 1) := by decide +kernel
theorem dX5_touchFor_96 : decode cX5_touchFor 96 = .ok (.iload_n 1, 1) := by decide +kernel
theorem dX5_touchFor_97 : decode cX5_touchFor 97 = .ok (.iload_n 2, 1) := by decide +kernel
theorem dX5_touchFor_98 : decode cX5_touchFor 98 = .ok (.iload 5, 2) := by decide +kernel
theorem dX5_touchFor_100 : decode cX5_touchFor 100 = .ok (.iconst 1, 1) := by decide +kernel
theorem dX5_touchFor_101 : decode cX5_touchFor 101 = .ok (.isub, 1) := by decide +kernel
theorem dX5_touchFor_102 : decode cX5_touchFor 102 = .ok (.iload 7, 2) := by decide +kernel
theorem dX5_touchFor_104 : decode cX5_touchFor 104 = .ok (.iload 9, 2) := by decide +kernel
theorem dX5_touchFor_106 : decode cX5_touchFor 106 = .ok (.iload 10, 2) := by decide +kernel
theorem dX5_touchFor_108 : decode cX5_touchFor 108 = .ok (.invokevirtual 197, 3) := by decide +kernel
theorem dX5_touchFor_111 : decode cX5_touchFor 111 = .ok (.goto 5, 3) := by decide +kernel
theorem dX5_touchFor_114 : decode cX5_touchFor 114 = .ok (.bipush (-3), 2) := by decide +kernel
theorem dX5_touchFor_116 : decode cX5_touchFor 116 = .ok (.istore 11, 2) := by decide +kernel
theorem dX5_touchFor_118 : decode cX5_touchFor 118 = .ok (.iload 11, 2) := by decide +kernel
theorem dX5_touchFor_120 : decode cX5_touchFor 120 = .ok (.ifCond .lt 23, 3) := by decide +kernel
theorem dX5_touchFor_123 : decode cX5_touchFor 123 = .ok (.iload 7, 2) := by decide +kernel
theorem dX5_touchFor_125 : decode cX5_touchFor 125 = .ok (.bipush 100, 2) := by decide +kernel
theorem dX5_touchFor_127 : decode cX5_touchFor 127 = .ok (.imul, 1) := by decide +kernel
theorem dX5_touchFor_128 : decode cX5_touchFor 128 = .ok (.iload 9, 2) := by decide +kernel
theorem dX5_touchFor_130 : decode cX5_touchFor 130 = .ok (.bipush 10, 2) := by decide +kernel
theorem dX5_touchFor_132 : decode cX5_touchFor 132 = .ok (.imul, 1) := by decide +kernel
theorem dX5_touchFor_133 : decode cX5_touchFor 133 = .ok (.iadd, 1) := by decide +kernel
theorem dX5_touchFor_134 : decode cX5_touchFor 134 = .ok (.iload 10, 2) := by decide +kernel
theorem dX5_touchFor_136 : decode cX5_touchFor 136 = .ok (.iadd, 1) := by decide +kernel
theorem dX5_touchFor_137 : decode cX5_touchFor 137 = .ok (.istore 6, 2) := by decide +kernel
theorem dX5_touchFor_139 : decode cX5_touchFor 139 = .ok (.iload 11, 2) := by decide +kernel
theorem dX5_touchFor_141 : decode cX5_touchFor 141 = .ok (.istore 5, 2) := by decide +kernel
theorem dX5_touchFor_143 : decode cX5_touchFor 143 = .ok (.iinc 8 1, 3) := by decide +kernel
theorem dX5_touchFor_146 : decode cX5_touchFor 146 = .ok (.goto (-79), 3) := by decide +kernel
theorem dX5_touchFor_149 : decode cX5_touchFor 149 = .ok (.iinc 7 1, 3) := by decide +kernel
theorem dX5_touchFor_152 : decode cX5_touchFor 152 = .ok (.goto (-95), 3) := by decide +kernel
theorem dX5_touchFor_155 : decode cX5_touchFor 155 = .ok (.iload 6, 2) := by decide +kernel
theorem dX5_touchFor_157 : decode cX5_touchFor 157 = .ok (.ireturn, 1) := by decide +kernel
set_option maxRecDepth 20000 in
theorem ggX5_hoursByTouch_X1_become : GoodIn wsX5_hoursByTouch wsX1_become := goodIn_r _ [7, 8, 9, 10, 11, 12, 13, 14, 15, 16, 17, 18, 19, 20, 89, 90, 91, 92, 93, 94, 95, 96, 97, 98] (by decide +kernel) (by decide +kernel)
set_option maxRecDepth 20000 in
theorem gX5_hoursByTouch_X1_become : GoodIn wsX5_hoursByTouch (wsV RX5 79 RX1 yX1_become wsX1_become) := goodIn_app (goodIn_of _ (by decide +kernel)) ggX5_hoursByTouch_X1_become
set_option maxRecDepth 20000 in
theorem ggX5_hoursByTouch_X1_join : GoodIn wsX5_hoursByTouch wsX1_join := goodIn_r _ [24, 16, 17, 89, 90, 91, 92, 93, 94, 95, 96, 97, 98] (by decide +kernel) (by decide +kernel)
set_option maxRecDepth 20000 in
theorem gX5_hoursByTouch_X1_join : GoodIn wsX5_hoursByTouch (wsV RX5 133 RX1 yX1_join wsX1_join) := goodIn_app (goodIn_of _ (by decide +kernel)) ggX5_hoursByTouch_X1_join
set_option maxRecDepth 20000 in
theorem ggX5_hoursByTouch_X1_hoursUntilOn : GoodIn wsX5_hoursByTouch wsX1_hoursUntilOn := goodIn_r _ [28, 15, 29, 30, 31, 6, 32, 33, 16, 17, 19, 34, 35, 36, 37, 38, 39, 40, 41, 42, 43, 44, 45, 18, 14, 46, 47, 48, 49, 50, 51, 52, 53, 13, 8, 54, 55, 56, 57, 58, 59, 60, 61, 62, 63, 64, 65, 66, 67, 68, 69, 70, 71, 72, 73, 74, 75, 76, 77, 89, 90, 91, 92, 93, 94, 95, 96, 97, 98] (by decide +kernel) (by decide +kernel)
set_option maxRecDepth 20000 in
theorem gX5_hoursByTouch_X1_hoursUntilOn : GoodIn wsX5_hoursByTouch (wsV RX5 183 RX1 yX1_hoursUntilOn wsX1_hoursUntilOn) := goodIn_app (goodIn_of _ (by decide +kernel)) ggX5_hoursByTouch_X1_hoursUntilOn
theorem dX5_hoursByTouch_0 : decode cX5_hoursByTouch 0 = .ok (.aload_n 0, 1) := by decide +kernel
theorem dX5_hoursByTouch_1 : decode cX5_hoursByTouch 1 = .ok (.getfield 19, 3) := by decide +kernel
theorem dX5_hoursByTouch_4 : decode cX5_hoursByTouch 4 = .ok (.aload_n 0, 1) := by decide +kernel
theorem dX5_hoursByTouch_5 : decode cX5_hoursByTouch 5 = .ok (.getfield 10, 3) := by decide +kernel
theorem dX5_hoursByTouch_8 : decode cX5_hoursByTouch 8 = .ok (.invokevirtual 79, 3) := by decide +kernel
theorem dX5_hoursByTouch_11 : decode cX5_hoursByTouch 11 = .ok (.aload_n 0, 1) := by decide +kernel
theorem dX5_hoursByTouch_12 : decode cX5_hoursByTouch 12 = .ok (.getfield 19, 3) := by decide +kernel
theorem dX5_hoursByTouch_15 : decode cX5_hoursByTouch 15 = .ok (.iload 4, 2) := by decide +kernel
theorem dX5_hoursByTouch_17 : decode cX5_hoursByTouch 17 = .ok (.iload 5, 2) := by decide +kernel
theorem dX5_hoursByTouch_19 : decode cX5_hoursByTouch 19 = .ok (.iload 6, 2) := by decide +kernel
theorem dX5_hoursByTouch_21 : decode cX5_hoursByTouch 21 = .ok (.invokevirtual 133, 3) := by decide +kernel
theorem dX5_hoursByTouch_24 : decode cX5_hoursByTouch 24 = .ok (.aload_n 0, 1) := by decide +kernel
theorem dX5_hoursByTouch_25 : decode cX5_hoursByTouch 25 = .ok (.getfield 19, 3) := by decide +kernel
theorem dX5_hoursByTouch_28 : decode cX5_hoursByTouch 28 = .ok (.iload_n 1, 1) := by decide +kernel
theorem dX5_hoursByTouch_29 : decode cX5_hoursByTouch 29 = .ok (.iload_n 2, 1) := by decide +kernel
theorem dX5_hoursByTouch_30 : decode cX5_hoursByTouch 30 = .ok (.iload_n 3, 1) := by decide +kernel
theorem dX5_hoursByTouch_31 : decode cX5_hoursByTouch 31 = .ok (.invokevirtual 183, 3) := by decide +kernel
theorem dX5_hoursByTouch_34 : decode cX5_hoursByTouch 34 = .ok (.ireturn, 1) := by decide +kernel
set_option maxRecDepth 20000 in
theorem ggX5_apartFor_X5_isWish : GoodIn wsX5_apartFor wsX5_isWish := goodIn_r _ [5, 6, 7, 8, 4, 9, 10, 11, 12, 13, 14, 15, 16, 17, 105, 106, 107, 108, 109, 110, 111, 112, 113, 114, 115, 116, 117, 118, 119, 120, 121, 122, 123, 124, 125] (by decide +kernel) (by decide +kernel)
set_option maxRecDepth 20000 in
theorem gX5_apartFor_X5_isWish : GoodIn wsX5_apartFor (wsV RX5 194 RX5 yX5_isWish wsX5_isWish) := goodIn_app (goodIn_of _ (by decide +kernel)) ggX5_apartFor_X5_isWish
set_option maxRecDepth 20000 in
theorem ggX5_apartFor_J6_bitCount_0f7a4 : GoodIn wsX5_apartFor wsJ6_bitCount_0f7a4 := goodIn_r _ [21, 22, 23, 24] (by decide +kernel) (by decide +kernel)
set_option maxRecDepth 20000 in
theorem gX5_apartFor_J6_bitCount_0f7a4 : GoodIn wsX5_apartFor (va_wsS RX5 156 yJ6_bitCount_0f7a4 wsJ6_bitCount_0f7a4) := goodIn_app (goodIn_of _ (by decide +kernel)) ggX5_apartFor_J6_bitCount_0f7a4
set_option maxRecDepth 20000 in
theorem ggX5_apartFor_X5_neverComesApart : GoodIn wsX5_apartFor wsX5_neverComesApart := goodIn_r _ [28, 29, 10, 30, 31, 32, 33, 34, 35, 36, 37, 38, 39, 40, 41, 42, 43, 44, 45, 46, 47, 48, 49, 4, 50, 51, 52, 53, 54, 55, 56, 57, 58, 59, 60, 61, 62, 63, 64, 65, 66, 67, 68, 69, 70, 71, 72, 73, 74, 75, 76, 77, 78, 79, 80, 81, 82, 83, 84, 85, 86, 87, 88, 89, 90, 91, 92, 93, 94, 95, 96, 97, 98, 99, 100, 101, 102, 103, 104, 105, 106, 107, 108, 109, 110, 111, 112, 113, 114, 115, 116, 117, 118, 119, 120, 121, 122, 123, 124, 125] (by decide +kernel) (by decide +kernel)
set_option maxRecDepth 20000 in
theorem gX5_apartFor_X5_neverComesApart : GoodIn wsX5_apartFor (wsV RX5 201 RX5 yX5_neverComesApart wsX5_neverComesApart) := goodIn_app (goodIn_of _ (by decide +kernel)) ggX5_apartFor_X5_neverComesApart
theorem dX5_apartFor_0 : decode cX5_apartFor 0 = .ok (.aload_n 0, 1) := by decide +kernel
theorem dX5_apartFor_1 : decode cX5_apartFor 1 = .ok (.iload_n 1, 1) := by decide +kernel
theorem dX5_apartFor_2 : decode cX5_apartFor 2 = .ok (.iload_n 2, 1) := by decide +kernel
theorem dX5_apartFor_3 : decode cX5_apartFor 3 = .ok (.iload_n 3, 1) := by decide +kernel
theorem dX5_apartFor_4 : decode cX5_apartFor 4 = .ok (.invokevirtual 194, 3) := by decide +kernel
theorem dX5_apartFor_7 : decode cX5_apartFor 7 = .ok (.ifCond .ne 5, 3) := by decide +kernel
theorem dX5_apartFor_10 : decode cX5_apartFor 10 = .ok (.iconst (-1), 1) := by decide +kernel
theorem dX5_apartFor_11 : decode cX5_apartFor 11 = .ok (.ireturn, 1) := by decide +kernel
theorem dX5_apartFor_12 : decode cX5_apartFor 12 = .ok (.iconst 0, 1) := by decide +kernel
theorem dX5_apartFor_13 : decode cX5_apartFor 13 = .ok (.istore 4, 2) := by decide +kernel
theorem dX5_apartFor_15 : decode cX5_apartFor 15 = .ok (.iload 4, 2) := by decide +kernel
theorem dX5_apartFor_17 : decode cX5_apartFor 17 = .ok (.bipush 6, 2) := by decide +kernel
theorem dX5_apartFor_19 : decode cX5_apartFor 19 = .ok (.if_icmp .gt 50, 3) := by decide +kernel
theorem dX5_apartFor_22 : decode cX5_apartFor 22 = .ok (.iconst 0, 1) := by decide +kernel
theorem dX5_apartFor_23 : decode cX5_apartFor 23 = .ok (.istore 5, 2) := by decide +kernel
theorem dX5_apartFor_25 : decode cX5_apartFor 25 = .ok (.iload 5, 2) := by decide +kernel
theorem dX5_apartFor_27 : decode cX5_apartFor 27 = .ok (.bipush 64, 2) := by decide +kernel
theorem dX5_apartFor_29 : decode cX5_apartFor 29 = .ok (.if_icmp .ge 34, 3) := by decide +kernel
theorem dX5_apartFor_32 : decode cX5_apartFor 32 = .ok (.iload 5, 2) := by decide +kernel
theorem dX5_apartFor_34 : decode cX5_apartFor 34 = .ok (.invokestatic 156, 3) := by decide +kernel
theorem dX5_apartFor_37 : decode cX5_apartFor 37 = .ok (.iload 4, 2) := by decide +kernel
theorem dX5_apartFor_39 : decode cX5_apartFor 39 = .ok (.if_icmp .ne 18, 3) := by decide +kernel
theorem dX5_apartFor_42 : decode cX5_apartFor 42 = .ok (.aload_n 0, 1) := by decide +kernel
theorem dX5_apartFor_43 : decode cX5_apartFor 43 = .ok (.iload_n 1, 1) := by decide +kernel
theorem dX5_apartFor_44 : decode cX5_apartFor 44 = .ok (.iload_n 2, 1) := by decide +kernel
theorem dX5_apartFor_45 : decode cX5_apartFor 45 = .ok (.iload_n 3, 1) := by decide +kernel
theorem dX5_apartFor_46 : decode cX5_apartFor 46 = .ok (.iload 5, 2) := by decide +kernel
theorem dX5_apartFor_48 : decode cX5_apartFor 48 = .ok (.invokevirtual 201, 3) := by decide +kernel
theorem dX5_apartFor_51 : decode cX5_apartFor 51 = .ok (.ifCond .eq 6, 3) := by decide +kernel
theorem dX5_apartFor_54 : decode cX5_apartFor 54 = .ok (.iload 5, 2) := by decide +kernel
theorem dX5_apartFor_56 : decode cX5_apartFor 56 = .ok (.ireturn, 1) := by decide +kernel
theorem dX5_apartFor_57 : decode cX5_apartFor 57 = .ok (.iinc 5 1, 3) := by decide +kernel
theorem dX5_apartFor_60 : decode cX5_apartFor 60 = .ok (.goto (-35), 3) := by decide +kernel
theorem dX5_apartFor_63 : decode cX5_apartFor 63 = .ok (.iinc 4 1, 3) := by decide +kernel
theorem dX5_apartFor_66 : decode cX5_apartFor 66 = .ok (.goto (-51), 3) := by decide +kernel
theorem dX5_apartFor_69 : decode cX5_apartFor 69 = .ok (.bipush (-3), 2) := by decide +kernel
theorem dX5_apartFor_71 : decode cX5_apartFor 71 = .ok (.ireturn, 1) := by decide +kernel
set_option maxRecDepth 20000 in
theorem ggX5_neverComesApart_X1_become : GoodIn wsX5_neverComesApart wsX1_become := goodIn_r _ [7, 8, 9, 10, 11, 12, 13, 14, 15, 16, 17, 18, 19, 20, 90, 91, 92, 93, 94, 95, 96, 97, 98, 99] (by decide +kernel) (by decide +kernel)
set_option maxRecDepth 20000 in
theorem gX5_neverComesApart_X1_become : GoodIn wsX5_neverComesApart (wsV RX5 79 RX1 yX1_become wsX1_become) := goodIn_app (goodIn_of _ (by decide +kernel)) ggX5_neverComesApart_X1_become
set_option maxRecDepth 20000 in
theorem ggX5_neverComesApart_X5_has : GoodIn wsX5_neverComesApart wsX5_has := goodIn_r _ [24] (by decide +kernel) (by decide +kernel)
set_option maxRecDepth 20000 in
theorem gX5_neverComesApart_X5_has : GoodIn wsX5_neverComesApart (va_wsS RX5 205 yX5_has wsX5_has) := goodIn_app (goodIn_of _ (by decide +kernel)) ggX5_neverComesApart_X5_has
set_option maxRecDepth 20000 in
theorem ggX5_neverComesApart_X1_join : GoodIn wsX5_neverComesApart wsX1_join := goodIn_r _ [28, 16, 17, 90, 91, 92, 93, 94, 95, 96, 97, 98, 99] (by decide +kernel) (by decide +kernel)
set_option maxRecDepth 20000 in
theorem gX5_neverComesApart_X1_join : GoodIn wsX5_neverComesApart (wsV RX5 133 RX1 yX1_join wsX1_join) := goodIn_app (goodIn_of _ (by decide +kernel)) ggX5_neverComesApart_X1_join
set_option maxRecDepth 20000 in
theorem ggX5_neverComesApart_X1_hoursUntilOn : GoodIn wsX5_neverComesApart wsX1_hoursUntilOn := goodIn_r _ [32, 15, 33, 34, 35, 6, 36, 37, 16, 17, 19, 38, 39, 40, 41, 42, 43, 44, 45, 46, 47, 48, 49, 18, 14, 50, 51, 52, 53, 54, 55, 56, 57, 13, 8, 58, 59, 60, 61, 62, 63, 64, 65, 22, 23, 24, 66, 67, 68, 69, 70, 71, 72, 73, 74, 75, 76, 77, 78, 90, 91, 92, 93, 94, 95, 96, 97, 98, 99] (by decide +kernel) (by decide +kernel)
set_option maxRecDepth 20000 in
theorem gX5_neverComesApart_X1_hoursUntilOn : GoodIn wsX5_neverComesApart (wsV RX5 183 RX1 yX1_hoursUntilOn wsX1_hoursUntilOn) := goodIn_app (goodIn_of _ (by decide +kernel)) ggX5_neverComesApart_X1_hoursUntilOn
theorem dX5_neverComesApart_0 : decode cX5_neverComesApart 0 = .ok (.aload_n 0, 1) := by decide +kernel
theorem dX5_neverComesApart_1 : decode cX5_neverComesApart 1 = .ok (.getfield 19, 3) := by decide +kernel
theorem dX5_neverComesApart_4 : decode cX5_neverComesApart 4 = .ok (.aload_n 0, 1) := by decide +kernel
theorem dX5_neverComesApart_5 : decode cX5_neverComesApart 5 = .ok (.getfield 10, 3) := by decide +kernel
theorem dX5_neverComesApart_8 : decode cX5_neverComesApart 8 = .ok (.invokevirtual 79, 3) := by decide +kernel
theorem dX5_neverComesApart_11 : decode cX5_neverComesApart 11 = .ok (.iconst 0, 1) := by decide +kernel
theorem dX5_neverComesApart_12 : decode cX5_neverComesApart 12 = .ok (.istore 5, 2) := by decide +kernel
theorem dX5_neverComesApart_14 : decode cX5_neverComesApart 14 = .ok (.iload 5, 2) := by decide +kernel
theorem dX5_neverComesApart_16 : decode cX5_neverComesApart 16 = .ok (.bipush 6, 2) := by decide +kernel
theorem dX5_neverComesApart_18 : decode cX5_neverComesApart 18 = .ok (.if_icmp .ge 30, 3) := by decide +kernel
theorem dX5_neverComesApart_21 : decode cX5_neverComesApart 21 = .ok (.iload 4, 2) := by decide +kernel
theorem dX5_neverComesApart_23 : decode cX5_neverComesApart 23 = .ok (.iload 5, 2) := by decide +kernel
theorem dX5_neverComesApart_25 : decode cX5_neverComesApart 25 = .ok (.invokestatic 205, 3) := by decide +kernel
theorem dX5_neverComesApart_28 : decode cX5_neverComesApart 28 = .ok (.ifCond .eq 14, 3) := by decide +kernel
theorem dX5_neverComesApart_31 : decode cX5_neverComesApart 31 = .ok (.aload_n 0, 1) := by decide +kernel
theorem dX5_neverComesApart_32 : decode cX5_neverComesApart 32 = .ok (.getfield 19, 3) := by decide +kernel
theorem dX5_neverComesApart_35 : decode cX5_neverComesApart 35 = .ok (.iload 5, 2) := by decide +kernel
theorem dX5_neverComesApart_37 : decode cX5_neverComesApart 37 = .ok (.iconst (-1), 1) := by decide +kernel
theorem dX5_neverComesApart_38 : decode cX5_neverComesApart 38 = .ok (.iconst (-1), 1) := by decide +kernel
theorem dX5_neverComesApart_39 : decode cX5_neverComesApart 39 = .ok (.invokevirtual 133, 3) := by decide +kernel
theorem dX5_neverComesApart_42 : decode cX5_neverComesApart 42 = .ok (.iinc 5 1, 3) := by decide +kernel
theorem dX5_neverComesApart_45 : decode cX5_neverComesApart 45 = .ok (.goto (-31), 3) := by decide +kernel
theorem dX5_neverComesApart_48 : decode cX5_neverComesApart 48 = .ok (.aload_n 0, 1) := by decide +kernel
theorem dX5_neverComesApart_49 : decode cX5_neverComesApart 49 = .ok (.getfield 19, 3) := by decide +kernel
theorem dX5_neverComesApart_52 : decode cX5_neverComesApart 52 = .ok (.iload_n 1, 1) := by decide +kernel
theorem dX5_neverComesApart_53 : decode cX5_neverComesApart 53 = .ok (.iload_n 2, 1) := by decide +kernel
theorem dX5_neverComesApart_54 : decode cX5_neverComesApart 54 = .ok (.iload_n 3, 1) := by decide +kernel
theorem dX5_neverComesApart_55 : decode cX5_neverComesApart 55 = .ok (.invokevirtual 183, 3) := by decide +kernel
theorem dX5_neverComesApart_58 : decode cX5_neverComesApart 58 = .ok (.ifCond .ge 7, 3) := by decide +kernel
theorem dX5_neverComesApart_61 : decode cX5_neverComesApart 61 = .ok (.iconst 1, 1) := by decide +kernel
theorem dX5_neverComesApart_62 : decode cX5_neverComesApart 62 = .ok (.goto 4, 3) := by decide +kernel
theorem dX5_neverComesApart_65 : decode cX5_neverComesApart 65 = .ok (.iconst 0, 1) := by decide +kernel
theorem dX5_neverComesApart_66 : decode cX5_neverComesApart 66 = .ok (.ireturn, 1) := by decide +kernel
set_option maxRecDepth 20000 in
theorem ggX5_fits_X5_isSheet : GoodIn wsX5_fits wsX5_isSheet := goodIn_r _ [6, 7, 8, 5, 9] (by decide +kernel) (by decide +kernel)
set_option maxRecDepth 20000 in
theorem gX5_fits_X5_isSheet : GoodIn wsX5_fits (va_wsS RX5 209 yX5_isSheet wsX5_isSheet) := goodIn_app (goodIn_of _ (by decide +kernel)) ggX5_fits_X5_isSheet
set_option maxRecDepth 20000 in
theorem ggX5_fits_X5_isMark : GoodIn wsX5_fits wsX5_isMark := goodIn_r _ [13, 14, 15, 7, 8, 5, 9, 91, 92, 93, 94, 95, 96, 97, 98, 99, 100, 101, 105, 106, 107, 108, 109, 110, 111, 112, 113, 114] (by decide +kernel) (by decide +kernel)
set_option maxRecDepth 20000 in
theorem gX5_fits_X5_isMark : GoodIn wsX5_fits (wsV RX5 111 RX5 yX5_isMark wsX5_isMark) := goodIn_app (goodIn_of _ (by decide +kernel)) ggX5_fits_X5_isMark
set_option maxRecDepth 20000 in
theorem ggX5_fits_X5_within : GoodIn wsX5_fits wsX5_within := goodIn_r _ [9] (by decide +kernel) (by decide +kernel)
set_option maxRecDepth 20000 in
theorem gX5_fits_X5_within : GoodIn wsX5_fits (va_wsS RX5 57 yX5_within wsX5_within) := goodIn_app (goodIn_of _ (by decide +kernel)) ggX5_fits_X5_within
set_option maxRecDepth 20000 in
theorem ggX5_fits_X5_fitsFrom : GoodIn wsX5_fits wsX5_fitsFrom := goodIn_r _ [19, 20, 14, 21, 22, 23, 24, 25, 26, 27, 28, 29, 30, 31, 32, 33, 34, 35, 36, 37, 38, 39, 40, 41, 42, 43, 44, 45, 46, 47, 48, 49, 50, 51, 52, 53, 54, 55, 56, 57, 58, 59, 60, 61, 62, 63, 64, 65, 66, 67, 68, 69, 70, 71, 72, 73, 74, 75, 76, 5, 77, 78, 79, 80, 81, 82, 83, 84, 85, 86, 87, 88, 89, 90, 91, 92, 93, 94, 95, 96, 97, 98, 99, 100, 101, 105, 106, 107, 108, 109, 110, 111, 112, 113, 114, 102, 103, 104] (by decide +kernel) (by decide +kernel)
set_option maxRecDepth 20000 in
theorem gX5_fits_X5_fitsFrom : GoodIn wsX5_fits (wsV RX5 215 RX5 yX5_fitsFrom wsX5_fitsFrom) := goodIn_app (goodIn_of _ (by decide +kernel)) ggX5_fits_X5_fitsFrom
theorem dX5_fits_0 : decode cX5_fits 0 = .ok (.iload_n 1, 1) := by decide +kernel
theorem dX5_fits_1 : decode cX5_fits 1 = .ok (.invokestatic 209, 3) := by decide +kernel
theorem dX5_fits_4 : decode cX5_fits 4 = .ok (.ifCond .eq 20, 3) := by decide +kernel
theorem dX5_fits_7 : decode cX5_fits 7 = .ok (.aload_n 0, 1) := by decide +kernel
theorem dX5_fits_8 : decode cX5_fits 8 = .ok (.iload_n 2, 1) := by decide +kernel
theorem dX5_fits_9 : decode cX5_fits 9 = .ok (.invokevirtual 111, 3) := by decide +kernel
theorem dX5_fits_12 : decode cX5_fits 12 = .ok (.ifCond .eq 12, 3) := by decide +kernel
theorem dX5_fits_15 : decode cX5_fits 15 = .ok (.iload_n 3, 1) := by decide +kernel
theorem dX5_fits_16 : decode cX5_fits 16 = .ok (.iconst 0, 1) := by decide +kernel
theorem dX5_fits_17 : decode cX5_fits 17 = .ok (.iconst 1, 1) := by decide +kernel
theorem dX5_fits_18 : decode cX5_fits 18 = .ok (.invokestatic 57, 3) := by decide +kernel
theorem dX5_fits_21 : decode cX5_fits 21 = .ok (.ifCond .ne 5, 3) := by decide +kernel
theorem dX5_fits_24 : decode cX5_fits 24 = .ok (.iconst (-1), 1) := by decide +kernel
theorem dX5_fits_25 : decode cX5_fits 25 = .ok (.ireturn, 1) := by decide +kernel
theorem dX5_fits_26 : decode cX5_fits 26 = .ok (.aload_n 0, 1) := by decide +kernel
theorem dX5_fits_27 : decode cX5_fits 27 = .ok (.getfield 41, 3) := by decide +kernel
theorem dX5_fits_30 : decode cX5_fits 30 = .ok (.iload_n 1, 1) := by decide +kernel
theorem dX5_fits_31 : decode cX5_fits 31 = .ok (.aaload, 1) := by decide +kernel
theorem dX5_fits_32 : decode cX5_fits 32 = .ok (.getfield 212, 3) := by decide +kernel
theorem dX5_fits_35 : decode cX5_fits 35 = .ok (.iconst (-1), 1) := by decide +kernel
theorem dX5_fits_36 : decode cX5_fits 36 = .ok (.if_icmp .ne 6, 3) := by decide +kernel
theorem dX5_fits_39 : decode cX5_fits 39 = .ok (.bipush (-11), 2) := by decide +kernel
theorem dX5_fits_41 : decode cX5_fits 41 = .ok (.ireturn, 1) := by decide +kernel
theorem dX5_fits_42 : decode cX5_fits 42 = .ok (.iconst 0, 1) := by decide +kernel
theorem dX5_fits_43 : decode cX5_fits 43 = .ok (.istore 4, 2) := by decide +kernel
theorem dX5_fits_45 : decode cX5_fits 45 = .ok (.bipush (-3), 2) := by decide +kernel
theorem dX5_fits_47 : decode cX5_fits 47 = .ok (.istore 5, 2) := by decide +kernel
theorem dX5_fits_49 : decode cX5_fits 49 = .ok (.bipush 7, 2) := by decide +kernel
theorem dX5_fits_51 : decode cX5_fits 51 = .ok (.istore 6, 2) := by decide +kernel
theorem dX5_fits_53 : decode cX5_fits 53 = .ok (.iload 6, 2) := by decide +kernel
theorem dX5_fits_55 : decode cX5_fits 55 = .ok (.ifCond .lt 32, 3) := by decide +kernel
theorem dX5_fits_58 : decode cX5_fits 58 = .ok (.aload_n 0, 1) := by decide +kernel
theorem dX5_fits_59 : decode cX5_fits 59 = .ok (.aload_n 0, 1) := by decide +kernel
theorem dX5_fits_60 : decode cX5_fits 60 = .ok (.getfield 41, 3) := by decide +kernel
theorem dX5_fits_63 : decode cX5_fits 63 = .ok (.iload_n 1, 1) := by decide +kernel
theorem dX5_fits_64 : decode cX5_fits 64 = .ok (.aaload, 1) := by decide +kernel
theorem dX5_fits_65 : decode cX5_fits 65 = .ok (.iload_n 2, 1) := by decide +kernel
theorem dX5_fits_66 : decode cX5_fits 66 = .ok (.iload 6, 2) := by decide +kernel
theorem dX5_fits_68 : decode cX5_fits 68 = .ok (.invokevirtual 215, 3) := by decide +kernel
theorem dX5_fits_71 : decode cX5_fits 71 = .ok (.ifCond .eq 10, 3) := by decide +kernel
theorem dX5_fits_74 : decode cX5_fits 74 = .ok (.iinc 4 1, 3) := by decide +kernel
theorem dX5_fits_77 : decode cX5_fits 77 = .ok (.iload 6, 2) := by decide +kernel
theorem dX5_fits_79 : decode cX5_fits 79 = .ok (.istore 5, 2) := by decide +kernel
theorem dX5_fits_81 : decode cX5_fits 81 = .ok (.iinc 6 (-1), 3) := by decide +kernel
theorem dX5_fits_84 : decode cX5_fits 84 = .ok (.goto (-31), 3) := by decide +kernel
theorem dX5_fits_87 : decode cX5_fits 87 = .ok (.iload_n 3, 1) := by decide +kernel
theorem dX5_fits_88 : decode cX5_fits 88 = .ok (.ifCond .ne 8, 3) := by decide +kernel
theorem dX5_fits_91 : decode cX5_fits 91 = .ok (.iload 4, 2) := by decide +kernel
theorem dX5_fits_93 : decode cX5_fits 93 = .ok (.goto 5, 3) := by decide +kernel
theorem dX5_fits_96 : decode cX5_fits 96 = .ok (.iload 5, 2) := by decide +kernel
theorem dX5_fits_98 : decode cX5_fits 98 = .ok (.ireturn, 1) := by decide +kernel
set_option maxRecDepth 20000 in
theorem ggX5_fitsFrom_X1_become : GoodIn wsX5_fitsFrom wsX1_become := goodIn_r _ [11, 12, 13, 14, 15, 16, 17, 18, 19, 20, 21, 22, 23, 24, 85, 86, 87, 88, 89, 90, 91, 92, 93, 94] (by decide +kernel) (by decide +kernel)
set_option maxRecDepth 20000 in
theorem gX5_fitsFrom_X1_become : GoodIn wsX5_fitsFrom (wsV RX5 79 RX1 yX1_become wsX1_become) := goodIn_app (goodIn_of _ (by decide +kernel)) ggX5_fitsFrom_X1_become
set_option maxRecDepth 20000 in
theorem ggX5_fitsFrom_X1_passHour : GoodIn wsX5_fitsFrom wsX1_passHour := goodIn_r _ [28, 29, 20, 21, 23, 30, 31, 32, 10, 33, 34, 35, 36, 37, 38, 39, 40, 41, 22, 19, 18, 42, 43, 44, 45, 46, 47, 48, 49, 17, 12, 50, 51, 52, 53, 54, 55, 56, 57, 58, 59, 60, 61, 62, 63, 64, 65, 66, 67, 68, 69, 70, 71, 72, 73, 85, 86, 87, 88, 89, 90, 91, 92, 93, 94] (by decide +kernel) (by decide +kernel)
set_option maxRecDepth 20000 in
theorem gX5_fitsFrom_X1_passHour : GoodIn wsX5_fitsFrom (wsV RX5 149 RX1 yX1_passHour wsX1_passHour) := goodIn_app (goodIn_of _ (by decide +kernel)) ggX5_fitsFrom_X1_passHour
theorem dX5_fitsFrom_0 : decode cX5_fitsFrom 0 = .ok (.aload_n 0, 1) := by decide +kernel
theorem dX5_fitsFrom_1 : decode cX5_fitsFrom 1 = .ok (.getfield 19, 3) := by decide +kernel
theorem dX5_fitsFrom_4 : decode cX5_fitsFrom 4 = .ok (.aload_n 0, 1) := by decide +kernel
theorem dX5_fitsFrom_5 : decode cX5_fitsFrom 5 = .ok (.getfield 10, 3) := by decide +kernel
theorem dX5_fitsFrom_8 : decode cX5_fitsFrom 8 = .ok (.invokevirtual 79, 3) := by decide +kernel
theorem dX5_fitsFrom_11 : decode cX5_fitsFrom 11 = .ok (.aload_n 0, 1) := by decide +kernel
theorem dX5_fitsFrom_12 : decode cX5_fitsFrom 12 = .ok (.getfield 19, 3) := by decide +kernel
theorem dX5_fitsFrom_15 : decode cX5_fitsFrom 15 = .ok (.getfield 120, 3) := by decide +kernel
theorem dX5_fitsFrom_18 : decode cX5_fitsFrom 18 = .ok (.iload_n 2, 1) := by decide +kernel
theorem dX5_fitsFrom_19 : decode cX5_fitsFrom 19 = .ok (.iload_n 3, 1) := by decide +kernel
theorem dX5_fitsFrom_20 : decode cX5_fitsFrom 20 = .ok (.iastore, 1) := by decide +kernel
theorem dX5_fitsFrom_21 : decode cX5_fitsFrom 21 = .ok (.iconst 0, 1) := by decide +kernel
theorem dX5_fitsFrom_22 : decode cX5_fitsFrom 22 = .ok (.istore 4, 2) := by decide +kernel
theorem dX5_fitsFrom_24 : decode cX5_fitsFrom 24 = .ok (.iload 4, 2) := by decide +kernel
theorem dX5_fitsFrom_26 : decode cX5_fitsFrom 26 = .ok (.aload_n 1, 1) := by decide +kernel
theorem dX5_fitsFrom_27 : decode cX5_fitsFrom 27 = .ok (.getfield 219, 3) := by decide +kernel
theorem dX5_fitsFrom_30 : decode cX5_fitsFrom 30 = .ok (.if_icmp .ge 52, 3) := by decide +kernel
theorem dX5_fitsFrom_33 : decode cX5_fitsFrom 33 = .ok (.aload_n 0, 1) := by decide +kernel
theorem dX5_fitsFrom_34 : decode cX5_fitsFrom 34 = .ok (.getfield 19, 3) := by decide +kernel
theorem dX5_fitsFrom_37 : decode cX5_fitsFrom 37 = .ok (.invokevirtual 149, 3) := by decide +kernel
theorem dX5_fitsFrom_40 : decode cX5_fitsFrom 40 = .ok (.aload_n 1, 1) := by decide +kernel
theorem dX5_fitsFrom_41 : decode cX5_fitsFrom 41 = .ok (.getfield 222, 3) := by decide +kernel
theorem dX5_fitsFrom_44 : decode cX5_fitsFrom 44 = .ok (.iload 4, 2) := by decide +kernel
theorem dX5_fitsFrom_46 : decode cX5_fitsFrom 46 = .ok (.laload, 1) := by decide +kernel
theorem dX5_fitsFrom_47 : decode cX5_fitsFrom 47 = .ok (.lstore 5, 2) := by decide +kernel
theorem dX5_fitsFrom_49 : decode cX5_fitsFrom 49 = .ok (.lload 5, 2) := by decide +kernel
theorem dX5_fitsFrom_51 : decode cX5_fitsFrom 51 = .ok (.ldc2_w 226, 3) := by decide +kernel
theorem dX5_fitsFrom_54 : decode cX5_fitsFrom 54 = .ok (.lcmp, 1) := by decide +kernel
theorem dX5_fitsFrom_55 : decode cX5_fitsFrom 55 = .ok (.ifCond .eq 21, 3) := by decide +kernel
theorem dX5_fitsFrom_58 : decode cX5_fitsFrom 58 = .ok (.lload 5, 2) := by decide +kernel
theorem dX5_fitsFrom_60 : decode cX5_fitsFrom 60 = .ok (.aload_n 0, 1) := by decide +kernel
theorem dX5_fitsFrom_61 : decode cX5_fitsFrom 61 = .ok (.getfield 19, 3) := by decide +kernel
theorem dX5_fitsFrom_64 : decode cX5_fitsFrom 64 = .ok (.getfield 120, 3) := by decide +kernel
theorem dX5_fitsFrom_67 : decode cX5_fitsFrom 67 = .ok (.iload_n 2, 1) := by decide +kernel
theorem dX5_fitsFrom_68 : decode cX5_fitsFrom 68 = .ok (.iaload, 1) := by decide +kernel
theorem dX5_fitsFrom_69 : decode cX5_fitsFrom 69 = .ok (.i2l, 1) := by decide +kernel
theorem dX5_fitsFrom_70 : decode cX5_fitsFrom 70 = .ok (.lcmp, 1) := by decide +kernel
theorem dX5_fitsFrom_71 : decode cX5_fitsFrom 71 = .ok (.ifCond .eq 5, 3) := by decide +kernel
theorem dX5_fitsFrom_74 : decode cX5_fitsFrom 74 = .ok (.iconst 0, 1) := by decide +kernel
theorem dX5_fitsFrom_75 : decode cX5_fitsFrom 75 = .ok (.ireturn, 1) := by decide +kernel
theorem dX5_fitsFrom_76 : decode cX5_fitsFrom 76 = .ok (.iinc 4 1, 3) := by decide +kernel
theorem dX5_fitsFrom_79 : decode cX5_fitsFrom 79 = .ok (.goto (-55), 3) := by decide +kernel
theorem dX5_fitsFrom_82 : decode cX5_fitsFrom 82 = .ok (.iconst 1, 1) := by decide +kernel
theorem dX5_fitsFrom_83 : decode cX5_fitsFrom 83 = .ok (.ireturn, 1) := by decide +kernel
set_option maxRecDepth 20000 in
theorem ggX5_odds_X5_within : GoodIn wsX5_odds wsX5_within := goodIn_r _ [8] (by decide +kernel) (by decide +kernel)
set_option maxRecDepth 20000 in
theorem gX5_odds_X5_within : GoodIn wsX5_odds (va_wsS RX5 57 yX5_within wsX5_within) := goodIn_app (goodIn_of _ (by decide +kernel)) ggX5_odds_X5_within
set_option maxRecDepth 20000 in
theorem ggX5_odds_X5_choices : GoodIn wsX5_odds wsX5_choices := goodIn_r _ [11] (by decide +kernel) (by decide +kernel)
set_option maxRecDepth 20000 in
theorem gX5_odds_X5_choices : GoodIn wsX5_odds (va_wsS RX5 228 yX5_choices wsX5_choices) := goodIn_app (goodIn_of _ (by decide +kernel)) ggX5_odds_X5_choices
set_option maxRecDepth 20000 in
theorem ggX5_odds_X5_power : GoodIn wsX5_odds wsX5_power := goodIn_r _ [14] (by decide +kernel) (by decide +kernel)
set_option maxRecDepth 20000 in
theorem gX5_odds_X5_power : GoodIn wsX5_odds (va_wsS RX5 232 yX5_power wsX5_power) := goodIn_app (goodIn_of _ (by decide +kernel)) ggX5_odds_X5_power
set_option maxRecDepth 20000 in
theorem ggX5_odds_X5_partOf : GoodIn wsX5_odds wsX5_partOf := goodIn_r _ [17, 18, 19, 7, 20] (by decide +kernel) (by decide +kernel)
set_option maxRecDepth 20000 in
theorem gX5_odds_X5_partOf : GoodIn wsX5_odds (va_wsS RX5 238 yX5_partOf wsX5_partOf) := goodIn_app (goodIn_of _ (by decide +kernel)) ggX5_odds_X5_partOf
theorem dX5_odds_0 : decode cX5_odds 0 = .ok (.iload_n 1, 1) := by decide +kernel
theorem dX5_odds_1 : decode cX5_odds 1 = .ok (.iconst 0, 1) := by decide +kernel
theorem dX5_odds_2 : decode cX5_odds 2 = .ok (.bipush 8, 2) := by decide +kernel
theorem dX5_odds_4 : decode cX5_odds 4 = .ok (.invokestatic 57, 3) := by decide +kernel
theorem dX5_odds_7 : decode cX5_odds 7 = .ok (.ifCond .eq 21, 3) := by decide +kernel
theorem dX5_odds_10 : decode cX5_odds 10 = .ok (.iload_n 2, 1) := by decide +kernel
theorem dX5_odds_11 : decode cX5_odds 11 = .ok (.iconst 0, 1) := by decide +kernel
theorem dX5_odds_12 : decode cX5_odds 12 = .ok (.iload_n 1, 1) := by decide +kernel
theorem dX5_odds_13 : decode cX5_odds 13 = .ok (.invokestatic 57, 3) := by decide +kernel
theorem dX5_odds_16 : decode cX5_odds 16 = .ok (.ifCond .eq 12, 3) := by decide +kernel
theorem dX5_odds_19 : decode cX5_odds 19 = .ok (.iload_n 3, 1) := by decide +kernel
theorem dX5_odds_20 : decode cX5_odds 20 = .ok (.iconst 0, 1) := by decide +kernel
theorem dX5_odds_21 : decode cX5_odds 21 = .ok (.iconst 1, 1) := by decide +kernel
theorem dX5_odds_22 : decode cX5_odds 22 = .ok (.invokestatic 57, 3) := by decide +kernel
theorem dX5_odds_25 : decode cX5_odds 25 = .ok (.ifCond .ne 7, 3) := by decide +kernel
theorem dX5_odds_28 : decode cX5_odds 28 = .ok (.ldc2_w 226, 3) := by decide +kernel
theorem dX5_odds_31 : decode cX5_odds 31 = .ok (.lreturn, 1) := by decide +kernel
theorem dX5_odds_32 : decode cX5_odds 32 = .ok (.aload_n 0, 1) := by decide +kernel
theorem dX5_odds_33 : decode cX5_odds 33 = .ok (.getfield 10, 3) := by decide +kernel
theorem dX5_odds_36 : decode cX5_odds 36 = .ok (.getfield 95, 3) := by decide +kernel
theorem dX5_odds_39 : decode cX5_odds 39 = .ok (.iconst 3, 1) := by decide +kernel
theorem dX5_odds_40 : decode cX5_odds 40 = .ok (.iaload, 1) := by decide +kernel
theorem dX5_odds_41 : decode cX5_odds 41 = .ok (.i2l, 1) := by decide +kernel
theorem dX5_odds_42 : decode cX5_odds 42 = .ok (.lstore 4, 2) := by decide +kernel
theorem dX5_odds_44 : decode cX5_odds 44 = .ok (.iload_n 1, 1) := by decide +kernel
theorem dX5_odds_45 : decode cX5_odds 45 = .ok (.iload_n 2, 1) := by decide +kernel
theorem dX5_odds_46 : decode cX5_odds 46 = .ok (.invokestatic 228, 3) := by decide +kernel
theorem dX5_odds_49 : decode cX5_odds 49 = .ok (.lload 4, 2) := by decide +kernel
theorem dX5_odds_51 : decode cX5_odds 51 = .ok (.iload_n 2, 1) := by decide +kernel
theorem dX5_odds_52 : decode cX5_odds 52 = .ok (.invokestatic 232, 3) := by decide +kernel
theorem dX5_odds_55 : decode cX5_odds 55 = .ok (.lmul, 1) := by decide +kernel
theorem dX5_odds_56 : decode cX5_odds 56 = .ok (.ldc2_w 236, 3) := by decide +kernel
theorem dX5_odds_59 : decode cX5_odds 59 = .ok (.lload 4, 2) := by decide +kernel
theorem dX5_odds_61 : decode cX5_odds 61 = .ok (.lsub, 1) := by decide +kernel
theorem dX5_odds_62 : decode cX5_odds 62 = .ok (.iload_n 1, 1) := by decide +kernel
theorem dX5_odds_63 : decode cX5_odds 63 = .ok (.iload_n 2, 1) := by decide +kernel
theorem dX5_odds_64 : decode cX5_odds 64 = .ok (.isub, 1) := by decide +kernel
theorem dX5_odds_65 : decode cX5_odds 65 = .ok (.invokestatic 232, 3) := by decide +kernel
theorem dX5_odds_68 : decode cX5_odds 68 = .ok (.lmul, 1) := by decide +kernel
theorem dX5_odds_69 : decode cX5_odds 69 = .ok (.lstore 6, 2) := by decide +kernel
theorem dX5_odds_71 : decode cX5_odds 71 = .ok (.lload 6, 2) := by decide +kernel
theorem dX5_odds_73 : decode cX5_odds 73 = .ok (.ldc2_w 236, 3) := by decide +kernel
theorem dX5_odds_76 : decode cX5_odds 76 = .ok (.iload_n 1, 1) := by decide +kernel
theorem dX5_odds_77 : decode cX5_odds 77 = .ok (.invokestatic 232, 3) := by decide +kernel
theorem dX5_odds_80 : decode cX5_odds 80 = .ok (.iload_n 3, 1) := by decide +kernel
theorem dX5_odds_81 : decode cX5_odds 81 = .ok (.invokestatic 238, 3) := by decide +kernel
theorem dX5_odds_84 : decode cX5_odds 84 = .ok (.lreturn, 1) := by decide +kernel
set_option maxRecDepth 20000 in
theorem ggX5_hope_X5_within : GoodIn wsX5_hope wsX5_within := goodIn_r _ [8] (by decide +kernel) (by decide +kernel)
set_option maxRecDepth 20000 in
theorem gX5_hope_X5_within : GoodIn wsX5_hope (va_wsS RX5 57 yX5_within wsX5_within) := goodIn_app (goodIn_of _ (by decide +kernel)) ggX5_hope_X5_within
set_option maxRecDepth 20000 in
theorem ggX5_hope_X5_partOf : GoodIn wsX5_hope wsX5_partOf := goodIn_r _ [11, 12, 13, 7, 14] (by decide +kernel) (by decide +kernel)
set_option maxRecDepth 20000 in
theorem gX5_hope_X5_partOf : GoodIn wsX5_hope (va_wsS RX5 238 yX5_partOf wsX5_partOf) := goodIn_app (goodIn_of _ (by decide +kernel)) ggX5_hope_X5_partOf
theorem dX5_hope_0 : decode cX5_hope 0 = .ok (.iload_n 1, 1) := by decide +kernel
theorem dX5_hope_1 : decode cX5_hope 1 = .ok (.iconst 0, 1) := by decide +kernel
theorem dX5_hope_2 : decode cX5_hope 2 = .ok (.bipush 99, 2) := by decide +kernel
theorem dX5_hope_4 : decode cX5_hope 4 = .ok (.invokestatic 57, 3) := by decide +kernel
theorem dX5_hope_7 : decode cX5_hope 7 = .ok (.ifCond .eq 12, 3) := by decide +kernel
theorem dX5_hope_10 : decode cX5_hope 10 = .ok (.iload_n 2, 1) := by decide +kernel
theorem dX5_hope_11 : decode cX5_hope 11 = .ok (.iconst 0, 1) := by decide +kernel
theorem dX5_hope_12 : decode cX5_hope 12 = .ok (.iconst 1, 1) := by decide +kernel
theorem dX5_hope_13 : decode cX5_hope 13 = .ok (.invokestatic 57, 3) := by decide +kernel
theorem dX5_hope_16 : decode cX5_hope 16 = .ok (.ifCond .ne 7, 3) := by decide +kernel
theorem dX5_hope_19 : decode cX5_hope 19 = .ok (.ldc2_w 226, 3) := by decide +kernel
theorem dX5_hope_22 : decode cX5_hope 22 = .ok (.lreturn, 1) := by decide +kernel
theorem dX5_hope_23 : decode cX5_hope 23 = .ok (.iload_n 1, 1) := by decide +kernel
theorem dX5_hope_24 : decode cX5_hope 24 = .ok (.i2l, 1) := by decide +kernel
theorem dX5_hope_25 : decode cX5_hope 25 = .ok (.aload_n 0, 1) := by decide +kernel
theorem dX5_hope_26 : decode cX5_hope 26 = .ok (.getfield 10, 3) := by decide +kernel
theorem dX5_hope_29 : decode cX5_hope 29 = .ok (.getfield 95, 3) := by decide +kernel
theorem dX5_hope_32 : decode cX5_hope 32 = .ok (.iconst 3, 1) := by decide +kernel
theorem dX5_hope_33 : decode cX5_hope 33 = .ok (.iaload, 1) := by decide +kernel
theorem dX5_hope_34 : decode cX5_hope 34 = .ok (.i2l, 1) := by decide +kernel
theorem dX5_hope_35 : decode cX5_hope 35 = .ok (.lmul, 1) := by decide +kernel
theorem dX5_hope_36 : decode cX5_hope 36 = .ok (.ldc2_w 236, 3) := by decide +kernel
theorem dX5_hope_39 : decode cX5_hope 39 = .ok (.iload_n 2, 1) := by decide +kernel
theorem dX5_hope_40 : decode cX5_hope 40 = .ok (.invokestatic 238, 3) := by decide +kernel
theorem dX5_hope_43 : decode cX5_hope 43 = .ok (.lreturn, 1) := by decide +kernel
theorem dX5_choices_0 : decode cX5_choices 0 = .ok (.lconst 1, 1) := by decide +kernel
theorem dX5_choices_1 : decode cX5_choices 1 = .ok (.lstore_n 2, 1) := by decide +kernel
theorem dX5_choices_2 : decode cX5_choices 2 = .ok (.iconst 1, 1) := by decide +kernel
theorem dX5_choices_3 : decode cX5_choices 3 = .ok (.istore 4, 2) := by decide +kernel
theorem dX5_choices_5 : decode cX5_choices 5 = .ok (.iload 4, 2) := by decide +kernel
theorem dX5_choices_7 : decode cX5_choices 7 = .ok (.iload_n 1, 1) := by decide +kernel
theorem dX5_choices_8 : decode cX5_choices 8 = .ok (.if_icmp .gt 23, 3) := by decide +kernel
theorem dX5_choices_11 : decode cX5_choices 11 = .ok (.lload_n 2, 1) := by decide +kernel
theorem dX5_choices_12 : decode cX5_choices 12 = .ok (.iload_n 0, 1) := by decide +kernel
theorem dX5_choices_13 : decode cX5_choices 13 = .ok (.iload_n 1, 1) := by decide +kernel
theorem dX5_choices_14 : decode cX5_choices 14 = .ok (.isub, 1) := by decide +kernel
theorem dX5_choices_15 : decode cX5_choices 15 = .ok (.iload 4, 2) := by decide +kernel
theorem dX5_choices_17 : decode cX5_choices 17 = .ok (.iadd, 1) := by decide +kernel
theorem dX5_choices_18 : decode cX5_choices 18 = .ok (.i2l, 1) := by decide +kernel
theorem dX5_choices_19 : decode cX5_choices 19 = .ok (.lmul, 1) := by decide +kernel
theorem dX5_choices_20 : decode cX5_choices 20 = .ok (.iload 4, 2) := by decide +kernel
theorem dX5_choices_22 : decode cX5_choices 22 = .ok (.i2l, 1) := by decide +kernel
theorem dX5_choices_23 : decode cX5_choices 23 = .ok (.ldiv, 1) := by decide +kernel
theorem dX5_choices_24 : decode cX5_choices 24 = .ok (.lstore_n 2, 1) := by decide +kernel
theorem dX5_choices_25 : decode cX5_choices 25 = .ok (.iinc 4 1, 3) := by decide +kernel
theorem dX5_choices_28 : decode cX5_choices 28 = .ok (.goto (-23), 3) := by decide +kernel
theorem dX5_choices_31 : decode cX5_choices 31 = .ok (.lload_n 2, 1) := by decide +kernel
theorem dX5_choices_32 : decode cX5_choices 32 = .ok (.lreturn, 1) := by decide +kernel
theorem dX5_power_0 : decode cX5_power 0 = .ok (.lconst 1, 1) := by decide +kernel
theorem dX5_power_1 : decode cX5_power 1 = .ok (.lstore_n 3, 1) := by decide +kernel
theorem dX5_power_2 : decode cX5_power 2 = .ok (.iconst 0, 1) := by decide +kernel
theorem dX5_power_3 : decode cX5_power 3 = .ok (.istore 5, 2) := by decide +kernel
theorem dX5_power_5 : decode cX5_power 5 = .ok (.iload 5, 2) := by decide +kernel
theorem dX5_power_7 : decode cX5_power 7 = .ok (.iload_n 2, 1) := by decide +kernel
theorem dX5_power_8 : decode cX5_power 8 = .ok (.if_icmp .ge 13, 3) := by decide +kernel
theorem dX5_power_11 : decode cX5_power 11 = .ok (.lload_n 3, 1) := by decide +kernel
theorem dX5_power_12 : decode cX5_power 12 = .ok (.lload_n 0, 1) := by decide +kernel
theorem dX5_power_13 : decode cX5_power 13 = .ok (.lmul, 1) := by decide +kernel
theorem dX5_power_14 : decode cX5_power 14 = .ok (.lstore_n 3, 1) := by decide +kernel
theorem dX5_power_15 : decode cX5_power 15 = .ok (.iinc 5 1, 3) := by decide +kernel
theorem dX5_power_18 : decode cX5_power 18 = .ok (.goto (-13), 3) := by decide +kernel
theorem dX5_power_21 : decode cX5_power 21 = .ok (.lload_n 3, 1) := by decide +kernel
theorem dX5_power_22 : decode cX5_power 22 = .ok (.lreturn, 1) := by decide +kernel
set_option maxRecDepth 20000 in
theorem ggX5_partOf_X5_commonDivisor : GoodIn wsX5_partOf wsX5_commonDivisor := goodIn_r _ [4] (by decide +kernel) (by decide +kernel)
set_option maxRecDepth 20000 in
theorem gX5_partOf_X5_commonDivisor : GoodIn wsX5_partOf (va_wsS RX5 242 yX5_commonDivisor wsX5_commonDivisor) := goodIn_app (goodIn_of _ (by decide +kernel)) ggX5_partOf_X5_commonDivisor
theorem dX5_partOf_0 : decode cX5_partOf 0 = .ok (.lload_n 0, 1) := by decide +kernel
theorem dX5_partOf_1 : decode cX5_partOf 1 = .ok (.lload_n 2, 1) := by decide +kernel
theorem dX5_partOf_2 : decode cX5_partOf 2 = .ok (.invokestatic 242, 3) := by decide +kernel
theorem dX5_partOf_5 : decode cX5_partOf 5 = .ok (.lstore 5, 2) := by decide +kernel
theorem dX5_partOf_7 : decode cX5_partOf 7 = .ok (.lload 5, 2) := by decide +kernel
theorem dX5_partOf_9 : decode cX5_partOf 9 = .ok (.lconst 0, 1) := by decide +kernel
theorem dX5_partOf_10 : decode cX5_partOf 10 = .ok (.lcmp, 1) := by decide +kernel
theorem dX5_partOf_11 : decode cX5_partOf 11 = .ok (.ifCond .ne 5, 3) := by decide +kernel
theorem dX5_partOf_14 : decode cX5_partOf 14 = .ok (.lconst 0, 1) := by decide +kernel
theorem dX5_partOf_15 : decode cX5_partOf 15 = .ok (.lreturn, 1) := by decide +kernel
theorem dX5_partOf_16 : decode cX5_partOf 16 = .ok (.iload 4, 2) := by decide +kernel
theorem dX5_partOf_18 : decode cX5_partOf 18 = .ok (.ifCond .ne 10, 3) := by decide +kernel
theorem dX5_partOf_21 : decode cX5_partOf 21 = .ok (.lload_n 0, 1) := by decide +kernel
theorem dX5_partOf_22 : decode cX5_partOf 22 = .ok (.lload 5, 2) := by decide +kernel
theorem dX5_partOf_24 : decode cX5_partOf 24 = .ok (.ldiv, 1) := by decide +kernel
theorem dX5_partOf_25 : decode cX5_partOf 25 = .ok (.goto 7, 3) := by decide +kernel
theorem dX5_partOf_28 : decode cX5_partOf 28 = .ok (.lload_n 2, 1) := by decide +kernel
theorem dX5_partOf_29 : decode cX5_partOf 29 = .ok (.lload 5, 2) := by decide +kernel
theorem dX5_partOf_31 : decode cX5_partOf 31 = .ok (.ldiv, 1) := by decide +kernel
theorem dX5_partOf_32 : decode cX5_partOf 32 = .ok (.lreturn, 1) := by decide +kernel
theorem dX5_commonDivisor_0 : decode cX5_commonDivisor 0 = .ok (.iconst 0, 1) := by decide +kernel
theorem dX5_commonDivisor_1 : decode cX5_commonDivisor 1 = .ok (.istore 4, 2) := by decide +kernel
theorem dX5_commonDivisor_3 : decode cX5_commonDivisor 3 = .ok (.iload 4, 2) := by decide +kernel
theorem dX5_commonDivisor_5 : decode cX5_commonDivisor 5 = .ok (.bipush 100, 2) := by decide +kernel
theorem dX5_commonDivisor_7 : decode cX5_commonDivisor 7 = .ok (.if_icmp .ge 25, 3) := by decide +kernel
theorem dX5_commonDivisor_10 : decode cX5_commonDivisor 10 = .ok (.lload_n 2, 1) := by decide +kernel
theorem dX5_commonDivisor_11 : decode cX5_commonDivisor 11 = .ok (.lconst 0, 1) := by decide +kernel
theorem dX5_commonDivisor_12 : decode cX5_commonDivisor 12 = .ok (.lcmp, 1) := by decide +kernel
theorem dX5_commonDivisor_13 : decode cX5_commonDivisor 13 = .ok (.ifCond .eq 19, 3) := by decide +kernel
theorem dX5_commonDivisor_16 : decode cX5_commonDivisor 16 = .ok (.lload_n 0, 1) := by decide +kernel
theorem dX5_commonDivisor_17 : decode cX5_commonDivisor 17 = .ok (.lload_n 2, 1) := by decide +kernel
theorem dX5_commonDivisor_18 : decode cX5_commonDivisor 18 = .ok (.lrem, 1) := by decide +kernel
theorem dX5_commonDivisor_19 : decode cX5_commonDivisor 19 = .ok (.lstore 5, 2) := by decide +kernel
theorem dX5_commonDivisor_21 : decode cX5_commonDivisor 21 = .ok (.lload_n 2, 1) := by decide +kernel
theorem dX5_commonDivisor_22 : decode cX5_commonDivisor 22 = .ok (.lstore_n 0, 1) := by decide +kernel
theorem dX5_commonDivisor_23 : decode cX5_commonDivisor 23 = .ok (.lload 5, 2) := by decide +kernel
theorem dX5_commonDivisor_25 : decode cX5_commonDivisor 25 = .ok (.lstore_n 2, 1) := by decide +kernel
theorem dX5_commonDivisor_26 : decode cX5_commonDivisor 26 = .ok (.iinc 4 1, 3) := by decide +kernel
theorem dX5_commonDivisor_29 : decode cX5_commonDivisor 29 = .ok (.goto (-26), 3) := by decide +kernel
theorem dX5_commonDivisor_32 : decode cX5_commonDivisor 32 = .ok (.lload_n 0, 1) := by decide +kernel
theorem dX5_commonDivisor_33 : decode cX5_commonDivisor 33 = .ok (.lreturn, 1) := by decide +kernel
set_option maxRecDepth 20000 in
theorem ggX5_prove_X5_isMark : GoodIn wsX5_prove wsX5_isMark := goodIn_r _ [9, 2, 10, 11, 12, 8, 13, 84, 85, 86, 87, 88, 89, 90, 91, 92, 93, 94, 95, 96, 97, 98, 99, 100, 101, 102, 103, 104] (by decide +kernel) (by decide +kernel)
set_option maxRecDepth 20000 in
theorem gX5_prove_X5_isMark : GoodIn wsX5_prove (wsV RX5 111 RX5 yX5_isMark wsX5_isMark) := goodIn_app (goodIn_of _ (by decide +kernel)) ggX5_prove_X5_isMark
set_option maxRecDepth 20000 in
theorem ggX5_prove_X5_within : GoodIn wsX5_prove wsX5_within := goodIn_r _ [13] (by decide +kernel) (by decide +kernel)
set_option maxRecDepth 20000 in
theorem gX5_prove_X5_within : GoodIn wsX5_prove (va_wsS RX5 57 yX5_within wsX5_within) := goodIn_app (goodIn_of _ (by decide +kernel)) ggX5_prove_X5_within
set_option maxRecDepth 20000 in
theorem ggX5_prove_X1_become : GoodIn wsX5_prove wsX1_become := goodIn_r _ [18, 19, 20, 21, 22, 23, 24, 25, 26, 27, 28, 29, 30, 31, 95, 96, 97, 98, 99, 100, 101, 102, 103, 104] (by decide +kernel) (by decide +kernel)
set_option maxRecDepth 20000 in
theorem gX5_prove_X1_become : GoodIn wsX5_prove (wsV RX5 79 RX1 yX1_become wsX1_become) := goodIn_app (goodIn_of _ (by decide +kernel)) ggX5_prove_X1_become
set_option maxRecDepth 20000 in
theorem ggX5_prove_X1_passHour : GoodIn wsX5_prove wsX1_passHour := goodIn_r _ [35, 36, 27, 28, 30, 37, 38, 39, 17, 40, 41, 42, 43, 44, 45, 46, 47, 48, 29, 26, 25, 49, 50, 51, 52, 53, 54, 55, 56, 24, 19, 57, 58, 59, 60, 61, 62, 63, 64, 65, 8, 66, 67, 68, 69, 70, 71, 72, 73, 74, 75, 76, 77, 78, 79, 95, 96, 97, 98, 99, 100, 101, 102, 103, 104] (by decide +kernel) (by decide +kernel)
set_option maxRecDepth 20000 in
theorem gX5_prove_X1_passHour : GoodIn wsX5_prove (wsV RX5 149 RX1 yX1_passHour wsX1_passHour) := goodIn_app (goodIn_of _ (by decide +kernel)) ggX5_prove_X1_passHour
set_option maxRecDepth 20000 in
theorem ggX5_prove_X1_rowPart : GoodIn wsX5_prove wsX1_rowPart := goodIn_r _ [83, 26, 25, 36, 65, 8, 66, 95, 96, 97, 98, 99, 100, 101, 102, 103, 104] (by decide +kernel) (by decide +kernel)
set_option maxRecDepth 20000 in
theorem gX5_prove_X1_rowPart : GoodIn wsX5_prove (wsV RX5 246 RX1 yX1_rowPart wsX1_rowPart) := goodIn_app (goodIn_of _ (by decide +kernel)) ggX5_prove_X1_rowPart
theorem dX5_prove_0 : decode cX5_prove 0 = .ok (.aload_n 0, 1) := by decide +kernel
theorem dX5_prove_1 : decode cX5_prove 1 = .ok (.iload_n 1, 1) := by decide +kernel
theorem dX5_prove_2 : decode cX5_prove 2 = .ok (.invokevirtual 111, 3) := by decide +kernel
theorem dX5_prove_5 : decode cX5_prove 5 = .ok (.ifCond .eq 13, 3) := by decide +kernel
theorem dX5_prove_8 : decode cX5_prove 8 = .ok (.iload_n 2, 1) := by decide +kernel
theorem dX5_prove_9 : decode cX5_prove 9 = .ok (.iconst 1, 1) := by decide +kernel
theorem dX5_prove_10 : decode cX5_prove 10 = .ok (.bipush 10, 2) := by decide +kernel
theorem dX5_prove_12 : decode cX5_prove 12 = .ok (.invokestatic 57, 3) := by decide +kernel
theorem dX5_prove_15 : decode cX5_prove 15 = .ok (.ifCond .ne 5, 3) := by decide +kernel
theorem dX5_prove_18 : decode cX5_prove 18 = .ok (.iconst (-1), 1) := by decide +kernel
theorem dX5_prove_19 : decode cX5_prove 19 = .ok (.ireturn, 1) := by decide +kernel
theorem dX5_prove_20 : decode cX5_prove 20 = .ok (.aload_n 0, 1) := by decide +kernel
theorem dX5_prove_21 : decode cX5_prove 21 = .ok (.getfield 19, 3) := by decide +kernel
theorem dX5_prove_24 : decode cX5_prove 24 = .ok (.aload_n 0, 1) := by decide +kernel
theorem dX5_prove_25 : decode cX5_prove 25 = .ok (.getfield 10, 3) := by decide +kernel
theorem dX5_prove_28 : decode cX5_prove 28 = .ok (.invokevirtual 79, 3) := by decide +kernel
theorem dX5_prove_31 : decode cX5_prove 31 = .ok (.iconst 0, 1) := by decide +kernel
theorem dX5_prove_32 : decode cX5_prove 32 = .ok (.istore_n 3, 1) := by decide +kernel
theorem dX5_prove_33 : decode cX5_prove 33 = .ok (.iload_n 3, 1) := by decide +kernel
theorem dX5_prove_34 : decode cX5_prove 34 = .ok (.iload_n 2, 1) := by decide +kernel
theorem dX5_prove_35 : decode cX5_prove 35 = .ok (.if_icmp .ge 52, 3) := by decide +kernel
theorem dX5_prove_38 : decode cX5_prove 38 = .ok (.aload_n 0, 1) := by decide +kernel
theorem dX5_prove_39 : decode cX5_prove 39 = .ok (.getfield 19, 3) := by decide +kernel
theorem dX5_prove_42 : decode cX5_prove 42 = .ok (.invokevirtual 149, 3) := by decide +kernel
theorem dX5_prove_45 : decode cX5_prove 45 = .ok (.iconst 0, 1) := by decide +kernel
theorem dX5_prove_46 : decode cX5_prove 46 = .ok (.istore 4, 2) := by decide +kernel
theorem dX5_prove_48 : decode cX5_prove 48 = .ok (.iload 4, 2) := by decide +kernel
theorem dX5_prove_50 : decode cX5_prove 50 = .ok (.iconst 3, 1) := by decide +kernel
theorem dX5_prove_51 : decode cX5_prove 51 = .ok (.if_icmp .ge 30, 3) := by decide +kernel
theorem dX5_prove_54 : decode cX5_prove 54 = .ok (.aload_n 0, 1) := by decide +kernel
theorem dX5_prove_55 : decode cX5_prove 55 = .ok (.getfield 51, 3) := by decide +kernel
theorem dX5_prove_58 : decode cX5_prove 58 = .ok (.iload_n 3, 1) := by decide +kernel
theorem dX5_prove_59 : decode cX5_prove 59 = .ok (.iconst 3, 1) := by decide +kernel
theorem dX5_prove_60 : decode cX5_prove 60 = .ok (.imul, 1) := by decide +kernel
theorem dX5_prove_61 : decode cX5_prove 61 = .ok (.iload 4, 2) := by decide +kernel
theorem dX5_prove_63 : decode cX5_prove 63 = .ok (.iadd, 1) := by decide +kernel
theorem dX5_prove_64 : decode cX5_prove 64 = .ok (.aload_n 0, 1) := by decide +kernel
theorem dX5_prove_65 : decode cX5_prove 65 = .ok (.getfield 19, 3) := by decide +kernel
theorem dX5_prove_68 : decode cX5_prove 68 = .ok (.iload_n 1, 1) := by decide +kernel
theorem dX5_prove_69 : decode cX5_prove 69 = .ok (.iload 4, 2) := by decide +kernel
theorem dX5_prove_71 : decode cX5_prove 71 = .ok (.invokevirtual 246, 3) := by decide +kernel
theorem dX5_prove_74 : decode cX5_prove 74 = .ok (.iastore, 1) := by decide +kernel
theorem dX5_prove_75 : decode cX5_prove 75 = .ok (.iinc 4 1, 3) := by decide +kernel
theorem dX5_prove_78 : decode cX5_prove 78 = .ok (.goto (-30), 3) := by decide +kernel
theorem dX5_prove_81 : decode cX5_prove 81 = .ok (.iinc 3 1, 3) := by decide +kernel
theorem dX5_prove_84 : decode cX5_prove 84 = .ok (.goto (-51), 3) := by decide +kernel
theorem dX5_prove_87 : decode cX5_prove 87 = .ok (.aload_n 0, 1) := by decide +kernel
theorem dX5_prove_88 : decode cX5_prove 88 = .ok (.iload_n 2, 1) := by decide +kernel
theorem dX5_prove_89 : decode cX5_prove 89 = .ok (.putfield 83, 3) := by decide +kernel
theorem dX5_prove_92 : decode cX5_prove 92 = .ok (.iload_n 2, 1) := by decide +kernel
theorem dX5_prove_93 : decode cX5_prove 93 = .ok (.ireturn, 1) := by decide +kernel
set_option maxRecDepth 20000 in
theorem ggX5_row_X5_isRowPart : GoodIn wsX5_row wsX5_isRowPart := goodIn_r _ [6, 7, 8, 9, 5, 10, 11, 12, 13, 14, 15, 16, 17, 18, 19, 20, 21] (by decide +kernel) (by decide +kernel)
set_option maxRecDepth 20000 in
theorem gX5_row_X5_isRowPart : GoodIn wsX5_row (wsV RX5 249 RX5 yX5_isRowPart wsX5_isRowPart) := goodIn_app (goodIn_of _ (by decide +kernel)) ggX5_row_X5_isRowPart
theorem dX5_row_0 : decode cX5_row 0 = .ok (.aload_n 0, 1) := by decide +kernel
theorem dX5_row_1 : decode cX5_row 1 = .ok (.iload_n 1, 1) := by decide +kernel
theorem dX5_row_2 : decode cX5_row 2 = .ok (.iload_n 2, 1) := by decide +kernel
theorem dX5_row_3 : decode cX5_row 3 = .ok (.invokevirtual 249, 3) := by decide +kernel
theorem dX5_row_6 : decode cX5_row 6 = .ok (.ifCond .eq 16, 3) := by decide +kernel
theorem dX5_row_9 : decode cX5_row 9 = .ok (.aload_n 0, 1) := by decide +kernel
theorem dX5_row_10 : decode cX5_row 10 = .ok (.getfield 51, 3) := by decide +kernel
theorem dX5_row_13 : decode cX5_row 13 = .ok (.iload_n 1, 1) := by decide +kernel
theorem dX5_row_14 : decode cX5_row 14 = .ok (.iconst 3, 1) := by decide +kernel
theorem dX5_row_15 : decode cX5_row 15 = .ok (.imul, 1) := by decide +kernel
theorem dX5_row_16 : decode cX5_row 16 = .ok (.iload_n 2, 1) := by decide +kernel
theorem dX5_row_17 : decode cX5_row 17 = .ok (.iadd, 1) := by decide +kernel
theorem dX5_row_18 : decode cX5_row 18 = .ok (.iaload, 1) := by decide +kernel
theorem dX5_row_19 : decode cX5_row 19 = .ok (.goto 5, 3) := by decide +kernel
theorem dX5_row_22 : decode cX5_row 22 = .ok (.bipush (-9), 2) := by decide +kernel
theorem dX5_row_24 : decode cX5_row 24 = .ok (.ireturn, 1) := by decide +kernel
set_option maxRecDepth 20000 in
theorem ggX5_alterRow_X5_isRowPart : GoodIn wsX5_alterRow wsX5_isRowPart := goodIn_r _ [6, 7, 8, 9, 5, 10, 11, 12, 13, 14, 15, 16, 17, 18, 19, 20, 21] (by decide +kernel) (by decide +kernel)
set_option maxRecDepth 20000 in
theorem gX5_alterRow_X5_isRowPart : GoodIn wsX5_alterRow (wsV RX5 249 RX5 yX5_isRowPart wsX5_isRowPart) := goodIn_app (goodIn_of _ (by decide +kernel)) ggX5_alterRow_X5_isRowPart
theorem dX5_alterRow_0 : decode cX5_alterRow 0 = .ok (.aload_n 0, 1) := by decide +kernel
theorem dX5_alterRow_1 : decode cX5_alterRow 1 = .ok (.iload_n 1, 1) := by decide +kernel
theorem dX5_alterRow_2 : decode cX5_alterRow 2 = .ok (.iload_n 2, 1) := by decide +kernel
theorem dX5_alterRow_3 : decode cX5_alterRow 3 = .ok (.invokevirtual 249, 3) := by decide +kernel
theorem dX5_alterRow_6 : decode cX5_alterRow 6 = .ok (.ifCond .ne 6, 3) := by decide +kernel
theorem dX5_alterRow_9 : decode cX5_alterRow 9 = .ok (.bipush (-9), 2) := by decide +kernel
theorem dX5_alterRow_11 : decode cX5_alterRow 11 = .ok (.ireturn, 1) := by decide +kernel
theorem dX5_alterRow_12 : decode cX5_alterRow 12 = .ok (.aload_n 0, 1) := by decide +kernel
theorem dX5_alterRow_13 : decode cX5_alterRow 13 = .ok (.getfield 51, 3) := by decide +kernel
theorem dX5_alterRow_16 : decode cX5_alterRow 16 = .ok (.iload_n 1, 1) := by decide +kernel
theorem dX5_alterRow_17 : decode cX5_alterRow 17 = .ok (.iconst 3, 1) := by decide +kernel
theorem dX5_alterRow_18 : decode cX5_alterRow 18 = .ok (.imul, 1) := by decide +kernel
theorem dX5_alterRow_19 : decode cX5_alterRow 19 = .ok (.iload_n 2, 1) := by decide +kernel
theorem dX5_alterRow_20 : decode cX5_alterRow 20 = .ok (.iadd, 1) := by decide +kernel
theorem dX5_alterRow_21 : decode cX5_alterRow 21 = .ok (.iaload, 1) := by decide +kernel
theorem dX5_alterRow_22 : decode cX5_alterRow 22 = .ok (.istore 4, 2) := by decide +kernel
theorem dX5_alterRow_24 : decode cX5_alterRow 24 = .ok (.aload_n 0, 1) := by decide +kernel
theorem dX5_alterRow_25 : decode cX5_alterRow 25 = .ok (.getfield 51, 3) := by decide +kernel
theorem dX5_alterRow_28 : decode cX5_alterRow 28 = .ok (.iload_n 1, 1) := by decide +kernel
theorem dX5_alterRow_29 : decode cX5_alterRow 29 = .ok (.iconst 3, 1) := by decide +kernel
theorem dX5_alterRow_30 : decode cX5_alterRow 30 = .ok (.imul, 1) := by decide +kernel
theorem dX5_alterRow_31 : decode cX5_alterRow 31 = .ok (.iload_n 2, 1) := by decide +kernel
theorem dX5_alterRow_32 : decode cX5_alterRow 32 = .ok (.iadd, 1) := by decide +kernel
theorem dX5_alterRow_33 : decode cX5_alterRow 33 = .ok (.iload_n 3, 1) := by decide +kernel
theorem dX5_alterRow_34 : decode cX5_alterRow 34 = .ok (.iastore, 1) := by decide +kernel
theorem dX5_alterRow_35 : decode cX5_alterRow 35 = .ok (.iload 4, 2) := by decide +kernel
theorem dX5_alterRow_37 : decode cX5_alterRow 37 = .ok (.ireturn, 1) := by decide +kernel
set_option maxRecDepth 20000 in
theorem ggX5_judge_X5_isMark : GoodIn wsX5_judge wsX5_isMark := goodIn_r _ [9, 2, 10, 11, 12, 8, 13, 84, 85, 86, 87, 88, 89, 90, 91, 92, 93, 94, 95, 96, 97, 98, 99, 100, 101, 102, 103, 104] (by decide +kernel) (by decide +kernel)
set_option maxRecDepth 20000 in
theorem gX5_judge_X5_isMark : GoodIn wsX5_judge (wsV RX5 111 RX5 yX5_isMark wsX5_isMark) := goodIn_app (goodIn_of _ (by decide +kernel)) ggX5_judge_X5_isMark
set_option maxRecDepth 20000 in
theorem ggX5_judge_X1_become : GoodIn wsX5_judge wsX1_become := goodIn_r _ [18, 19, 20, 21, 22, 23, 24, 25, 26, 27, 28, 29, 30, 31, 95, 96, 97, 98, 99, 100, 101, 102, 103, 104] (by decide +kernel) (by decide +kernel)
set_option maxRecDepth 20000 in
theorem gX5_judge_X1_become : GoodIn wsX5_judge (wsV RX5 79 RX1 yX1_become wsX1_become) := goodIn_app (goodIn_of _ (by decide +kernel)) ggX5_judge_X1_become
set_option maxRecDepth 20000 in
theorem ggX5_judge_X1_passHour : GoodIn wsX5_judge wsX1_passHour := goodIn_r _ [35, 36, 27, 28, 30, 37, 38, 39, 17, 40, 41, 42, 43, 44, 45, 46, 47, 48, 29, 26, 25, 49, 50, 51, 52, 53, 54, 55, 56, 24, 19, 57, 58, 59, 60, 61, 62, 63, 64, 65, 8, 66, 67, 68, 69, 70, 71, 72, 73, 74, 75, 76, 77, 78, 79, 95, 96, 97, 98, 99, 100, 101, 102, 103, 104] (by decide +kernel) (by decide +kernel)
set_option maxRecDepth 20000 in
theorem gX5_judge_X1_passHour : GoodIn wsX5_judge (wsV RX5 149 RX1 yX1_passHour wsX1_passHour) := goodIn_app (goodIn_of _ (by decide +kernel)) ggX5_judge_X1_passHour
set_option maxRecDepth 20000 in
theorem ggX5_judge_X1_rowPart : GoodIn wsX5_judge wsX1_rowPart := goodIn_r _ [83, 26, 25, 36, 65, 8, 66, 95, 96, 97, 98, 99, 100, 101, 102, 103, 104] (by decide +kernel) (by decide +kernel)
set_option maxRecDepth 20000 in
theorem gX5_judge_X1_rowPart : GoodIn wsX5_judge (wsV RX5 246 RX1 yX1_rowPart wsX1_rowPart) := goodIn_app (goodIn_of _ (by decide +kernel)) ggX5_judge_X1_rowPart
theorem dX5_judge_0 : decode cX5_judge 0 = .ok (.aload_n 0, 1) := by decide +kernel
theorem dX5_judge_1 : decode cX5_judge 1 = .ok (.iload_n 1, 1) := by decide +kernel
theorem dX5_judge_2 : decode cX5_judge 2 = .ok (.invokevirtual 111, 3) := by decide +kernel
theorem dX5_judge_5 : decode cX5_judge 5 = .ok (.ifCond .ne 5, 3) := by decide +kernel
theorem dX5_judge_8 : decode cX5_judge 8 = .ok (.iconst (-1), 1) := by decide +kernel
theorem dX5_judge_9 : decode cX5_judge 9 = .ok (.ireturn, 1) := by decide +kernel
theorem dX5_judge_10 : decode cX5_judge 10 = .ok (.aload_n 0, 1) := by decide +kernel
theorem dX5_judge_11 : decode cX5_judge 11 = .ok (.getfield 19, 3) := by decide +kernel
theorem dX5_judge_14 : decode cX5_judge 14 = .ok (.aload_n 0, 1) := by decide +kernel
theorem dX5_judge_15 : decode cX5_judge 15 = .ok (.getfield 10, 3) := by decide +kernel
theorem dX5_judge_18 : decode cX5_judge 18 = .ok (.invokevirtual 79, 3) := by decide +kernel
theorem dX5_judge_21 : decode cX5_judge 21 = .ok (.iconst 0, 1) := by decide +kernel
theorem dX5_judge_22 : decode cX5_judge 22 = .ok (.istore_n 2, 1) := by decide +kernel
theorem dX5_judge_23 : decode cX5_judge 23 = .ok (.iload_n 2, 1) := by decide +kernel
theorem dX5_judge_24 : decode cX5_judge 24 = .ok (.aload_n 0, 1) := by decide +kernel
theorem dX5_judge_25 : decode cX5_judge 25 = .ok (.getfield 83, 3) := by decide +kernel
theorem dX5_judge_28 : decode cX5_judge 28 = .ok (.if_icmp .ge 55, 3) := by decide +kernel
theorem dX5_judge_31 : decode cX5_judge 31 = .ok (.aload_n 0, 1) := by decide +kernel
theorem dX5_judge_32 : decode cX5_judge 32 = .ok (.getfield 19, 3) := by decide +kernel
theorem dX5_judge_35 : decode cX5_judge 35 = .ok (.invokevirtual 149, 3) := by decide +kernel
theorem dX5_judge_38 : decode cX5_judge 38 = .ok (.iconst 0, 1) := by decide +kernel
theorem dX5_judge_39 : decode cX5_judge 39 = .ok (.istore_n 3, 1) := by decide +kernel
theorem dX5_judge_40 : decode cX5_judge 40 = .ok (.iload_n 3, 1) := by decide +kernel
theorem dX5_judge_41 : decode cX5_judge 41 = .ok (.iconst 3, 1) := by decide +kernel
theorem dX5_judge_42 : decode cX5_judge 42 = .ok (.if_icmp .ge 35, 3) := by decide +kernel
theorem dX5_judge_45 : decode cX5_judge 45 = .ok (.aload_n 0, 1) := by decide +kernel
theorem dX5_judge_46 : decode cX5_judge 46 = .ok (.getfield 51, 3) := by decide +kernel
theorem dX5_judge_49 : decode cX5_judge 49 = .ok (.iload_n 2, 1) := by decide +kernel
theorem dX5_judge_50 : decode cX5_judge 50 = .ok (.iconst 3, 1) := by decide +kernel
theorem dX5_judge_51 : decode cX5_judge 51 = .ok (.imul, 1) := by decide +kernel
theorem dX5_judge_52 : decode cX5_judge 52 = .ok (.iload_n 3, 1) := by decide +kernel
theorem dX5_judge_53 : decode cX5_judge 53 = .ok (.iadd, 1) := by decide +kernel
theorem dX5_judge_54 : decode cX5_judge 54 = .ok (.iaload, 1) := by decide +kernel
theorem dX5_judge_55 : decode cX5_judge 55 = .ok (.aload_n 0, 1) := by decide +kernel
theorem dX5_judge_56 : decode cX5_judge 56 = .ok (.getfield 19, 3) := by decide +kernel
theorem dX5_judge_59 : decode cX5_judge 59 = .ok (.iload_n 1, 1) := by decide +kernel
theorem dX5_judge_60 : decode cX5_judge 60 = .ok (.iload_n 3, 1) := by decide +kernel
theorem dX5_judge_61 : decode cX5_judge 61 = .ok (.invokevirtual 246, 3) := by decide +kernel
theorem dX5_judge_64 : decode cX5_judge 64 = .ok (.if_icmp .eq 7, 3) := by decide +kernel
theorem dX5_judge_67 : decode cX5_judge 67 = .ok (.iload_n 2, 1) := by decide +kernel
theorem dX5_judge_68 : decode cX5_judge 68 = .ok (.iconst 1, 1) := by decide +kernel
theorem dX5_judge_69 : decode cX5_judge 69 = .ok (.iadd, 1) := by decide +kernel
theorem dX5_judge_70 : decode cX5_judge 70 = .ok (.ireturn, 1) := by decide +kernel
theorem dX5_judge_71 : decode cX5_judge 71 = .ok (.iinc 3 1, 3) := by decide +kernel
theorem dX5_judge_74 : decode cX5_judge 74 = .ok (.goto (-34), 3) := by decide +kernel
theorem dX5_judge_77 : decode cX5_judge 77 = .ok (.iinc 2 1, 3) := by decide +kernel
theorem dX5_judge_80 : decode cX5_judge 80 = .ok (.goto (-57), 3) := by decide +kernel
theorem dX5_judge_83 : decode cX5_judge 83 = .ok (.iconst 0, 1) := by decide +kernel
theorem dX5_judge_84 : decode cX5_judge 84 = .ok (.ireturn, 1) := by decide +kernel
set_option maxRecDepth 20000 in
theorem ggX5_minds_X5_isSheet : GoodIn wsX5_minds wsX5_isSheet := goodIn_r _ [11, 12, 13, 10, 14] (by decide +kernel) (by decide +kernel)
set_option maxRecDepth 20000 in
theorem gX5_minds_X5_isSheet : GoodIn wsX5_minds (va_wsS RX5 209 yX5_isSheet wsX5_isSheet) := goodIn_app (goodIn_of _ (by decide +kernel)) ggX5_minds_X5_isSheet
set_option maxRecDepth 20000 in
theorem ggX5_minds_X5_isMark : GoodIn wsX5_minds wsX5_isMark := goodIn_r _ [18, 1, 2, 12, 13, 10, 14, 29, 30, 31, 32, 33, 34, 35, 36, 37, 38, 39, 40, 41, 42, 43, 44, 45, 46, 47, 48, 49] (by decide +kernel) (by decide +kernel)
set_option maxRecDepth 20000 in
theorem gX5_minds_X5_isMark : GoodIn wsX5_minds (wsV RX5 111 RX5 yX5_isMark wsX5_isMark) := goodIn_app (goodIn_of _ (by decide +kernel)) ggX5_minds_X5_isMark
set_option maxRecDepth 20000 in
theorem ggX5_minds_X5_within : GoodIn wsX5_minds wsX5_within := goodIn_r _ [14] (by decide +kernel) (by decide +kernel)
set_option maxRecDepth 20000 in
theorem gX5_minds_X5_within : GoodIn wsX5_minds (va_wsS RX5 57 yX5_within wsX5_within) := goodIn_app (goodIn_of _ (by decide +kernel)) ggX5_minds_X5_within
set_option maxRecDepth 20000 in
theorem ggX5_minds_X5_heldInk : GoodIn wsX5_minds wsX5_heldInk := goodIn_r _ [21, 22, 23, 24, 25, 26, 27, 28] (by decide +kernel) (by decide +kernel)
set_option maxRecDepth 20000 in
theorem gX5_minds_X5_heldInk : GoodIn wsX5_minds (va_wsS RX5 252 yX5_heldInk wsX5_heldInk) := goodIn_app (goodIn_of _ (by decide +kernel)) ggX5_minds_X5_heldInk
theorem dX5_minds_0 : decode cX5_minds 0 = .ok (.iload_n 1, 1) := by decide +kernel
theorem dX5_minds_1 : decode cX5_minds 1 = .ok (.invokestatic 209, 3) := by decide +kernel
theorem dX5_minds_4 : decode cX5_minds 4 = .ok (.ifCond .eq 36, 3) := by decide +kernel
theorem dX5_minds_7 : decode cX5_minds 7 = .ok (.aload_n 0, 1) := by decide +kernel
theorem dX5_minds_8 : decode cX5_minds 8 = .ok (.iload_n 3, 1) := by decide +kernel
theorem dX5_minds_9 : decode cX5_minds 9 = .ok (.invokevirtual 111, 3) := by decide +kernel
theorem dX5_minds_12 : decode cX5_minds 12 = .ok (.ifCond .eq 28, 3) := by decide +kernel
theorem dX5_minds_15 : decode cX5_minds 15 = .ok (.iload 4, 2) := by decide +kernel
theorem dX5_minds_17 : decode cX5_minds 17 = .ok (.iconst 0, 1) := by decide +kernel
theorem dX5_minds_18 : decode cX5_minds 18 = .ok (.bipush 8, 2) := by decide +kernel
theorem dX5_minds_20 : decode cX5_minds 20 = .ok (.invokestatic 57, 3) := by decide +kernel
theorem dX5_minds_23 : decode cX5_minds 23 = .ok (.ifCond .eq 17, 3) := by decide +kernel
theorem dX5_minds_26 : decode cX5_minds 26 = .ok (.iload_n 3, 1) := by decide +kernel
theorem dX5_minds_27 : decode cX5_minds 27 = .ok (.iload 4, 2) := by decide +kernel
theorem dX5_minds_29 : decode cX5_minds 29 = .ok (.iadd, 1) := by decide +kernel
theorem dX5_minds_30 : decode cX5_minds 30 = .ok (.aload_n 0, 1) := by decide +kernel
theorem dX5_minds_31 : decode cX5_minds 31 = .ok (.getfield 10, 3) := by decide +kernel
theorem dX5_minds_34 : decode cX5_minds 34 = .ok (.getfield 86, 3) := by decide +kernel
theorem dX5_minds_37 : decode cX5_minds 37 = .ok (.if_icmp .le 5, 3) := by decide +kernel
theorem dX5_minds_40 : decode cX5_minds 40 = .ok (.iconst (-1), 1) := by decide +kernel
theorem dX5_minds_41 : decode cX5_minds 41 = .ok (.ireturn, 1) := by decide +kernel
theorem dX5_minds_42 : decode cX5_minds 42 = .ok (.aload_n 0, 1) := by decide +kernel
theorem dX5_minds_43 : decode cX5_minds 43 = .ok (.getfield 41, 3) := by decide +kernel
theorem dX5_minds_46 : decode cX5_minds 46 = .ok (.iload_n 1, 1) := by decide +kernel
theorem dX5_minds_47 : decode cX5_minds 47 = .ok (.aaload, 1) := by decide +kernel
theorem dX5_minds_48 : decode cX5_minds 48 = .ok (.astore 5, 2) := by decide +kernel
theorem dX5_minds_50 : decode cX5_minds 50 = .ok (.aload 5, 2) := by decide +kernel
theorem dX5_minds_52 : decode cX5_minds 52 = .ok (.getfield 212, 3) := by decide +kernel
theorem dX5_minds_55 : decode cX5_minds 55 = .ok (.iconst (-1), 1) := by decide +kernel
theorem dX5_minds_56 : decode cX5_minds 56 = .ok (.if_icmp .ne 6, 3) := by decide +kernel
theorem dX5_minds_59 : decode cX5_minds 59 = .ok (.bipush (-11), 2) := by decide +kernel
theorem dX5_minds_61 : decode cX5_minds 61 = .ok (.ireturn, 1) := by decide +kernel
theorem dX5_minds_62 : decode cX5_minds 62 = .ok (.aload 5, 2) := by decide +kernel
theorem dX5_minds_64 : decode cX5_minds 64 = .ok (.getfield 212, 3) := by decide +kernel
theorem dX5_minds_67 : decode cX5_minds 67 = .ok (.ifCond .eq 6, 3) := by decide +kernel
theorem dX5_minds_70 : decode cX5_minds 70 = .ok (.bipush (-13), 2) := by decide +kernel
theorem dX5_minds_72 : decode cX5_minds 72 = .ok (.ireturn, 1) := by decide +kernel
theorem dX5_minds_73 : decode cX5_minds 73 = .ok (.iload_n 2, 1) := by decide +kernel
theorem dX5_minds_74 : decode cX5_minds 74 = .ok (.iconst 0, 1) := by decide +kernel
theorem dX5_minds_75 : decode cX5_minds 75 = .ok (.aload 5, 2) := by decide +kernel
theorem dX5_minds_77 : decode cX5_minds 77 = .ok (.getfield 219, 3) := by decide +kernel
theorem dX5_minds_80 : decode cX5_minds 80 = .ok (.invokestatic 57, 3) := by decide +kernel
theorem dX5_minds_83 : decode cX5_minds 83 = .ok (.ifCond .eq 15, 3) := by decide +kernel
theorem dX5_minds_86 : decode cX5_minds 86 = .ok (.iload 4, 2) := by decide +kernel
theorem dX5_minds_88 : decode cX5_minds 88 = .ok (.aload 5, 2) := by decide +kernel
theorem dX5_minds_90 : decode cX5_minds 90 = .ok (.getfield 219, 3) := by decide +kernel
theorem dX5_minds_93 : decode cX5_minds 93 = .ok (.iload_n 2, 1) := by decide +kernel
theorem dX5_minds_94 : decode cX5_minds 94 = .ok (.isub, 1) := by decide +kernel
theorem dX5_minds_95 : decode cX5_minds 95 = .ok (.if_icmp .le 6, 3) := by decide +kernel
theorem dX5_minds_98 : decode cX5_minds 98 = .ok (.bipush (-12), 2) := by decide +kernel
theorem dX5_minds_100 : decode cX5_minds 100 = .ok (.ireturn, 1) := by decide +kernel
theorem dX5_minds_101 : decode cX5_minds 101 = .ok (.iconst 0, 1) := by decide +kernel
theorem dX5_minds_102 : decode cX5_minds 102 = .ok (.istore 6, 2) := by decide +kernel
theorem dX5_minds_104 : decode cX5_minds 104 = .ok (.iload 6, 2) := by decide +kernel
theorem dX5_minds_106 : decode cX5_minds 106 = .ok (.iload 4, 2) := by decide +kernel
theorem dX5_minds_108 : decode cX5_minds 108 = .ok (.if_icmp .ge 35, 3) := by decide +kernel
theorem dX5_minds_111 : decode cX5_minds 111 = .ok (.aload_n 0, 1) := by decide +kernel
theorem dX5_minds_112 : decode cX5_minds 112 = .ok (.getfield 10, 3) := by decide +kernel
theorem dX5_minds_115 : decode cX5_minds 115 = .ok (.getfield 117, 3) := by decide +kernel
theorem dX5_minds_118 : decode cX5_minds 118 = .ok (.iload_n 3, 1) := by decide +kernel
theorem dX5_minds_119 : decode cX5_minds 119 = .ok (.iload 6, 2) := by decide +kernel
theorem dX5_minds_121 : decode cX5_minds 121 = .ok (.iadd, 1) := by decide +kernel
theorem dX5_minds_122 : decode cX5_minds 122 = .ok (.aload 5, 2) := by decide +kernel
theorem dX5_minds_124 : decode cX5_minds 124 = .ok (.getfield 222, 3) := by decide +kernel
theorem dX5_minds_127 : decode cX5_minds 127 = .ok (.iload_n 2, 1) := by decide +kernel
theorem dX5_minds_128 : decode cX5_minds 128 = .ok (.iload 6, 2) := by decide +kernel
theorem dX5_minds_130 : decode cX5_minds 130 = .ok (.iadd, 1) := by decide +kernel
theorem dX5_minds_131 : decode cX5_minds 131 = .ok (.laload, 1) := by decide +kernel
theorem dX5_minds_132 : decode cX5_minds 132 = .ok (.l2i, 1) := by decide +kernel
theorem dX5_minds_133 : decode cX5_minds 133 = .ok (.invokestatic 252, 3) := by decide +kernel
theorem dX5_minds_136 : decode cX5_minds 136 = .ok (.iastore, 1) := by decide +kernel
theorem dX5_minds_137 : decode cX5_minds 137 = .ok (.iinc 6 1, 3) := by decide +kernel
theorem dX5_minds_140 : decode cX5_minds 140 = .ok (.goto (-36), 3) := by decide +kernel
theorem dX5_minds_143 : decode cX5_minds 143 = .ok (.iload 4, 2) := by decide +kernel
theorem dX5_minds_145 : decode cX5_minds 145 = .ok (.ireturn, 1) := by decide +kernel
set_option maxRecDepth 20000 in
theorem ggX5_sheet_X5_isSheet : GoodIn wsX5_sheet wsX5_isSheet := goodIn_r _ [5, 6, 7, 4, 8] (by decide +kernel) (by decide +kernel)
set_option maxRecDepth 20000 in
theorem gX5_sheet_X5_isSheet : GoodIn wsX5_sheet (va_wsS RX5 209 yX5_isSheet wsX5_isSheet) := goodIn_app (goodIn_of _ (by decide +kernel)) ggX5_sheet_X5_isSheet
set_option maxRecDepth 20000 in
theorem ggX5_sheet_X5_within : GoodIn wsX5_sheet wsX5_within := goodIn_r _ [8] (by decide +kernel) (by decide +kernel)
set_option maxRecDepth 20000 in
theorem gX5_sheet_X5_within : GoodIn wsX5_sheet (va_wsS RX5 57 yX5_within wsX5_within) := goodIn_app (goodIn_of _ (by decide +kernel)) ggX5_sheet_X5_within
set_option maxRecDepth 20000 in
theorem ggX5_sheet_X2_become : GoodIn wsX5_sheet wsX2_become := goodIn_r _ [13, 14, 15, 16, 28, 29, 30] (by decide +kernel) (by decide +kernel)
set_option maxRecDepth 20000 in
theorem gX5_sheet_X2_become : GoodIn wsX5_sheet (wsV RX5 255 RX2 yX2_become wsX2_become) := goodIn_app (goodIn_of _ (by decide +kernel)) ggX5_sheet_X2_become
theorem dX5_sheet_0 : decode cX5_sheet 0 = .ok (.iload_n 1, 1) := by decide +kernel
theorem dX5_sheet_1 : decode cX5_sheet 1 = .ok (.invokestatic 209, 3) := by decide +kernel
theorem dX5_sheet_4 : decode cX5_sheet 4 = .ok (.ifCond .eq 12, 3) := by decide +kernel
theorem dX5_sheet_7 : decode cX5_sheet 7 = .ok (.iload_n 2, 1) := by decide +kernel
theorem dX5_sheet_8 : decode cX5_sheet 8 = .ok (.iconst (-1), 1) := by decide +kernel
theorem dX5_sheet_9 : decode cX5_sheet 9 = .ok (.iconst 3, 1) := by decide +kernel
theorem dX5_sheet_10 : decode cX5_sheet 10 = .ok (.invokestatic 57, 3) := by decide +kernel
theorem dX5_sheet_13 : decode cX5_sheet 13 = .ok (.ifCond .ne 5, 3) := by decide +kernel
theorem dX5_sheet_16 : decode cX5_sheet 16 = .ok (.iconst (-1), 1) := by decide +kernel
theorem dX5_sheet_17 : decode cX5_sheet 17 = .ok (.ireturn, 1) := by decide +kernel
theorem dX5_sheet_18 : decode cX5_sheet 18 = .ok (.iload_n 2, 1) := by decide +kernel
theorem dX5_sheet_19 : decode cX5_sheet 19 = .ok (.iconst (-1), 1) := by decide +kernel
theorem dX5_sheet_20 : decode cX5_sheet 20 = .ok (.if_icmp .ne 16, 3) := by decide +kernel
theorem dX5_sheet_23 : decode cX5_sheet 23 = .ok (.aload_n 0, 1) := by decide +kernel
theorem dX5_sheet_24 : decode cX5_sheet 24 = .ok (.getfield 41, 3) := by decide +kernel
theorem dX5_sheet_27 : decode cX5_sheet 27 = .ok (.iload_n 1, 1) := by decide +kernel
theorem dX5_sheet_28 : decode cX5_sheet 28 = .ok (.aaload, 1) := by decide +kernel
theorem dX5_sheet_29 : decode cX5_sheet 29 = .ok (.iconst (-1), 1) := by decide +kernel
theorem dX5_sheet_30 : decode cX5_sheet 30 = .ok (.iconst 0, 1) := by decide +kernel
theorem dX5_sheet_31 : decode cX5_sheet 31 = .ok (.invokevirtual 255, 3) := by decide +kernel
theorem dX5_sheet_34 : decode cX5_sheet 34 = .ok (.iconst 1, 1) := by decide +kernel
theorem dX5_sheet_35 : decode cX5_sheet 35 = .ok (.ireturn, 1) := by decide +kernel
theorem dX5_sheet_36 : decode cX5_sheet 36 = .ok (.iload_n 3, 1) := by decide +kernel
theorem dX5_sheet_37 : decode cX5_sheet 37 = .ok (.bipush 40, 2) := by decide +kernel
theorem dX5_sheet_39 : decode cX5_sheet 39 = .ok (.if_icmp .le 5, 3) := by decide +kernel
theorem dX5_sheet_42 : decode cX5_sheet 42 = .ok (.iconst (-1), 1) := by decide +kernel
theorem dX5_sheet_43 : decode cX5_sheet 43 = .ok (.ireturn, 1) := by decide +kernel
theorem dX5_sheet_44 : decode cX5_sheet 44 = .ok (.iload_n 3, 1) := by decide +kernel
theorem dX5_sheet_45 : decode cX5_sheet 45 = .ok (.ifCond .ge 6, 3) := by decide +kernel
theorem dX5_sheet_48 : decode cX5_sheet 48 = .ok (.bipush (-14), 2) := by decide +kernel
theorem dX5_sheet_50 : decode cX5_sheet 50 = .ok (.ireturn, 1) := by decide +kernel
theorem dX5_sheet_51 : decode cX5_sheet 51 = .ok (.aload_n 0, 1) := by decide +kernel
theorem dX5_sheet_52 : decode cX5_sheet 52 = .ok (.getfield 41, 3) := by decide +kernel
theorem dX5_sheet_55 : decode cX5_sheet 55 = .ok (.iload_n 1, 1) := by decide +kernel
theorem dX5_sheet_56 : decode cX5_sheet 56 = .ok (.aaload, 1) := by decide +kernel
theorem dX5_sheet_57 : decode cX5_sheet 57 = .ok (.iload_n 2, 1) := by decide +kernel
theorem dX5_sheet_58 : decode cX5_sheet 58 = .ok (.iload_n 3, 1) := by decide +kernel
theorem dX5_sheet_59 : decode cX5_sheet 59 = .ok (.invokevirtual 255, 3) := by decide +kernel
theorem dX5_sheet_62 : decode cX5_sheet 62 = .ok (.iconst 1, 1) := by decide +kernel
theorem dX5_sheet_63 : decode cX5_sheet 63 = .ok (.ireturn, 1) := by decide +kernel
set_option maxRecDepth 20000 in
theorem ggX5_put_X5_isSheet : GoodIn wsX5_put wsX5_isSheet := goodIn_r _ [8, 9, 10, 7, 11] (by decide +kernel) (by decide +kernel)
set_option maxRecDepth 20000 in
theorem gX5_put_X5_isSheet : GoodIn wsX5_put (va_wsS RX5 209 yX5_isSheet wsX5_isSheet) := goodIn_app (goodIn_of _ (by decide +kernel)) ggX5_put_X5_isSheet
set_option maxRecDepth 20000 in
theorem ggX5_put_X5_within : GoodIn wsX5_put wsX5_within := goodIn_r _ [11] (by decide +kernel) (by decide +kernel)
set_option maxRecDepth 20000 in
theorem gX5_put_X5_within : GoodIn wsX5_put (va_wsS RX5 57 yX5_within wsX5_within) := goodIn_app (goodIn_of _ (by decide +kernel)) ggX5_put_X5_within
set_option maxRecDepth 20000 in
theorem ggX5_put_X2_narrowed : GoodIn wsX5_put wsX2_narrowed := goodIn_r _ [16, 17, 29, 30, 31] (by decide +kernel) (by decide +kernel)
set_option maxRecDepth 20000 in
theorem gX5_put_X2_narrowed : GoodIn wsX5_put (wsV RX5 258 RX2 yX2_narrowed wsX2_narrowed) := goodIn_app (goodIn_of _ (by decide +kernel)) ggX5_put_X2_narrowed
theorem dX5_put_0 : decode cX5_put 0 = .ok (.iload_n 1, 1) := by decide +kernel
theorem dX5_put_1 : decode cX5_put 1 = .ok (.invokestatic 209, 3) := by decide +kernel
theorem dX5_put_4 : decode cX5_put 4 = .ok (.ifCond .ne 5, 3) := by decide +kernel
theorem dX5_put_7 : decode cX5_put 7 = .ok (.iconst (-1), 1) := by decide +kernel
theorem dX5_put_8 : decode cX5_put 8 = .ok (.ireturn, 1) := by decide +kernel
theorem dX5_put_9 : decode cX5_put 9 = .ok (.aload_n 0, 1) := by decide +kernel
theorem dX5_put_10 : decode cX5_put 10 = .ok (.getfield 41, 3) := by decide +kernel
theorem dX5_put_13 : decode cX5_put 13 = .ok (.iload_n 1, 1) := by decide +kernel
theorem dX5_put_14 : decode cX5_put 14 = .ok (.aaload, 1) := by decide +kernel
theorem dX5_put_15 : decode cX5_put 15 = .ok (.astore 4, 2) := by decide +kernel
theorem dX5_put_17 : decode cX5_put 17 = .ok (.aload 4, 2) := by decide +kernel
theorem dX5_put_19 : decode cX5_put 19 = .ok (.getfield 212, 3) := by decide +kernel
theorem dX5_put_22 : decode cX5_put 22 = .ok (.iconst (-1), 1) := by decide +kernel
theorem dX5_put_23 : decode cX5_put 23 = .ok (.if_icmp .ne 6, 3) := by decide +kernel
theorem dX5_put_26 : decode cX5_put 26 = .ok (.bipush (-11), 2) := by decide +kernel
theorem dX5_put_28 : decode cX5_put 28 = .ok (.ireturn, 1) := by decide +kernel
theorem dX5_put_29 : decode cX5_put 29 = .ok (.iload_n 2, 1) := by decide +kernel
theorem dX5_put_30 : decode cX5_put 30 = .ok (.iconst 0, 1) := by decide +kernel
theorem dX5_put_31 : decode cX5_put 31 = .ok (.aload 4, 2) := by decide +kernel
theorem dX5_put_33 : decode cX5_put 33 = .ok (.getfield 219, 3) := by decide +kernel
theorem dX5_put_36 : decode cX5_put 36 = .ok (.iconst 1, 1) := by decide +kernel
theorem dX5_put_37 : decode cX5_put 37 = .ok (.isub, 1) := by decide +kernel
theorem dX5_put_38 : decode cX5_put 38 = .ok (.invokestatic 57, 3) := by decide +kernel
theorem dX5_put_41 : decode cX5_put 41 = .ok (.ifCond .ne 6, 3) := by decide +kernel
theorem dX5_put_44 : decode cX5_put 44 = .ok (.bipush (-12), 2) := by decide +kernel
theorem dX5_put_46 : decode cX5_put 46 = .ok (.ireturn, 1) := by decide +kernel
theorem dX5_put_47 : decode cX5_put 47 = .ok (.aload 4, 2) := by decide +kernel
theorem dX5_put_49 : decode cX5_put 49 = .ok (.getfield 222, 3) := by decide +kernel
theorem dX5_put_52 : decode cX5_put 52 = .ok (.iload_n 2, 1) := by decide +kernel
theorem dX5_put_53 : decode cX5_put 53 = .ok (.aload 4, 2) := by decide +kernel
theorem dX5_put_55 : decode cX5_put 55 = .ok (.iload_n 3, 1) := by decide +kernel
theorem dX5_put_56 : decode cX5_put 56 = .ok (.invokevirtual 258, 3) := by decide +kernel
theorem dX5_put_59 : decode cX5_put 59 = .ok (.lastore, 1) := by decide +kernel
theorem dX5_put_60 : decode cX5_put 60 = .ok (.iconst 1, 1) := by decide +kernel
theorem dX5_put_61 : decode cX5_put 61 = .ok (.ireturn, 1) := by decide +kernel
set_option maxRecDepth 20000 in
theorem ggX5_item_X5_isSheet : GoodIn wsX5_item wsX5_isSheet := goodIn_r _ [8, 9, 10, 7, 11] (by decide +kernel) (by decide +kernel)
set_option maxRecDepth 20000 in
theorem gX5_item_X5_isSheet : GoodIn wsX5_item (va_wsS RX5 209 yX5_isSheet wsX5_isSheet) := goodIn_app (goodIn_of _ (by decide +kernel)) ggX5_item_X5_isSheet
set_option maxRecDepth 20000 in
theorem ggX5_item_X5_within : GoodIn wsX5_item wsX5_within := goodIn_r _ [11] (by decide +kernel) (by decide +kernel)
set_option maxRecDepth 20000 in
theorem gX5_item_X5_within : GoodIn wsX5_item (va_wsS RX5 57 yX5_within wsX5_within) := goodIn_app (goodIn_of _ (by decide +kernel)) ggX5_item_X5_within
theorem dX5_item_0 : decode cX5_item 0 = .ok (.iload_n 1, 1) := by decide +kernel
theorem dX5_item_1 : decode cX5_item 1 = .ok (.invokestatic 209, 3) := by decide +kernel
theorem dX5_item_4 : decode cX5_item 4 = .ok (.ifCond .eq 12, 3) := by decide +kernel
theorem dX5_item_7 : decode cX5_item 7 = .ok (.iload_n 2, 1) := by decide +kernel
theorem dX5_item_8 : decode cX5_item 8 = .ok (.iconst 0, 1) := by decide +kernel
theorem dX5_item_9 : decode cX5_item 9 = .ok (.iconst 3, 1) := by decide +kernel
theorem dX5_item_10 : decode cX5_item 10 = .ok (.invokestatic 57, 3) := by decide +kernel
theorem dX5_item_13 : decode cX5_item 13 = .ok (.ifCond .ne 5, 3) := by decide +kernel
theorem dX5_item_16 : decode cX5_item 16 = .ok (.iconst (-1), 1) := by decide +kernel
theorem dX5_item_17 : decode cX5_item 17 = .ok (.ireturn, 1) := by decide +kernel
theorem dX5_item_18 : decode cX5_item 18 = .ok (.aload_n 0, 1) := by decide +kernel
theorem dX5_item_19 : decode cX5_item 19 = .ok (.getfield 41, 3) := by decide +kernel
theorem dX5_item_22 : decode cX5_item 22 = .ok (.iload_n 1, 1) := by decide +kernel
theorem dX5_item_23 : decode cX5_item 23 = .ok (.aaload, 1) := by decide +kernel
theorem dX5_item_24 : decode cX5_item 24 = .ok (.astore 4, 2) := by decide +kernel
theorem dX5_item_26 : decode cX5_item 26 = .ok (.aload 4, 2) := by decide +kernel
theorem dX5_item_28 : decode cX5_item 28 = .ok (.getfield 212, 3) := by decide +kernel
theorem dX5_item_31 : decode cX5_item 31 = .ok (.iconst (-1), 1) := by decide +kernel
theorem dX5_item_32 : decode cX5_item 32 = .ok (.if_icmp .ne 6, 3) := by decide +kernel
theorem dX5_item_35 : decode cX5_item 35 = .ok (.bipush (-11), 2) := by decide +kernel
theorem dX5_item_37 : decode cX5_item 37 = .ok (.ireturn, 1) := by decide +kernel
theorem dX5_item_38 : decode cX5_item 38 = .ok (.aload 4, 2) := by decide +kernel
theorem dX5_item_40 : decode cX5_item 40 = .ok (.getfield 212, 3) := by decide +kernel
theorem dX5_item_43 : decode cX5_item 43 = .ok (.iload_n 2, 1) := by decide +kernel
theorem dX5_item_44 : decode cX5_item 44 = .ok (.if_icmp .eq 6, 3) := by decide +kernel
theorem dX5_item_47 : decode cX5_item 47 = .ok (.bipush (-13), 2) := by decide +kernel
theorem dX5_item_49 : decode cX5_item 49 = .ok (.ireturn, 1) := by decide +kernel
theorem dX5_item_50 : decode cX5_item 50 = .ok (.iload_n 3, 1) := by decide +kernel
theorem dX5_item_51 : decode cX5_item 51 = .ok (.iconst 0, 1) := by decide +kernel
theorem dX5_item_52 : decode cX5_item 52 = .ok (.aload 4, 2) := by decide +kernel
theorem dX5_item_54 : decode cX5_item 54 = .ok (.getfield 219, 3) := by decide +kernel
theorem dX5_item_57 : decode cX5_item 57 = .ok (.iconst 1, 1) := by decide +kernel
theorem dX5_item_58 : decode cX5_item 58 = .ok (.isub, 1) := by decide +kernel
theorem dX5_item_59 : decode cX5_item 59 = .ok (.invokestatic 57, 3) := by decide +kernel
theorem dX5_item_62 : decode cX5_item 62 = .ok (.ifCond .eq 14, 3) := by decide +kernel
theorem dX5_item_65 : decode cX5_item 65 = .ok (.aload 4, 2) := by decide +kernel
theorem dX5_item_67 : decode cX5_item 67 = .ok (.getfield 222, 3) := by decide +kernel
theorem dX5_item_70 : decode cX5_item 70 = .ok (.iload_n 3, 1) := by decide +kernel
theorem dX5_item_71 : decode cX5_item 71 = .ok (.laload, 1) := by decide +kernel
theorem dX5_item_72 : decode cX5_item 72 = .ok (.l2i, 1) := by decide +kernel
theorem dX5_item_73 : decode cX5_item 73 = .ok (.goto 5, 3) := by decide +kernel
theorem dX5_item_76 : decode cX5_item 76 = .ok (.bipush (-12), 2) := by decide +kernel
theorem dX5_item_78 : decode cX5_item 78 = .ok (.ireturn, 1) := by decide +kernel
set_option maxRecDepth 20000 in
theorem ggX5_shelf_X5_isShelf : GoodIn wsX5_shelf wsX5_isShelf := goodIn_r _ [7, 8, 9, 6, 10] (by decide +kernel) (by decide +kernel)
set_option maxRecDepth 20000 in
theorem gX5_shelf_X5_isShelf : GoodIn wsX5_shelf (va_wsS RX5 262 yX5_isShelf wsX5_isShelf) := goodIn_app (goodIn_of _ (by decide +kernel)) ggX5_shelf_X5_isShelf
set_option maxRecDepth 20000 in
theorem ggX5_shelf_X5_isMark : GoodIn wsX5_shelf wsX5_isMark := goodIn_r _ [14, 15, 16, 8, 9, 6, 10, 35, 36, 37, 38, 39, 40, 41, 42, 43, 44, 45, 50, 51, 52, 53, 54, 55, 56, 57, 58, 59] (by decide +kernel) (by decide +kernel)
set_option maxRecDepth 20000 in
theorem gX5_shelf_X5_isMark : GoodIn wsX5_shelf (wsV RX5 111 RX5 yX5_isMark wsX5_isMark) := goodIn_app (goodIn_of _ (by decide +kernel)) ggX5_shelf_X5_isMark
set_option maxRecDepth 20000 in
theorem ggX5_shelf_X3_holdMark : GoodIn wsX5_shelf wsX3_holdMark := goodIn_r _ [21, 22, 23, 46, 47, 48, 49] (by decide +kernel) (by decide +kernel)
set_option maxRecDepth 20000 in
theorem gX5_shelf_X3_holdMark : GoodIn wsX5_shelf (wsV RX5 265 RX3 yX3_holdMark wsX3_holdMark) := goodIn_app (goodIn_of _ (by decide +kernel)) ggX5_shelf_X3_holdMark
set_option maxRecDepth 20000 in
theorem ggX5_shelf_X5_isSheet : GoodIn wsX5_shelf wsX5_isSheet := goodIn_r _ [26, 8, 9, 6, 10] (by decide +kernel) (by decide +kernel)
set_option maxRecDepth 20000 in
theorem gX5_shelf_X5_isSheet : GoodIn wsX5_shelf (va_wsS RX5 209 yX5_isSheet wsX5_isSheet) := goodIn_app (goodIn_of _ (by decide +kernel)) ggX5_shelf_X5_isSheet
set_option maxRecDepth 20000 in
theorem ggX5_shelf_X3_holdRow : GoodIn wsX5_shelf wsX3_holdRow := goodIn_r _ [30, 31, 22, 32, 33, 34, 60, 61, 62, 46, 47, 48, 49] (by decide +kernel) (by decide +kernel)
set_option maxRecDepth 20000 in
theorem gX5_shelf_X3_holdRow : GoodIn wsX5_shelf (wsV RX5 269 RX3 yX3_holdRow wsX3_holdRow) := goodIn_app (goodIn_of _ (by decide +kernel)) ggX5_shelf_X3_holdRow
theorem dX5_shelf_0 : decode cX5_shelf 0 = .ok (.iload_n 1, 1) := by decide +kernel
theorem dX5_shelf_1 : decode cX5_shelf 1 = .ok (.invokestatic 262, 3) := by decide +kernel
theorem dX5_shelf_4 : decode cX5_shelf 4 = .ok (.ifCond .ne 5, 3) := by decide +kernel
theorem dX5_shelf_7 : decode cX5_shelf 7 = .ok (.iconst (-1), 1) := by decide +kernel
theorem dX5_shelf_8 : decode cX5_shelf 8 = .ok (.ireturn, 1) := by decide +kernel
theorem dX5_shelf_9 : decode cX5_shelf 9 = .ok (.iload_n 2, 1) := by decide +kernel
theorem dX5_shelf_10 : decode cX5_shelf 10 = .ok (.tableswitch 86 0 2 #[26, 48, 74], 26) := by decide +kernel
theorem dX5_shelf_36 : decode cX5_shelf 36 = .ok (.aload_n 0, 1) := by decide +kernel
theorem dX5_shelf_37 : decode cX5_shelf 37 = .ok (.iload_n 3, 1) := by decide +kernel
theorem dX5_shelf_38 : decode cX5_shelf 38 = .ok (.invokevirtual 111, 3) := by decide +kernel
theorem dX5_shelf_41 : decode cX5_shelf 41 = .ok (.ifCond .ne 5, 3) := by decide +kernel
theorem dX5_shelf_44 : decode cX5_shelf 44 = .ok (.iconst (-1), 1) := by decide +kernel
theorem dX5_shelf_45 : decode cX5_shelf 45 = .ok (.ireturn, 1) := by decide +kernel
theorem dX5_shelf_46 : decode cX5_shelf 46 = .ok (.aload_n 0, 1) := by decide +kernel
theorem dX5_shelf_47 : decode cX5_shelf 47 = .ok (.getfield 47, 3) := by decide +kernel
theorem dX5_shelf_50 : decode cX5_shelf 50 = .ok (.iload_n 1, 1) := by decide +kernel
theorem dX5_shelf_51 : decode cX5_shelf 51 = .ok (.aaload, 1) := by decide +kernel
theorem dX5_shelf_52 : decode cX5_shelf 52 = .ok (.iload_n 3, 1) := by decide +kernel
theorem dX5_shelf_53 : decode cX5_shelf 53 = .ok (.invokevirtual 265, 3) := by decide +kernel
theorem dX5_shelf_56 : decode cX5_shelf 56 = .ok (.iconst 1, 1) := by decide +kernel
theorem dX5_shelf_57 : decode cX5_shelf 57 = .ok (.ireturn, 1) := by decide +kernel
theorem dX5_shelf_58 : decode cX5_shelf 58 = .ok (.iload_n 3, 1) := by decide +kernel
theorem dX5_shelf_59 : decode cX5_shelf 59 = .ok (.invokestatic 209, 3) := by decide +kernel
theorem dX5_shelf_62 : decode cX5_shelf 62 = .ok (.ifCond .ne 5, 3) := by decide +kernel
theorem dX5_shelf_65 : decode cX5_shelf 65 = .ok (.iconst (-1), 1) := by decide +kernel
theorem dX5_shelf_66 : decode cX5_shelf 66 = .ok (.ireturn, 1) := by decide +kernel
theorem dX5_shelf_67 : decode cX5_shelf 67 = .ok (.aload_n 0, 1) := by decide +kernel
theorem dX5_shelf_68 : decode cX5_shelf 68 = .ok (.getfield 47, 3) := by decide +kernel
theorem dX5_shelf_71 : decode cX5_shelf 71 = .ok (.iload_n 1, 1) := by decide +kernel
theorem dX5_shelf_72 : decode cX5_shelf 72 = .ok (.aaload, 1) := by decide +kernel
theorem dX5_shelf_73 : decode cX5_shelf 73 = .ok (.aload_n 0, 1) := by decide +kernel
theorem dX5_shelf_74 : decode cX5_shelf 74 = .ok (.getfield 41, 3) := by decide +kernel
theorem dX5_shelf_77 : decode cX5_shelf 77 = .ok (.iload_n 3, 1) := by decide +kernel
theorem dX5_shelf_78 : decode cX5_shelf 78 = .ok (.aaload, 1) := by decide +kernel
theorem dX5_shelf_79 : decode cX5_shelf 79 = .ok (.invokevirtual 269, 3) := by decide +kernel
theorem dX5_shelf_82 : decode cX5_shelf 82 = .ok (.iconst 1, 1) := by decide +kernel
theorem dX5_shelf_83 : decode cX5_shelf 83 = .ok (.ireturn, 1) := by decide +kernel
theorem dX5_shelf_84 : decode cX5_shelf 84 = .ok (.aload_n 0, 1) := by decide +kernel
theorem dX5_shelf_85 : decode cX5_shelf 85 = .ok (.getfield 47, 3) := by decide +kernel
theorem dX5_shelf_88 : decode cX5_shelf 88 = .ok (.iload_n 1, 1) := by decide +kernel
theorem dX5_shelf_89 : decode cX5_shelf 89 = .ok (.aaload, 1) := by decide +kernel
theorem dX5_shelf_90 : decode cX5_shelf 90 = .ok (.iconst 2, 1) := by decide +kernel
theorem dX5_shelf_91 : decode cX5_shelf 91 = .ok (.putfield 273, 3) := by decide +kernel
theorem dX5_shelf_94 : decode cX5_shelf 94 = .ok (.iconst 1, 1) := by decide +kernel
theorem dX5_shelf_95 : decode cX5_shelf 95 = .ok (.ireturn, 1) := by decide +kernel
theorem dX5_shelf_96 : decode cX5_shelf 96 = .ok (.iconst (-1), 1) := by decide +kernel
theorem dX5_shelf_97 : decode cX5_shelf 97 = .ok (.ireturn, 1) := by decide +kernel
set_option maxRecDepth 20000 in
theorem ggX5_taken_X5_within : GoodIn wsX5_taken wsX5_within := goodIn_r _ [10] (by decide +kernel) (by decide +kernel)
set_option maxRecDepth 20000 in
theorem gX5_taken_X5_within : GoodIn wsX5_taken (va_wsS RX5 57 yX5_within wsX5_within) := goodIn_app (goodIn_of _ (by decide +kernel)) ggX5_taken_X5_within
set_option maxRecDepth 20000 in
theorem ggX5_taken_X5_isShelf : GoodIn wsX5_taken wsX5_isShelf := goodIn_r _ [13, 7, 8, 9, 10] (by decide +kernel) (by decide +kernel)
set_option maxRecDepth 20000 in
theorem gX5_taken_X5_isShelf : GoodIn wsX5_taken (va_wsS RX5 262 yX5_isShelf wsX5_isShelf) := goodIn_app (goodIn_of _ (by decide +kernel)) ggX5_taken_X5_isShelf
set_option maxRecDepth 20000 in
theorem ggX5_taken_X5_isKind : GoodIn wsX5_taken wsX5_isKind := goodIn_r _ [16, 7, 8, 9, 10] (by decide +kernel) (by decide +kernel)
set_option maxRecDepth 20000 in
theorem gX5_taken_X5_isKind : GoodIn wsX5_taken (va_wsS RX5 98 yX5_isKind wsX5_isKind) := goodIn_app (goodIn_of _ (by decide +kernel)) ggX5_taken_X5_isKind
set_option maxRecDepth 20000 in
theorem ggX5_taken_X5_heldBy : GoodIn wsX5_taken wsX5_heldBy := goodIn_r _ [20, 21, 6, 22, 23, 24, 9, 25, 4, 26, 7, 8, 10, 42, 43, 44, 45, 31, 32, 33, 34, 35, 36, 37, 38, 39, 40, 41, 46, 47, 48, 49, 50, 51, 52, 53, 54, 55] (by decide +kernel) (by decide +kernel)
set_option maxRecDepth 20000 in
theorem gX5_taken_X5_heldBy : GoodIn wsX5_taken (wsV RX5 276 RX5 yX5_heldBy wsX5_heldBy) := goodIn_app (goodIn_of _ (by decide +kernel)) ggX5_taken_X5_heldBy
set_option maxRecDepth 20000 in
theorem ggX5_taken_X5_isUnder : GoodIn wsX5_taken wsX5_isUnder := goodIn_r _ [29, 30, 14, 15, 9, 16, 7, 8, 10] (by decide +kernel) (by decide +kernel)
set_option maxRecDepth 20000 in
theorem gX5_taken_X5_isUnder : GoodIn wsX5_taken (va_wsS RX5 285 yX5_isUnder wsX5_isUnder) := goodIn_app (goodIn_of _ (by decide +kernel)) ggX5_taken_X5_isUnder
theorem dX5_taken_0 : decode cX5_taken 0 = .ok (.iload_n 2, 1) := by decide +kernel
theorem dX5_taken_1 : decode cX5_taken 1 = .ok (.bipush 10, 2) := by decide +kernel
theorem dX5_taken_3 : decode cX5_taken 3 = .ok (.bipush 13, 2) := by decide +kernel
theorem dX5_taken_5 : decode cX5_taken 5 = .ok (.invokestatic 57, 3) := by decide +kernel
theorem dX5_taken_8 : decode cX5_taken 8 = .ok (.istore_n 3, 1) := by decide +kernel
theorem dX5_taken_9 : decode cX5_taken 9 = .ok (.iload_n 1, 1) := by decide +kernel
theorem dX5_taken_10 : decode cX5_taken 10 = .ok (.invokestatic 262, 3) := by decide +kernel
theorem dX5_taken_13 : decode cX5_taken 13 = .ok (.ifCond .eq 14, 3) := by decide +kernel
theorem dX5_taken_16 : decode cX5_taken 16 = .ok (.iload_n 2, 1) := by decide +kernel
theorem dX5_taken_17 : decode cX5_taken 17 = .ok (.invokestatic 98, 3) := by decide +kernel
theorem dX5_taken_20 : decode cX5_taken 20 = .ok (.ifCond .ne 9, 3) := by decide +kernel
theorem dX5_taken_23 : decode cX5_taken 23 = .ok (.iload_n 3, 1) := by decide +kernel
theorem dX5_taken_24 : decode cX5_taken 24 = .ok (.ifCond .ne 5, 3) := by decide +kernel
theorem dX5_taken_27 : decode cX5_taken 27 = .ok (.iconst (-1), 1) := by decide +kernel
theorem dX5_taken_28 : decode cX5_taken 28 = .ok (.ireturn, 1) := by decide +kernel
theorem dX5_taken_29 : decode cX5_taken 29 = .ok (.aload_n 0, 1) := by decide +kernel
theorem dX5_taken_30 : decode cX5_taken 30 = .ok (.getfield 47, 3) := by decide +kernel
theorem dX5_taken_33 : decode cX5_taken 33 = .ok (.iload_n 1, 1) := by decide +kernel
theorem dX5_taken_34 : decode cX5_taken 34 = .ok (.aaload, 1) := by decide +kernel
theorem dX5_taken_35 : decode cX5_taken 35 = .ok (.astore 4, 2) := by decide +kernel
theorem dX5_taken_37 : decode cX5_taken 37 = .ok (.aload_n 0, 1) := by decide +kernel
theorem dX5_taken_38 : decode cX5_taken 38 = .ok (.aload 4, 2) := by decide +kernel
theorem dX5_taken_40 : decode cX5_taken 40 = .ok (.invokevirtual 276, 3) := by decide +kernel
theorem dX5_taken_43 : decode cX5_taken 43 = .ok (.istore 5, 2) := by decide +kernel
theorem dX5_taken_45 : decode cX5_taken 45 = .ok (.iload 5, 2) := by decide +kernel
theorem dX5_taken_47 : decode cX5_taken 47 = .ok (.iconst 2, 1) := by decide +kernel
theorem dX5_taken_48 : decode cX5_taken 48 = .ok (.if_icmp .ne 6, 3) := by decide +kernel
theorem dX5_taken_51 : decode cX5_taken 51 = .ok (.bipush (-11), 2) := by decide +kernel
theorem dX5_taken_53 : decode cX5_taken 53 = .ok (.ireturn, 1) := by decide +kernel
theorem dX5_taken_54 : decode cX5_taken 54 = .ok (.iload_n 3, 1) := by decide +kernel
theorem dX5_taken_55 : decode cX5_taken 55 = .ok (.ifCond .eq 32, 3) := by decide +kernel
theorem dX5_taken_58 : decode cX5_taken 58 = .ok (.iload 5, 2) := by decide +kernel
theorem dX5_taken_60 : decode cX5_taken 60 = .ok (.iconst 1, 1) := by decide +kernel
theorem dX5_taken_61 : decode cX5_taken 61 = .ok (.if_icmp .ne 23, 3) := by decide +kernel
theorem dX5_taken_64 : decode cX5_taken 64 = .ok (.aload 4, 2) := by decide +kernel
theorem dX5_taken_66 : decode cX5_taken 66 = .ok (.getfield 280, 3) := by decide +kernel
theorem dX5_taken_69 : decode cX5_taken 69 = .ok (.iload_n 2, 1) := by decide +kernel
theorem dX5_taken_70 : decode cX5_taken 70 = .ok (.bipush 10, 2) := by decide +kernel
theorem dX5_taken_72 : decode cX5_taken 72 = .ok (.isub, 1) := by decide +kernel
theorem dX5_taken_73 : decode cX5_taken 73 = .ok (.if_icmp .ne 11, 3) := by decide +kernel
theorem dX5_taken_76 : decode cX5_taken 76 = .ok (.aload 4, 2) := by decide +kernel
theorem dX5_taken_78 : decode cX5_taken 78 = .ok (.getfield 281, 3) := by decide +kernel
theorem dX5_taken_81 : decode cX5_taken 81 = .ok (.goto 5, 3) := by decide +kernel
theorem dX5_taken_84 : decode cX5_taken 84 = .ok (.bipush (-13), 2) := by decide +kernel
theorem dX5_taken_86 : decode cX5_taken 86 = .ok (.ireturn, 1) := by decide +kernel
theorem dX5_taken_87 : decode cX5_taken 87 = .ok (.iload 5, 2) := by decide +kernel
theorem dX5_taken_89 : decode cX5_taken 89 = .ok (.ifCond .ne 31, 3) := by decide +kernel
theorem dX5_taken_92 : decode cX5_taken 92 = .ok (.aload_n 0, 1) := by decide +kernel
theorem dX5_taken_93 : decode cX5_taken 93 = .ok (.getfield 10, 3) := by decide +kernel
theorem dX5_taken_96 : decode cX5_taken 96 = .ok (.getfield 114, 3) := by decide +kernel
theorem dX5_taken_99 : decode cX5_taken 99 = .ok (.aload 4, 2) := by decide +kernel
theorem dX5_taken_101 : decode cX5_taken 101 = .ok (.getfield 282, 3) := by decide +kernel
theorem dX5_taken_104 : decode cX5_taken 104 = .ok (.iaload, 1) := by decide +kernel
theorem dX5_taken_105 : decode cX5_taken 105 = .ok (.iload_n 2, 1) := by decide +kernel
theorem dX5_taken_106 : decode cX5_taken 106 = .ok (.invokestatic 285, 3) := by decide +kernel
theorem dX5_taken_109 : decode cX5_taken 109 = .ok (.ifCond .eq 11, 3) := by decide +kernel
theorem dX5_taken_112 : decode cX5_taken 112 = .ok (.aload 4, 2) := by decide +kernel
theorem dX5_taken_114 : decode cX5_taken 114 = .ok (.getfield 282, 3) := by decide +kernel
theorem dX5_taken_117 : decode cX5_taken 117 = .ok (.goto 5, 3) := by decide +kernel
theorem dX5_taken_120 : decode cX5_taken 120 = .ok (.bipush (-13), 2) := by decide +kernel
theorem dX5_taken_122 : decode cX5_taken 122 = .ok (.ireturn, 1) := by decide +kernel
set_option maxRecDepth 20000 in
theorem ggX5_act_X0_forget : GoodIn wsX5_act wsX0_forget := goodIn_r _ [11, 12, 13, 81, 82, 83, 84, 85, 86] (by decide +kernel) (by decide +kernel)
set_option maxRecDepth 20000 in
theorem gX5_act_X0_forget : GoodIn wsX5_act (wsV RX5 288 RX0 yX0_forget wsX0_forget) := goodIn_app (goodIn_of _ (by decide +kernel)) ggX5_act_X0_forget
set_option maxRecDepth 20000 in
theorem ggX5_act_X5_isShelf : GoodIn wsX5_act wsX5_isShelf := goodIn_r _ [17, 18, 19, 16, 20] (by decide +kernel) (by decide +kernel)
set_option maxRecDepth 20000 in
theorem gX5_act_X5_isShelf : GoodIn wsX5_act (va_wsS RX5 262 yX5_isShelf wsX5_isShelf) := goodIn_app (goodIn_of _ (by decide +kernel)) ggX5_act_X5_isShelf
set_option maxRecDepth 20000 in
theorem ggX5_act_X5_within : GoodIn wsX5_act wsX5_within := goodIn_r _ [20] (by decide +kernel) (by decide +kernel)
set_option maxRecDepth 20000 in
theorem gX5_act_X5_within : GoodIn wsX5_act (va_wsS RX5 57 yX5_within wsX5_within) := goodIn_app (goodIn_of _ (by decide +kernel)) ggX5_act_X5_within
set_option maxRecDepth 20000 in
theorem ggX5_act_X5_heldBy : GoodIn wsX5_act wsX5_heldBy := goodIn_r _ [24, 25, 3, 26, 27, 28, 16, 29, 4, 30, 18, 19, 20, 67, 68, 69, 70, 56, 57, 58, 59, 60, 61, 62, 63, 64, 65, 66, 71, 72, 73, 74, 75, 76, 77, 78, 79, 80] (by decide +kernel) (by decide +kernel)
set_option maxRecDepth 20000 in
theorem gX5_act_X5_heldBy : GoodIn wsX5_act (wsV RX5 276 RX5 yX5_heldBy wsX5_heldBy) := goodIn_app (goodIn_of _ (by decide +kernel)) ggX5_act_X5_heldBy
set_option maxRecDepth 20000 in
theorem ggX5_act_X0_doAct : GoodIn wsX5_act wsX0_doAct := goodIn_r _ [34, 35, 36, 37, 13, 38, 39, 10, 40, 41, 42, 43, 44, 45, 16, 46, 18, 19, 20, 47, 48, 49, 50, 12, 51, 52, 53, 54, 55, 81, 82, 83, 84, 85, 86] (by decide +kernel) (by decide +kernel)
set_option maxRecDepth 20000 in
theorem gX5_act_X0_doAct : GoodIn wsX5_act (wsV RX5 291 RX0 yX0_doAct wsX0_doAct) := goodIn_app (goodIn_of _ (by decide +kernel)) ggX5_act_X0_doAct
theorem dX5_act_0 : decode cX5_act 0 = .ok (.aload_n 0, 1) := by decide +kernel
theorem dX5_act_1 : decode cX5_act 1 = .ok (.getfield 35, 3) := by decide +kernel
theorem dX5_act_4 : decode cX5_act 4 = .ok (.invokevirtual 288, 3) := by decide +kernel
theorem dX5_act_7 : decode cX5_act 7 = .ok (.iload_n 1, 1) := by decide +kernel
theorem dX5_act_8 : decode cX5_act 8 = .ok (.invokestatic 262, 3) := by decide +kernel
theorem dX5_act_11 : decode cX5_act 11 = .ok (.ifCond .eq 25, 3) := by decide +kernel
theorem dX5_act_14 : decode cX5_act 14 = .ok (.iload_n 2, 1) := by decide +kernel
theorem dX5_act_15 : decode cX5_act 15 = .ok (.iconst 0, 1) := by decide +kernel
theorem dX5_act_16 : decode cX5_act 16 = .ok (.iconst 3, 1) := by decide +kernel
theorem dX5_act_17 : decode cX5_act 17 = .ok (.invokestatic 57, 3) := by decide +kernel
theorem dX5_act_20 : decode cX5_act 20 = .ok (.ifCond .eq 16, 3) := by decide +kernel
theorem dX5_act_23 : decode cX5_act 23 = .ok (.aload_n 0, 1) := by decide +kernel
theorem dX5_act_24 : decode cX5_act 24 = .ok (.aload_n 0, 1) := by decide +kernel
theorem dX5_act_25 : decode cX5_act 25 = .ok (.getfield 47, 3) := by decide +kernel
theorem dX5_act_28 : decode cX5_act 28 = .ok (.iload_n 1, 1) := by decide +kernel
theorem dX5_act_29 : decode cX5_act 29 = .ok (.aaload, 1) := by decide +kernel
theorem dX5_act_30 : decode cX5_act 30 = .ok (.invokevirtual 276, 3) := by decide +kernel
theorem dX5_act_33 : decode cX5_act 33 = .ok (.ifCond .eq 5, 3) := by decide +kernel
theorem dX5_act_36 : decode cX5_act 36 = .ok (.iconst 0, 1) := by decide +kernel
theorem dX5_act_37 : decode cX5_act 37 = .ok (.ireturn, 1) := by decide +kernel
theorem dX5_act_38 : decode cX5_act 38 = .ok (.aload_n 0, 1) := by decide +kernel
theorem dX5_act_39 : decode cX5_act 39 = .ok (.getfield 47, 3) := by decide +kernel
theorem dX5_act_42 : decode cX5_act 42 = .ok (.iload_n 1, 1) := by decide +kernel
theorem dX5_act_43 : decode cX5_act 43 = .ok (.aaload, 1) := by decide +kernel
theorem dX5_act_44 : decode cX5_act 44 = .ok (.getfield 282, 3) := by decide +kernel
theorem dX5_act_47 : decode cX5_act 47 = .ok (.istore 4, 2) := by decide +kernel
theorem dX5_act_49 : decode cX5_act 49 = .ok (.aload_n 0, 1) := by decide +kernel
theorem dX5_act_50 : decode cX5_act 50 = .ok (.getfield 35, 3) := by decide +kernel
theorem dX5_act_53 : decode cX5_act 53 = .ok (.iload 4, 2) := by decide +kernel
theorem dX5_act_55 : decode cX5_act 55 = .ok (.aload_n 0, 1) := by decide +kernel
theorem dX5_act_56 : decode cX5_act 56 = .ok (.getfield 10, 3) := by decide +kernel
theorem dX5_act_59 : decode cX5_act 59 = .ok (.getfield 120, 3) := by decide +kernel
theorem dX5_act_62 : decode cX5_act 62 = .ok (.iload 4, 2) := by decide +kernel
theorem dX5_act_64 : decode cX5_act 64 = .ok (.iaload, 1) := by decide +kernel
theorem dX5_act_65 : decode cX5_act 65 = .ok (.aload_n 0, 1) := by decide +kernel
theorem dX5_act_66 : decode cX5_act 66 = .ok (.getfield 10, 3) := by decide +kernel
theorem dX5_act_69 : decode cX5_act 69 = .ok (.getfield 114, 3) := by decide +kernel
theorem dX5_act_72 : decode cX5_act 72 = .ok (.iload 4, 2) := by decide +kernel
theorem dX5_act_74 : decode cX5_act 74 = .ok (.iaload, 1) := by decide +kernel
theorem dX5_act_75 : decode cX5_act 75 = .ok (.iload_n 2, 1) := by decide +kernel
theorem dX5_act_76 : decode cX5_act 76 = .ok (.iload_n 3, 1) := by decide +kernel
theorem dX5_act_77 : decode cX5_act 77 = .ok (.invokevirtual 291, 3) := by decide +kernel
theorem dX5_act_80 : decode cX5_act 80 = .ok (.ireturn, 1) := by decide +kernel
set_option maxRecDepth 20000 in
theorem ggX5_trace_X5_within : GoodIn wsX5_trace wsX5_within := goodIn_r _ [7] (by decide +kernel) (by decide +kernel)
set_option maxRecDepth 20000 in
theorem gX5_trace_X5_within : GoodIn wsX5_trace (va_wsS RX5 57 yX5_within wsX5_within) := goodIn_app (goodIn_of _ (by decide +kernel)) ggX5_trace_X5_within
theorem dX5_trace_0 : decode cX5_trace 0 = .ok (.iload_n 1, 1) := by decide +kernel
theorem dX5_trace_1 : decode cX5_trace 1 = .ok (.iconst 0, 1) := by decide +kernel
theorem dX5_trace_2 : decode cX5_trace 2 = .ok (.aload_n 0, 1) := by decide +kernel
theorem dX5_trace_3 : decode cX5_trace 3 = .ok (.getfield 35, 3) := by decide +kernel
theorem dX5_trace_6 : decode cX5_trace 6 = .ok (.getfield 295, 3) := by decide +kernel
theorem dX5_trace_9 : decode cX5_trace 9 = .ok (.iconst 1, 1) := by decide +kernel
theorem dX5_trace_10 : decode cX5_trace 10 = .ok (.isub, 1) := by decide +kernel
theorem dX5_trace_11 : decode cX5_trace 11 = .ok (.invokestatic 57, 3) := by decide +kernel
theorem dX5_trace_14 : decode cX5_trace 14 = .ok (.ifCond .eq 15, 3) := by decide +kernel
theorem dX5_trace_17 : decode cX5_trace 17 = .ok (.aload_n 0, 1) := by decide +kernel
theorem dX5_trace_18 : decode cX5_trace 18 = .ok (.getfield 35, 3) := by decide +kernel
theorem dX5_trace_21 : decode cX5_trace 21 = .ok (.getfield 298, 3) := by decide +kernel
theorem dX5_trace_24 : decode cX5_trace 24 = .ok (.iload_n 1, 1) := by decide +kernel
theorem dX5_trace_25 : decode cX5_trace 25 = .ok (.iaload, 1) := by decide +kernel
theorem dX5_trace_26 : decode cX5_trace 26 = .ok (.goto 5, 3) := by decide +kernel
theorem dX5_trace_29 : decode cX5_trace 29 = .ok (.bipush (-3), 2) := by decide +kernel
theorem dX5_trace_31 : decode cX5_trace 31 = .ok (.ireturn, 1) := by decide +kernel
set_option maxRecDepth 20000 in
theorem ggX5_heldBy_X5_isMark : GoodIn wsX5_heldBy wsX5_isMark := goodIn_r _ [7, 8, 9, 10, 11, 6, 12, 17, 18, 19, 20, 21, 22, 23, 24, 25, 26, 27, 28, 29, 30, 31, 32, 33, 34, 35, 36, 37] (by decide +kernel) (by decide +kernel)
set_option maxRecDepth 20000 in
theorem gX5_heldBy_X5_isMark : GoodIn wsX5_heldBy (wsV RX5 111 RX5 yX5_isMark wsX5_isMark) := goodIn_app (goodIn_of _ (by decide +kernel)) ggX5_heldBy_X5_isMark
theorem dX5_heldBy_0 : decode cX5_heldBy 0 = .ok (.aload_n 1, 1) := by decide +kernel
theorem dX5_heldBy_1 : decode cX5_heldBy 1 = .ok (.getfield 273, 3) := by decide +kernel
theorem dX5_heldBy_4 : decode cX5_heldBy 4 = .ok (.ifCond .ne 18, 3) := by decide +kernel
theorem dX5_heldBy_7 : decode cX5_heldBy 7 = .ok (.aload_n 0, 1) := by decide +kernel
theorem dX5_heldBy_8 : decode cX5_heldBy 8 = .ok (.aload_n 1, 1) := by decide +kernel
theorem dX5_heldBy_9 : decode cX5_heldBy 9 = .ok (.getfield 282, 3) := by decide +kernel
theorem dX5_heldBy_12 : decode cX5_heldBy 12 = .ok (.invokevirtual 111, 3) := by decide +kernel
theorem dX5_heldBy_15 : decode cX5_heldBy 15 = .ok (.ifCond .ne 7, 3) := by decide +kernel
theorem dX5_heldBy_18 : decode cX5_heldBy 18 = .ok (.iconst 2, 1) := by decide +kernel
theorem dX5_heldBy_19 : decode cX5_heldBy 19 = .ok (.goto 7, 3) := by decide +kernel
theorem dX5_heldBy_22 : decode cX5_heldBy 22 = .ok (.aload_n 1, 1) := by decide +kernel
theorem dX5_heldBy_23 : decode cX5_heldBy 23 = .ok (.getfield 273, 3) := by decide +kernel
theorem dX5_heldBy_26 : decode cX5_heldBy 26 = .ok (.ireturn, 1) := by decide +kernel
set_option maxRecDepth 20000 in
theorem ggX5_many_X1_dried : GoodIn wsX5_many wsX1_dried := goodIn_r _ [12, 13, 14, 43, 44, 45, 46, 47, 48, 49, 50, 51, 52] (by decide +kernel) (by decide +kernel)
set_option maxRecDepth 20000 in
theorem gX5_many_X1_dried : GoodIn wsX5_many (wsV RX5 177 RX1 yX1_dried wsX1_dried) := goodIn_app (goodIn_of _ (by decide +kernel)) ggX5_many_X1_dried
set_option maxRecDepth 20000 in
theorem ggX5_many_J6_bitCount_0f7a4 : GoodIn wsX5_many wsJ6_bitCount_0f7a4 := goodIn_r _ [18, 19, 20, 21] (by decide +kernel) (by decide +kernel)
set_option maxRecDepth 20000 in
theorem gX5_many_J6_bitCount_0f7a4 : GoodIn wsX5_many (va_wsS RX5 156 yJ6_bitCount_0f7a4 wsJ6_bitCount_0f7a4) := goodIn_app (goodIn_of _ (by decide +kernel)) ggX5_many_J6_bitCount_0f7a4
set_option maxRecDepth 20000 in
theorem ggX5_many_X1_marked : GoodIn wsX5_many wsX1_marked := goodIn_r _ [25, 13, 26, 43, 44, 45, 46, 47, 48, 49, 50, 51, 52] (by decide +kernel) (by decide +kernel)
set_option maxRecDepth 20000 in
theorem gX5_many_X1_marked : GoodIn wsX5_many (wsV RX5 152 RX1 yX1_marked wsX1_marked) := goodIn_app (goodIn_of _ (by decide +kernel)) ggX5_many_X1_marked
set_option maxRecDepth 20000 in
theorem ggX5_many_X1_touches : GoodIn wsX5_many wsX1_touches := goodIn_r _ [30, 31, 43, 44, 45, 46, 47, 48, 49, 50, 51, 52] (by decide +kernel) (by decide +kernel)
set_option maxRecDepth 20000 in
theorem gX5_many_X1_touches : GoodIn wsX5_many (wsV RX5 301 RX1 yX1_touches wsX1_touches) := goodIn_app (goodIn_of _ (by decide +kernel)) ggX5_many_X1_touches
theorem dX5_many_0 : decode cX5_many 0 = .ok (.iload_n 1, 1) := by decide +kernel
theorem dX5_many_1 : decode cX5_many 1 = .ok (.tableswitch 110 0 6 #[43, 51, 70, 81, 89, 94, 102], 43) := by decide +kernel
theorem dX5_many_44 : decode cX5_many 44 = .ok (.aload_n 0, 1) := by decide +kernel
theorem dX5_many_45 : decode cX5_many 45 = .ok (.getfield 10, 3) := by decide +kernel
theorem dX5_many_48 : decode cX5_many 48 = .ok (.getfield 86, 3) := by decide +kernel
theorem dX5_many_51 : decode cX5_many 51 = .ok (.ireturn, 1) := by decide +kernel
theorem dX5_many_52 : decode cX5_many 52 = .ok (.aload_n 0, 1) := by decide +kernel
theorem dX5_many_53 : decode cX5_many 53 = .ok (.getfield 10, 3) := by decide +kernel
theorem dX5_many_56 : decode cX5_many 56 = .ok (.getfield 86, 3) := by decide +kernel
theorem dX5_many_59 : decode cX5_many 59 = .ok (.aload_n 0, 1) := by decide +kernel
theorem dX5_many_60 : decode cX5_many 60 = .ok (.getfield 10, 3) := by decide +kernel
theorem dX5_many_63 : decode cX5_many 63 = .ok (.invokevirtual 177, 3) := by decide +kernel
theorem dX5_many_66 : decode cX5_many 66 = .ok (.invokestatic 156, 3) := by decide +kernel
theorem dX5_many_69 : decode cX5_many 69 = .ok (.isub, 1) := by decide +kernel
theorem dX5_many_70 : decode cX5_many 70 = .ok (.ireturn, 1) := by decide +kernel
theorem dX5_many_71 : decode cX5_many 71 = .ok (.aload_n 0, 1) := by decide +kernel
theorem dX5_many_72 : decode cX5_many 72 = .ok (.getfield 10, 3) := by decide +kernel
theorem dX5_many_75 : decode cX5_many 75 = .ok (.invokevirtual 152, 3) := by decide +kernel
theorem dX5_many_78 : decode cX5_many 78 = .ok (.invokestatic 156, 3) := by decide +kernel
theorem dX5_many_81 : decode cX5_many 81 = .ok (.ireturn, 1) := by decide +kernel
theorem dX5_many_82 : decode cX5_many 82 = .ok (.aload_n 0, 1) := by decide +kernel
theorem dX5_many_83 : decode cX5_many 83 = .ok (.getfield 10, 3) := by decide +kernel
theorem dX5_many_86 : decode cX5_many 86 = .ok (.invokevirtual 301, 3) := by decide +kernel
theorem dX5_many_89 : decode cX5_many 89 = .ok (.ireturn, 1) := by decide +kernel
theorem dX5_many_90 : decode cX5_many 90 = .ok (.aload_n 0, 1) := by decide +kernel
theorem dX5_many_91 : decode cX5_many 91 = .ok (.getfield 83, 3) := by decide +kernel
theorem dX5_many_94 : decode cX5_many 94 = .ok (.ireturn, 1) := by decide +kernel
theorem dX5_many_95 : decode cX5_many 95 = .ok (.aload_n 0, 1) := by decide +kernel
theorem dX5_many_96 : decode cX5_many 96 = .ok (.getfield 28, 3) := by decide +kernel
theorem dX5_many_99 : decode cX5_many 99 = .ok (.getfield 76, 3) := by decide +kernel
theorem dX5_many_102 : decode cX5_many 102 = .ok (.ireturn, 1) := by decide +kernel
theorem dX5_many_103 : decode cX5_many 103 = .ok (.aload_n 0, 1) := by decide +kernel
theorem dX5_many_104 : decode cX5_many 104 = .ok (.getfield 35, 3) := by decide +kernel
theorem dX5_many_107 : decode cX5_many 107 = .ok (.getfield 295, 3) := by decide +kernel
theorem dX5_many_110 : decode cX5_many 110 = .ok (.ireturn, 1) := by decide +kernel
theorem dX5_many_111 : decode cX5_many 111 = .ok (.iconst (-1), 1) := by decide +kernel
theorem dX5_many_112 : decode cX5_many 112 = .ok (.ireturn, 1) := by decide +kernel
set_option maxRecDepth 20000 in
theorem ggX5_keep_X1_become : GoodIn wsX5_keep wsX1_become := goodIn_r _ [8, 9, 10, 11, 12, 13, 14, 15, 16, 17, 18, 19, 20, 21, 33, 34, 35, 36, 37, 38, 39, 40, 41, 42] (by decide +kernel) (by decide +kernel)
set_option maxRecDepth 20000 in
theorem gX5_keep_X1_become : GoodIn wsX5_keep (wsV RX5 79 RX1 yX1_become wsX1_become) := goodIn_app (goodIn_of _ (by decide +kernel)) ggX5_keep_X1_become
theorem dX5_keep_0 : decode cX5_keep 0 = .ok (.aload_n 0, 1) := by decide +kernel
theorem dX5_keep_1 : decode cX5_keep 1 = .ok (.getfield 16, 3) := by decide +kernel
theorem dX5_keep_4 : decode cX5_keep 4 = .ok (.aload_n 0, 1) := by decide +kernel
theorem dX5_keep_5 : decode cX5_keep 5 = .ok (.getfield 10, 3) := by decide +kernel
theorem dX5_keep_8 : decode cX5_keep 8 = .ok (.invokevirtual 79, 3) := by decide +kernel
theorem dX5_keep_11 : decode cX5_keep 11 = .ok (.aload_n 0, 1) := by decide +kernel
theorem dX5_keep_12 : decode cX5_keep 12 = .ok (.iconst 1, 1) := by decide +kernel
theorem dX5_keep_13 : decode cX5_keep 13 = .ok (.putfield 304, 3) := by decide +kernel
theorem dX5_keep_16 : decode cX5_keep 16 = .ok (.iconst 1, 1) := by decide +kernel
theorem dX5_keep_17 : decode cX5_keep 17 = .ok (.ireturn, 1) := by decide +kernel
set_option maxRecDepth 20000 in
theorem ggX5_again_X1_become : GoodIn wsX5_again wsX1_become := goodIn_r _ [9, 10, 11, 12, 13, 14, 15, 16, 17, 18, 19, 20, 21, 22, 34, 35, 36, 37, 38, 39, 40, 41, 42, 43] (by decide +kernel) (by decide +kernel)
set_option maxRecDepth 20000 in
theorem gX5_again_X1_become : GoodIn wsX5_again (wsV RX5 79 RX1 yX1_become wsX1_become) := goodIn_app (goodIn_of _ (by decide +kernel)) ggX5_again_X1_become
theorem dX5_again_0 : decode cX5_again 0 = .ok (.aload_n 0, 1) := by decide +kernel
theorem dX5_again_1 : decode cX5_again 1 = .ok (.getfield 304, 3) := by decide +kernel
theorem dX5_again_4 : decode cX5_again 4 = .ok (.ifCond .ne 6, 3) := by decide +kernel
theorem dX5_again_7 : decode cX5_again 7 = .ok (.bipush (-3), 2) := by decide +kernel
theorem dX5_again_9 : decode cX5_again 9 = .ok (.ireturn, 1) := by decide +kernel
theorem dX5_again_10 : decode cX5_again 10 = .ok (.aload_n 0, 1) := by decide +kernel
theorem dX5_again_11 : decode cX5_again 11 = .ok (.getfield 10, 3) := by decide +kernel
theorem dX5_again_14 : decode cX5_again 14 = .ok (.aload_n 0, 1) := by decide +kernel
theorem dX5_again_15 : decode cX5_again 15 = .ok (.getfield 16, 3) := by decide +kernel
theorem dX5_again_18 : decode cX5_again 18 = .ok (.invokevirtual 79, 3) := by decide +kernel
theorem dX5_again_21 : decode cX5_again 21 = .ok (.aload_n 0, 1) := by decide +kernel
theorem dX5_again_22 : decode cX5_again 22 = .ok (.getfield 10, 3) := by decide +kernel
theorem dX5_again_25 : decode cX5_again 25 = .ok (.getfield 86, 3) := by decide +kernel
theorem dX5_again_28 : decode cX5_again 28 = .ok (.ireturn, 1) := by decide +kernel
theorem dX5_within_0 : decode cX5_within 0 = .ok (.iload_n 0, 1) := by decide +kernel
theorem dX5_within_1 : decode cX5_within 1 = .ok (.iload_n 1, 1) := by decide +kernel
theorem dX5_within_2 : decode cX5_within 2 = .ok (.if_icmp .lt 12, 3) := by decide +kernel
theorem dX5_within_5 : decode cX5_within 5 = .ok (.iload_n 0, 1) := by decide +kernel
theorem dX5_within_6 : decode cX5_within 6 = .ok (.iload_n 2, 1) := by decide +kernel
theorem dX5_within_7 : decode cX5_within 7 = .ok (.if_icmp .gt 7, 3) := by decide +kernel
theorem dX5_within_10 : decode cX5_within 10 = .ok (.iconst 1, 1) := by decide +kernel
theorem dX5_within_11 : decode cX5_within 11 = .ok (.goto 4, 3) := by decide +kernel
theorem dX5_within_14 : decode cX5_within 14 = .ok (.iconst 0, 1) := by decide +kernel
theorem dX5_within_15 : decode cX5_within 15 = .ok (.ireturn, 1) := by decide +kernel
theorem dX5_has_0 : decode cX5_has 0 = .ok (.iload_n 0, 1) := by decide +kernel
theorem dX5_has_1 : decode cX5_has 1 = .ok (.iload_n 1, 1) := by decide +kernel
theorem dX5_has_2 : decode cX5_has 2 = .ok (.ishr, 1) := by decide +kernel
theorem dX5_has_3 : decode cX5_has 3 = .ok (.iconst 1, 1) := by decide +kernel
theorem dX5_has_4 : decode cX5_has 4 = .ok (.iand, 1) := by decide +kernel
theorem dX5_has_5 : decode cX5_has 5 = .ok (.ifCond .eq 7, 3) := by decide +kernel
theorem dX5_has_8 : decode cX5_has 8 = .ok (.iconst 1, 1) := by decide +kernel
theorem dX5_has_9 : decode cX5_has 9 = .ok (.goto 4, 3) := by decide +kernel
theorem dX5_has_12 : decode cX5_has 12 = .ok (.iconst 0, 1) := by decide +kernel
theorem dX5_has_13 : decode cX5_has 13 = .ok (.ireturn, 1) := by decide +kernel
theorem dX5_heldInk_0 : decode cX5_heldInk 0 = .ok (.iconst 0, 1) := by decide +kernel
theorem dX5_heldInk_1 : decode cX5_heldInk 1 = .ok (.bipush 99, 2) := by decide +kernel
theorem dX5_heldInk_3 : decode cX5_heldInk 3 = .ok (.iload_n 0, 1) := by decide +kernel
theorem dX5_heldInk_4 : decode cX5_heldInk 4 = .ok (.invokestatic 308, 3) := by decide +kernel
theorem dX5_heldInk_7 : decode cX5_heldInk 7 = .ok (.invokestatic 313, 3) := by decide +kernel
theorem dX5_heldInk_10 : decode cX5_heldInk 10 = .ok (.ireturn, 1) := by decide +kernel
set_option maxRecDepth 20000 in
theorem ggX5_isKind_X5_within : GoodIn wsX5_isKind wsX5_within := goodIn_r _ [4] (by decide +kernel) (by decide +kernel)
set_option maxRecDepth 20000 in
theorem gX5_isKind_X5_within : GoodIn wsX5_isKind (va_wsS RX5 57 yX5_within wsX5_within) := goodIn_app (goodIn_of _ (by decide +kernel)) ggX5_isKind_X5_within
theorem dX5_isKind_0 : decode cX5_isKind 0 = .ok (.iload_n 0, 1) := by decide +kernel
theorem dX5_isKind_1 : decode cX5_isKind 1 = .ok (.iconst 0, 1) := by decide +kernel
theorem dX5_isKind_2 : decode cX5_isKind 2 = .ok (.iconst 5, 1) := by decide +kernel
theorem dX5_isKind_3 : decode cX5_isKind 3 = .ok (.invokestatic 57, 3) := by decide +kernel
theorem dX5_isKind_6 : decode cX5_isKind 6 = .ok (.ireturn, 1) := by decide +kernel
set_option maxRecDepth 20000 in
theorem ggX5_isInk_X5_within : GoodIn wsX5_isInk wsX5_within := goodIn_r _ [4] (by decide +kernel) (by decide +kernel)
set_option maxRecDepth 20000 in
theorem gX5_isInk_X5_within : GoodIn wsX5_isInk (va_wsS RX5 57 yX5_within wsX5_within) := goodIn_app (goodIn_of _ (by decide +kernel)) ggX5_isInk_X5_within
theorem dX5_isInk_0 : decode cX5_isInk 0 = .ok (.iload_n 0, 1) := by decide +kernel
theorem dX5_isInk_1 : decode cX5_isInk 1 = .ok (.iconst 0, 1) := by decide +kernel
theorem dX5_isInk_2 : decode cX5_isInk 2 = .ok (.bipush 99, 2) := by decide +kernel
theorem dX5_isInk_4 : decode cX5_isInk 4 = .ok (.invokestatic 57, 3) := by decide +kernel
theorem dX5_isInk_7 : decode cX5_isInk 7 = .ok (.ireturn, 1) := by decide +kernel
set_option maxRecDepth 20000 in
theorem ggX5_isOne_X5_within : GoodIn wsX5_isOne wsX5_within := goodIn_r _ [4] (by decide +kernel) (by decide +kernel)
set_option maxRecDepth 20000 in
theorem gX5_isOne_X5_within : GoodIn wsX5_isOne (va_wsS RX5 57 yX5_within wsX5_within) := goodIn_app (goodIn_of _ (by decide +kernel)) ggX5_isOne_X5_within
theorem dX5_isOne_0 : decode cX5_isOne 0 = .ok (.iload_n 0, 1) := by decide +kernel
theorem dX5_isOne_1 : decode cX5_isOne 1 = .ok (.iconst 0, 1) := by decide +kernel
theorem dX5_isOne_2 : decode cX5_isOne 2 = .ok (.bipush 7, 2) := by decide +kernel
theorem dX5_isOne_4 : decode cX5_isOne 4 = .ok (.invokestatic 57, 3) := by decide +kernel
theorem dX5_isOne_7 : decode cX5_isOne 7 = .ok (.ireturn, 1) := by decide +kernel
set_option maxRecDepth 20000 in
theorem ggX5_isRest_X5_within : GoodIn wsX5_isRest wsX5_within := goodIn_r _ [4] (by decide +kernel) (by decide +kernel)
set_option maxRecDepth 20000 in
theorem gX5_isRest_X5_within : GoodIn wsX5_isRest (va_wsS RX5 57 yX5_within wsX5_within) := goodIn_app (goodIn_of _ (by decide +kernel)) ggX5_isRest_X5_within
theorem dX5_isRest_0 : decode cX5_isRest 0 = .ok (.iload_n 0, 1) := by decide +kernel
theorem dX5_isRest_1 : decode cX5_isRest 1 = .ok (.iconst 0, 1) := by decide +kernel
theorem dX5_isRest_2 : decode cX5_isRest 2 = .ok (.iconst 5, 1) := by decide +kernel
theorem dX5_isRest_3 : decode cX5_isRest 3 = .ok (.invokestatic 57, 3) := by decide +kernel
theorem dX5_isRest_6 : decode cX5_isRest 6 = .ok (.ireturn, 1) := by decide +kernel
set_option maxRecDepth 20000 in
theorem ggX5_isSheet_X5_within : GoodIn wsX5_isSheet wsX5_within := goodIn_r _ [4] (by decide +kernel) (by decide +kernel)
set_option maxRecDepth 20000 in
theorem gX5_isSheet_X5_within : GoodIn wsX5_isSheet (va_wsS RX5 57 yX5_within wsX5_within) := goodIn_app (goodIn_of _ (by decide +kernel)) ggX5_isSheet_X5_within
theorem dX5_isSheet_0 : decode cX5_isSheet 0 = .ok (.iload_n 0, 1) := by decide +kernel
theorem dX5_isSheet_1 : decode cX5_isSheet 1 = .ok (.iconst 0, 1) := by decide +kernel
theorem dX5_isSheet_2 : decode cX5_isSheet 2 = .ok (.iconst 3, 1) := by decide +kernel
theorem dX5_isSheet_3 : decode cX5_isSheet 3 = .ok (.invokestatic 57, 3) := by decide +kernel
theorem dX5_isSheet_6 : decode cX5_isSheet 6 = .ok (.ireturn, 1) := by decide +kernel
set_option maxRecDepth 20000 in
theorem ggX5_isShelf_X5_within : GoodIn wsX5_isShelf wsX5_within := goodIn_r _ [4] (by decide +kernel) (by decide +kernel)
set_option maxRecDepth 20000 in
theorem gX5_isShelf_X5_within : GoodIn wsX5_isShelf (va_wsS RX5 57 yX5_within wsX5_within) := goodIn_app (goodIn_of _ (by decide +kernel)) ggX5_isShelf_X5_within
theorem dX5_isShelf_0 : decode cX5_isShelf 0 = .ok (.iload_n 0, 1) := by decide +kernel
theorem dX5_isShelf_1 : decode cX5_isShelf 1 = .ok (.iconst 0, 1) := by decide +kernel
theorem dX5_isShelf_2 : decode cX5_isShelf 2 = .ok (.iconst 3, 1) := by decide +kernel
theorem dX5_isShelf_3 : decode cX5_isShelf 3 = .ok (.invokestatic 57, 3) := by decide +kernel
theorem dX5_isShelf_6 : decode cX5_isShelf 6 = .ok (.ireturn, 1) := by decide +kernel
set_option maxRecDepth 20000 in
theorem ggX5_isMark_X5_within : GoodIn wsX5_isMark wsX5_within := goodIn_r _ [6] (by decide +kernel) (by decide +kernel)
set_option maxRecDepth 20000 in
theorem gX5_isMark_X5_within : GoodIn wsX5_isMark (va_wsS RX5 57 yX5_within wsX5_within) := goodIn_app (goodIn_of _ (by decide +kernel)) ggX5_isMark_X5_within
theorem dX5_isMark_0 : decode cX5_isMark 0 = .ok (.iload_n 1, 1) := by decide +kernel
theorem dX5_isMark_1 : decode cX5_isMark 1 = .ok (.iconst 0, 1) := by decide +kernel
theorem dX5_isMark_2 : decode cX5_isMark 2 = .ok (.aload_n 0, 1) := by decide +kernel
theorem dX5_isMark_3 : decode cX5_isMark 3 = .ok (.getfield 10, 3) := by decide +kernel
theorem dX5_isMark_6 : decode cX5_isMark 6 = .ok (.getfield 86, 3) := by decide +kernel
theorem dX5_isMark_9 : decode cX5_isMark 9 = .ok (.iconst 1, 1) := by decide +kernel
theorem dX5_isMark_10 : decode cX5_isMark 10 = .ok (.isub, 1) := by decide +kernel
theorem dX5_isMark_11 : decode cX5_isMark 11 = .ok (.invokestatic 57, 3) := by decide +kernel
theorem dX5_isMark_14 : decode cX5_isMark 14 = .ok (.ireturn, 1) := by decide +kernel
set_option maxRecDepth 20000 in
theorem ggX5_isWish_X5_isMark : GoodIn wsX5_isWish wsX5_isMark := goodIn_r _ [5, 6, 7, 8, 9, 4, 10, 14, 15, 16, 17, 18, 19, 20, 21, 22, 23, 24, 25, 26, 27, 28, 29, 30, 31, 32, 33, 34] (by decide +kernel) (by decide +kernel)
set_option maxRecDepth 20000 in
theorem gX5_isWish_X5_isMark : GoodIn wsX5_isWish (wsV RX5 111 RX5 yX5_isMark wsX5_isMark) := goodIn_app (goodIn_of _ (by decide +kernel)) ggX5_isWish_X5_isMark
set_option maxRecDepth 20000 in
theorem ggX5_isWish_X5_isOne : GoodIn wsX5_isWish wsX5_isOne := goodIn_r _ [13, 8, 9, 4, 10] (by decide +kernel) (by decide +kernel)
set_option maxRecDepth 20000 in
theorem gX5_isWish_X5_isOne : GoodIn wsX5_isWish (va_wsS RX5 105 yX5_isOne wsX5_isOne) := goodIn_app (goodIn_of _ (by decide +kernel)) ggX5_isWish_X5_isOne
set_option maxRecDepth 20000 in
theorem ggX5_isWish_X5_within : GoodIn wsX5_isWish wsX5_within := goodIn_r _ [10] (by decide +kernel) (by decide +kernel)
set_option maxRecDepth 20000 in
theorem gX5_isWish_X5_within : GoodIn wsX5_isWish (va_wsS RX5 57 yX5_within wsX5_within) := goodIn_app (goodIn_of _ (by decide +kernel)) ggX5_isWish_X5_within
theorem dX5_isWish_0 : decode cX5_isWish 0 = .ok (.aload_n 0, 1) := by decide +kernel
theorem dX5_isWish_1 : decode cX5_isWish 1 = .ok (.iload_n 1, 1) := by decide +kernel
theorem dX5_isWish_2 : decode cX5_isWish 2 = .ok (.invokevirtual 111, 3) := by decide +kernel
theorem dX5_isWish_5 : decode cX5_isWish 5 = .ok (.ifCond .eq 24, 3) := by decide +kernel
theorem dX5_isWish_8 : decode cX5_isWish 8 = .ok (.iload_n 2, 1) := by decide +kernel
theorem dX5_isWish_9 : decode cX5_isWish 9 = .ok (.invokestatic 105, 3) := by decide +kernel
theorem dX5_isWish_12 : decode cX5_isWish 12 = .ok (.ifCond .eq 17, 3) := by decide +kernel
theorem dX5_isWish_15 : decode cX5_isWish 15 = .ok (.iload_n 3, 1) := by decide +kernel
theorem dX5_isWish_16 : decode cX5_isWish 16 = .ok (.iconst 0, 1) := by decide +kernel
theorem dX5_isWish_17 : decode cX5_isWish 17 = .ok (.bipush 30, 2) := by decide +kernel
theorem dX5_isWish_19 : decode cX5_isWish 19 = .ok (.invokestatic 57, 3) := by decide +kernel
theorem dX5_isWish_22 : decode cX5_isWish 22 = .ok (.ifCond .eq 7, 3) := by decide +kernel
theorem dX5_isWish_25 : decode cX5_isWish 25 = .ok (.iconst 1, 1) := by decide +kernel
theorem dX5_isWish_26 : decode cX5_isWish 26 = .ok (.goto 4, 3) := by decide +kernel
theorem dX5_isWish_29 : decode cX5_isWish 29 = .ok (.iconst 0, 1) := by decide +kernel
theorem dX5_isWish_30 : decode cX5_isWish 30 = .ok (.ireturn, 1) := by decide +kernel
set_option maxRecDepth 20000 in
theorem ggX5_isRowPart_X5_within : GoodIn wsX5_isRowPart wsX5_within := goodIn_r _ [5] (by decide +kernel) (by decide +kernel)
set_option maxRecDepth 20000 in
theorem gX5_isRowPart_X5_within : GoodIn wsX5_isRowPart (va_wsS RX5 57 yX5_within wsX5_within) := goodIn_app (goodIn_of _ (by decide +kernel)) ggX5_isRowPart_X5_within
theorem dX5_isRowPart_0 : decode cX5_isRowPart 0 = .ok (.iload_n 1, 1) := by decide +kernel
theorem dX5_isRowPart_1 : decode cX5_isRowPart 1 = .ok (.iconst 0, 1) := by decide +kernel
theorem dX5_isRowPart_2 : decode cX5_isRowPart 2 = .ok (.aload_n 0, 1) := by decide +kernel
theorem dX5_isRowPart_3 : decode cX5_isRowPart 3 = .ok (.getfield 83, 3) := by decide +kernel
theorem dX5_isRowPart_6 : decode cX5_isRowPart 6 = .ok (.iconst 1, 1) := by decide +kernel
theorem dX5_isRowPart_7 : decode cX5_isRowPart 7 = .ok (.isub, 1) := by decide +kernel
theorem dX5_isRowPart_8 : decode cX5_isRowPart 8 = .ok (.invokestatic 57, 3) := by decide +kernel
theorem dX5_isRowPart_11 : decode cX5_isRowPart 11 = .ok (.ifCond .eq 16, 3) := by decide +kernel
theorem dX5_isRowPart_14 : decode cX5_isRowPart 14 = .ok (.iload_n 2, 1) := by decide +kernel
theorem dX5_isRowPart_15 : decode cX5_isRowPart 15 = .ok (.iconst 0, 1) := by decide +kernel
theorem dX5_isRowPart_16 : decode cX5_isRowPart 16 = .ok (.iconst 2, 1) := by decide +kernel
theorem dX5_isRowPart_17 : decode cX5_isRowPart 17 = .ok (.invokestatic 57, 3) := by decide +kernel
theorem dX5_isRowPart_20 : decode cX5_isRowPart 20 = .ok (.ifCond .eq 7, 3) := by decide +kernel
theorem dX5_isRowPart_23 : decode cX5_isRowPart 23 = .ok (.iconst 1, 1) := by decide +kernel
theorem dX5_isRowPart_24 : decode cX5_isRowPart 24 = .ok (.goto 4, 3) := by decide +kernel
theorem dX5_isRowPart_27 : decode cX5_isRowPart 27 = .ok (.iconst 0, 1) := by decide +kernel
theorem dX5_isRowPart_28 : decode cX5_isRowPart 28 = .ok (.ireturn, 1) := by decide +kernel
set_option maxRecDepth 20000 in
theorem ggX5_isUnder_X5_isKind : GoodIn wsX5_isUnder wsX5_isKind := goodIn_r _ [5, 6, 7, 4, 8] (by decide +kernel) (by decide +kernel)
set_option maxRecDepth 20000 in
theorem gX5_isUnder_X5_isKind : GoodIn wsX5_isUnder (va_wsS RX5 98 yX5_isKind wsX5_isKind) := goodIn_app (goodIn_of _ (by decide +kernel)) ggX5_isUnder_X5_isKind
theorem dX5_isUnder_0 : decode cX5_isUnder 0 = .ok (.iload_n 0, 1) := by decide +kernel
theorem dX5_isUnder_1 : decode cX5_isUnder 1 = .ok (.istore_n 2, 1) := by decide +kernel
theorem dX5_isUnder_2 : decode cX5_isUnder 2 = .ok (.iconst 0, 1) := by decide +kernel
theorem dX5_isUnder_3 : decode cX5_isUnder 3 = .ok (.istore_n 3, 1) := by decide +kernel
theorem dX5_isUnder_4 : decode cX5_isUnder 4 = .ok (.iload_n 3, 1) := by decide +kernel
theorem dX5_isUnder_5 : decode cX5_isUnder 5 = .ok (.bipush 6, 2) := by decide +kernel
theorem dX5_isUnder_7 : decode cX5_isUnder 7 = .ok (.if_icmp .ge 29, 3) := by decide +kernel
theorem dX5_isUnder_10 : decode cX5_isUnder 10 = .ok (.iload_n 2, 1) := by decide +kernel
theorem dX5_isUnder_11 : decode cX5_isUnder 11 = .ok (.invokestatic 98, 3) := by decide +kernel
theorem dX5_isUnder_14 : decode cX5_isUnder 14 = .ok (.ifCond .eq 22, 3) := by decide +kernel
theorem dX5_isUnder_17 : decode cX5_isUnder 17 = .ok (.iload_n 2, 1) := by decide +kernel
theorem dX5_isUnder_18 : decode cX5_isUnder 18 = .ok (.iload_n 1, 1) := by decide +kernel
theorem dX5_isUnder_19 : decode cX5_isUnder 19 = .ok (.if_icmp .ne 5, 3) := by decide +kernel
theorem dX5_isUnder_22 : decode cX5_isUnder 22 = .ok (.iconst 1, 1) := by decide +kernel
theorem dX5_isUnder_23 : decode cX5_isUnder 23 = .ok (.ireturn, 1) := by decide +kernel
theorem dX5_isUnder_24 : decode cX5_isUnder 24 = .ok (.getstatic 316, 3) := by decide +kernel
theorem dX5_isUnder_27 : decode cX5_isUnder 27 = .ok (.iload_n 2, 1) := by decide +kernel
theorem dX5_isUnder_28 : decode cX5_isUnder 28 = .ok (.iaload, 1) := by decide +kernel
theorem dX5_isUnder_29 : decode cX5_isUnder 29 = .ok (.istore_n 2, 1) := by decide +kernel
theorem dX5_isUnder_30 : decode cX5_isUnder 30 = .ok (.iinc 3 1, 3) := by decide +kernel
theorem dX5_isUnder_33 : decode cX5_isUnder 33 = .ok (.goto (-29), 3) := by decide +kernel
theorem dX5_isUnder_36 : decode cX5_isUnder 36 = .ok (.iconst 0, 1) := by decide +kernel
theorem dX5_isUnder_37 : decode cX5_isUnder 37 = .ok (.ireturn, 1) := by decide +kernel
set_option maxRecDepth 20000 in
theorem ggX6_init_X6_begins : GoodIn wsX6_init wsX6_begins := goodIn_r _ [24, 5, 25, 26, 27, 28, 29, 30, 31, 32, 33, 34, 35, 36, 37, 38, 39, 40, 41, 42, 43, 44, 45, 46, 47, 48, 49, 50, 51, 52] (by decide +kernel) (by decide +kernel)
set_option maxRecDepth 20000 in
theorem gX6_init_X6_begins : GoodIn wsX6_init (wsV RX6 55 RX6 yX6_begins wsX6_begins) := goodIn_app (goodIn_of _ (by decide +kernel)) ggX6_init_X6_begins
