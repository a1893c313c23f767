theorem eL_law_0 : decode rL_law.2.1 0 = .ok (.new 8, 3) := by decide +kernel
theorem eL_law_3 : decode rL_law.2.1 3 = .ok (.dup, 1) := by decide +kernel
theorem eL_law_4 : decode rL_law.2.1 4 = .ok (.invokespecial 175, 3) := by decide +kernel
theorem eL_law_7 : decode rL_law.2.1 7 = .ok (.astore_n 1, 1) := by decide +kernel
theorem eL_law_8 : decode rL_law.2.1 8 = .ok (.new 176, 3) := by decide +kernel
theorem eL_law_11 : decode rL_law.2.1 11 = .ok (.dup, 1) := by decide +kernel
theorem eL_law_12 : decode rL_law.2.1 12 = .ok (.invokespecial 178, 3) := by decide +kernel
theorem eL_law_15 : decode rL_law.2.1 15 = .ok (.astore_n 2, 1) := by decide +kernel
theorem eL_law_16 : decode rL_law.2.1 16 = .ok (.iconst 1, 1) := by decide +kernel
theorem eL_law_17 : decode rL_law.2.1 17 = .ok (.newarray .long, 2) := by decide +kernel
theorem eL_law_19 : decode rL_law.2.1 19 = .ok (.astore_n 3, 1) := by decide +kernel
theorem eL_law_20 : decode rL_law.2.1 20 = .ok (.iconst 1, 1) := by decide +kernel
theorem eL_law_21 : decode rL_law.2.1 21 = .ok (.newarray .double, 2) := by decide +kernel
theorem eL_law_23 : decode rL_law.2.1 23 = .ok (.astore 4, 2) := by decide +kernel
theorem eL_law_25 : decode rL_law.2.1 25 = .ok (.iconst 0, 1) := by decide +kernel
theorem eL_law_26 : decode rL_law.2.1 26 = .ok (.istore 5, 2) := by decide +kernel
theorem eL_law_28 : decode rL_law.2.1 28 = .ok (.iload 5, 2) := by decide +kernel
theorem eL_law_30 : decode rL_law.2.1 30 = .ok (.aload_n 0, 1) := by decide +kernel
theorem eL_law_31 : decode rL_law.2.1 31 = .ok (.arraylength, 1) := by decide +kernel
theorem eL_law_32 : decode rL_law.2.1 32 = .ok (.iconst 4, 1) := by decide +kernel
theorem eL_law_33 : decode rL_law.2.1 33 = .ok (.isub, 1) := by decide +kernel
theorem eL_law_34 : decode rL_law.2.1 34 = .ok (.if_icmp .gt 3191, 3) := by decide +kernel
theorem eL_law_37 : decode rL_law.2.1 37 = .ok (.aload_n 0, 1) := by decide +kernel
theorem eL_law_38 : decode rL_law.2.1 38 = .ok (.iload 5, 2) := by decide +kernel
theorem eL_law_40 : decode rL_law.2.1 40 = .ok (.iaload, 1) := by decide +kernel
theorem eL_law_41 : decode rL_law.2.1 41 = .ok (.bipush 63, 2) := by decide +kernel
theorem eL_law_43 : decode rL_law.2.1 43 = .ok (.iand, 1) := by decide +kernel
theorem eL_law_44 : decode rL_law.2.1 44 = .ok (.tableswitch 3175 0 58 #[252, 332, 388, 456, 512, 568, 636, 692, 705, 761, 817, 873, 929, 985, 1041, 1097, 1160, 1216, 1291, 1347, 1403, 1416, 1472, 1528, 1584, 1640, 1696, 1759, 1815, 1871, 1939, 2007, 2075, 2131, 2187, 2243, 2299, 2355, 2411, 2467, 2523, 2536, 2550, 2564, 2577, 2590, 2603, 2668, 2746, 2759, 2815, 2828, 2884, 2942, 2986, 3030, 3074, 3118, 3131], 252) := by decide +kernel
theorem eL_law_296 : decode rL_law.2.1 296 = .ok (.aload_n 1, 1) := by decide +kernel
theorem eL_law_297 : decode rL_law.2.1 297 = .ok (.aload_n 0, 1) := by decide +kernel
theorem eL_law_298 : decode rL_law.2.1 298 = .ok (.iload 5, 2) := by decide +kernel
theorem eL_law_300 : decode rL_law.2.1 300 = .ok (.iconst 1, 1) := by decide +kernel
theorem eL_law_301 : decode rL_law.2.1 301 = .ok (.iadd, 1) := by decide +kernel
theorem eL_law_302 : decode rL_law.2.1 302 = .ok (.iaload, 1) := by decide +kernel
theorem eL_law_303 : decode rL_law.2.1 303 = .ok (.aload_n 0, 1) := by decide +kernel
theorem eL_law_304 : decode rL_law.2.1 304 = .ok (.iload 5, 2) := by decide +kernel
theorem eL_law_306 : decode rL_law.2.1 306 = .ok (.iconst 2, 1) := by decide +kernel
theorem eL_law_307 : decode rL_law.2.1 307 = .ok (.iadd, 1) := by decide +kernel
theorem eL_law_308 : decode rL_law.2.1 308 = .ok (.iaload, 1) := by decide +kernel
theorem eL_law_309 : decode rL_law.2.1 309 = .ok (.aload_n 0, 1) := by decide +kernel
theorem eL_law_310 : decode rL_law.2.1 310 = .ok (.iload 5, 2) := by decide +kernel
theorem eL_law_312 : decode rL_law.2.1 312 = .ok (.iconst 3, 1) := by decide +kernel
theorem eL_law_313 : decode rL_law.2.1 313 = .ok (.iadd, 1) := by decide +kernel
theorem eL_law_314 : decode rL_law.2.1 314 = .ok (.iaload, 1) := by decide +kernel
theorem eL_law_315 : decode rL_law.2.1 315 = .ok (.aload_n 3, 1) := by decide +kernel
theorem eL_law_316 : decode rL_law.2.1 316 = .ok (.invokestatic 179, 3) := by decide +kernel
theorem eL_law_319 : decode rL_law.2.1 319 = .ok (.istore 6, 2) := by decide +kernel
theorem eL_law_321 : decode rL_law.2.1 321 = .ok (.aload_n 2, 1) := by decide +kernel
theorem eL_law_322 : decode rL_law.2.1 322 = .ok (.aload_n 0, 1) := by decide +kernel
theorem eL_law_323 : decode rL_law.2.1 323 = .ok (.iload 5, 2) := by decide +kernel
theorem eL_law_325 : decode rL_law.2.1 325 = .ok (.iconst 1, 1) := by decide +kernel
theorem eL_law_326 : decode rL_law.2.1 326 = .ok (.iadd, 1) := by decide +kernel
theorem eL_law_327 : decode rL_law.2.1 327 = .ok (.iaload, 1) := by decide +kernel
theorem eL_law_328 : decode rL_law.2.1 328 = .ok (.aload_n 0, 1) := by decide +kernel
theorem eL_law_329 : decode rL_law.2.1 329 = .ok (.iload 5, 2) := by decide +kernel
theorem eL_law_331 : decode rL_law.2.1 331 = .ok (.iconst 2, 1) := by decide +kernel
theorem eL_law_332 : decode rL_law.2.1 332 = .ok (.iadd, 1) := by decide +kernel
theorem eL_law_333 : decode rL_law.2.1 333 = .ok (.iaload, 1) := by decide +kernel
theorem eL_law_334 : decode rL_law.2.1 334 = .ok (.aload_n 0, 1) := by decide +kernel
theorem eL_law_335 : decode rL_law.2.1 335 = .ok (.iload 5, 2) := by decide +kernel
theorem eL_law_337 : decode rL_law.2.1 337 = .ok (.iconst 3, 1) := by decide +kernel
theorem eL_law_338 : decode rL_law.2.1 338 = .ok (.iadd, 1) := by decide +kernel
theorem eL_law_339 : decode rL_law.2.1 339 = .ok (.iaload, 1) := by decide +kernel
theorem eL_law_340 : decode rL_law.2.1 340 = .ok (.invokevirtual 184, 3) := by decide +kernel
theorem eL_law_343 : decode rL_law.2.1 343 = .ok (.istore 7, 2) := by decide +kernel
theorem eL_law_345 : decode rL_law.2.1 345 = .ok (.aload_n 2, 1) := by decide +kernel
theorem eL_law_346 : decode rL_law.2.1 346 = .ok (.invokevirtual 185, 3) := by decide +kernel
theorem eL_law_349 : decode rL_law.2.1 349 = .ok (.iload 6, 2) := by decide +kernel
theorem eL_law_351 : decode rL_law.2.1 351 = .ok (.if_icmp .eq 5, 3) := by decide +kernel
theorem eL_law_354 : decode rL_law.2.1 354 = .ok (.iconst 0, 1) := by decide +kernel
theorem eL_law_355 : decode rL_law.2.1 355 = .ok (.ireturn, 1) := by decide +kernel
theorem eL_law_356 : decode rL_law.2.1 356 = .ok (.iload 6, 2) := by decide +kernel
theorem eL_law_358 : decode rL_law.2.1 358 = .ok (.ifCond .ne 15, 3) := by decide +kernel
theorem eL_law_361 : decode rL_law.2.1 361 = .ok (.aload_n 3, 1) := by decide +kernel
theorem eL_law_362 : decode rL_law.2.1 362 = .ok (.iconst 0, 1) := by decide +kernel
theorem eL_law_363 : decode rL_law.2.1 363 = .ok (.laload, 1) := by decide +kernel
theorem eL_law_364 : decode rL_law.2.1 364 = .ok (.iload 7, 2) := by decide +kernel
theorem eL_law_366 : decode rL_law.2.1 366 = .ok (.i2l, 1) := by decide +kernel
theorem eL_law_367 : decode rL_law.2.1 367 = .ok (.lcmp, 1) := by decide +kernel
theorem eL_law_368 : decode rL_law.2.1 368 = .ok (.ifCond .eq 5, 3) := by decide +kernel
theorem eL_law_371 : decode rL_law.2.1 371 = .ok (.iconst 0, 1) := by decide +kernel
theorem eL_law_372 : decode rL_law.2.1 372 = .ok (.ireturn, 1) := by decide +kernel
theorem eL_law_373 : decode rL_law.2.1 373 = .ok (.goto 2846, 3) := by decide +kernel
theorem eL_law_376 : decode rL_law.2.1 376 = .ok (.aload_n 1, 1) := by decide +kernel
theorem eL_law_377 : decode rL_law.2.1 377 = .ok (.aload_n 0, 1) := by decide +kernel
theorem eL_law_378 : decode rL_law.2.1 378 = .ok (.iload 5, 2) := by decide +kernel
theorem eL_law_380 : decode rL_law.2.1 380 = .ok (.iconst 1, 1) := by decide +kernel
theorem eL_law_381 : decode rL_law.2.1 381 = .ok (.iadd, 1) := by decide +kernel
theorem eL_law_382 : decode rL_law.2.1 382 = .ok (.iaload, 1) := by decide +kernel
theorem eL_law_383 : decode rL_law.2.1 383 = .ok (.aload_n 3, 1) := by decide +kernel
theorem eL_law_384 : decode rL_law.2.1 384 = .ok (.invokestatic 188, 3) := by decide +kernel
theorem eL_law_387 : decode rL_law.2.1 387 = .ok (.istore 6, 2) := by decide +kernel
theorem eL_law_389 : decode rL_law.2.1 389 = .ok (.aload_n 2, 1) := by decide +kernel
theorem eL_law_390 : decode rL_law.2.1 390 = .ok (.aload_n 0, 1) := by decide +kernel
theorem eL_law_391 : decode rL_law.2.1 391 = .ok (.iload 5, 2) := by decide +kernel
theorem eL_law_393 : decode rL_law.2.1 393 = .ok (.iconst 1, 1) := by decide +kernel
theorem eL_law_394 : decode rL_law.2.1 394 = .ok (.iadd, 1) := by decide +kernel
theorem eL_law_395 : decode rL_law.2.1 395 = .ok (.iaload, 1) := by decide +kernel
theorem eL_law_396 : decode rL_law.2.1 396 = .ok (.invokevirtual 191, 3) := by decide +kernel
theorem eL_law_399 : decode rL_law.2.1 399 = .ok (.istore 7, 2) := by decide +kernel
theorem eL_law_401 : decode rL_law.2.1 401 = .ok (.aload_n 2, 1) := by decide +kernel
theorem eL_law_402 : decode rL_law.2.1 402 = .ok (.invokevirtual 185, 3) := by decide +kernel
theorem eL_law_405 : decode rL_law.2.1 405 = .ok (.iload 6, 2) := by decide +kernel
theorem eL_law_407 : decode rL_law.2.1 407 = .ok (.if_icmp .eq 5, 3) := by decide +kernel
theorem eL_law_410 : decode rL_law.2.1 410 = .ok (.iconst 0, 1) := by decide +kernel
theorem eL_law_411 : decode rL_law.2.1 411 = .ok (.ireturn, 1) := by decide +kernel
theorem eL_law_412 : decode rL_law.2.1 412 = .ok (.iload 6, 2) := by decide +kernel
theorem eL_law_414 : decode rL_law.2.1 414 = .ok (.ifCond .ne 15, 3) := by decide +kernel
theorem eL_law_417 : decode rL_law.2.1 417 = .ok (.aload_n 3, 1) := by decide +kernel
theorem eL_law_418 : decode rL_law.2.1 418 = .ok (.iconst 0, 1) := by decide +kernel
theorem eL_law_419 : decode rL_law.2.1 419 = .ok (.laload, 1) := by decide +kernel
theorem eL_law_420 : decode rL_law.2.1 420 = .ok (.iload 7, 2) := by decide +kernel
theorem eL_law_422 : decode rL_law.2.1 422 = .ok (.i2l, 1) := by decide +kernel
theorem eL_law_423 : decode rL_law.2.1 423 = .ok (.lcmp, 1) := by decide +kernel
theorem eL_law_424 : decode rL_law.2.1 424 = .ok (.ifCond .eq 5, 3) := by decide +kernel
theorem eL_law_427 : decode rL_law.2.1 427 = .ok (.iconst 0, 1) := by decide +kernel
theorem eL_law_428 : decode rL_law.2.1 428 = .ok (.ireturn, 1) := by decide +kernel
theorem eL_law_429 : decode rL_law.2.1 429 = .ok (.goto 2790, 3) := by decide +kernel
theorem eL_law_432 : decode rL_law.2.1 432 = .ok (.aload_n 1, 1) := by decide +kernel
theorem eL_law_433 : decode rL_law.2.1 433 = .ok (.aload_n 0, 1) := by decide +kernel
theorem eL_law_434 : decode rL_law.2.1 434 = .ok (.iload 5, 2) := by decide +kernel
theorem eL_law_436 : decode rL_law.2.1 436 = .ok (.iconst 1, 1) := by decide +kernel
theorem eL_law_437 : decode rL_law.2.1 437 = .ok (.iadd, 1) := by decide +kernel
theorem eL_law_438 : decode rL_law.2.1 438 = .ok (.iaload, 1) := by decide +kernel
theorem eL_law_439 : decode rL_law.2.1 439 = .ok (.aload_n 0, 1) := by decide +kernel
theorem eL_law_440 : decode rL_law.2.1 440 = .ok (.iload 5, 2) := by decide +kernel
theorem eL_law_442 : decode rL_law.2.1 442 = .ok (.iconst 2, 1) := by decide +kernel
theorem eL_law_443 : decode rL_law.2.1 443 = .ok (.iadd, 1) := by decide +kernel
theorem eL_law_444 : decode rL_law.2.1 444 = .ok (.iaload, 1) := by decide +kernel
theorem eL_law_445 : decode rL_law.2.1 445 = .ok (.aload_n 3, 1) := by decide +kernel
theorem eL_law_446 : decode rL_law.2.1 446 = .ok (.invokestatic 192, 3) := by decide +kernel
theorem eL_law_449 : decode rL_law.2.1 449 = .ok (.istore 6, 2) := by decide +kernel
theorem eL_law_451 : decode rL_law.2.1 451 = .ok (.aload_n 2, 1) := by decide +kernel
theorem eL_law_452 : decode rL_law.2.1 452 = .ok (.aload_n 0, 1) := by decide +kernel
theorem eL_law_453 : decode rL_law.2.1 453 = .ok (.iload 5, 2) := by decide +kernel
theorem eL_law_455 : decode rL_law.2.1 455 = .ok (.iconst 1, 1) := by decide +kernel
theorem eL_law_456 : decode rL_law.2.1 456 = .ok (.iadd, 1) := by decide +kernel
theorem eL_law_457 : decode rL_law.2.1 457 = .ok (.iaload, 1) := by decide +kernel
theorem eL_law_458 : decode rL_law.2.1 458 = .ok (.aload_n 0, 1) := by decide +kernel
theorem eL_law_459 : decode rL_law.2.1 459 = .ok (.iload 5, 2) := by decide +kernel
theorem eL_law_461 : decode rL_law.2.1 461 = .ok (.iconst 2, 1) := by decide +kernel
theorem eL_law_462 : decode rL_law.2.1 462 = .ok (.iadd, 1) := by decide +kernel
theorem eL_law_463 : decode rL_law.2.1 463 = .ok (.iaload, 1) := by decide +kernel
theorem eL_law_464 : decode rL_law.2.1 464 = .ok (.invokevirtual 195, 3) := by decide +kernel
theorem eL_law_467 : decode rL_law.2.1 467 = .ok (.istore 7, 2) := by decide +kernel
theorem eL_law_469 : decode rL_law.2.1 469 = .ok (.aload_n 2, 1) := by decide +kernel
theorem eL_law_470 : decode rL_law.2.1 470 = .ok (.invokevirtual 185, 3) := by decide +kernel
theorem eL_law_473 : decode rL_law.2.1 473 = .ok (.iload 6, 2) := by decide +kernel
theorem eL_law_475 : decode rL_law.2.1 475 = .ok (.if_icmp .eq 5, 3) := by decide +kernel
theorem eL_law_478 : decode rL_law.2.1 478 = .ok (.iconst 0, 1) := by decide +kernel
theorem eL_law_479 : decode rL_law.2.1 479 = .ok (.ireturn, 1) := by decide +kernel
theorem eL_law_480 : decode rL_law.2.1 480 = .ok (.iload 6, 2) := by decide +kernel
theorem eL_law_482 : decode rL_law.2.1 482 = .ok (.ifCond .ne 15, 3) := by decide +kernel
theorem eL_law_485 : decode rL_law.2.1 485 = .ok (.aload_n 3, 1) := by decide +kernel
theorem eL_law_486 : decode rL_law.2.1 486 = .ok (.iconst 0, 1) := by decide +kernel
theorem eL_law_487 : decode rL_law.2.1 487 = .ok (.laload, 1) := by decide +kernel
theorem eL_law_488 : decode rL_law.2.1 488 = .ok (.iload 7, 2) := by decide +kernel
theorem eL_law_490 : decode rL_law.2.1 490 = .ok (.i2l, 1) := by decide +kernel
theorem eL_law_491 : decode rL_law.2.1 491 = .ok (.lcmp, 1) := by decide +kernel
theorem eL_law_492 : decode rL_law.2.1 492 = .ok (.ifCond .eq 5, 3) := by decide +kernel
theorem eL_law_495 : decode rL_law.2.1 495 = .ok (.iconst 0, 1) := by decide +kernel
theorem eL_law_496 : decode rL_law.2.1 496 = .ok (.ireturn, 1) := by decide +kernel
theorem eL_law_497 : decode rL_law.2.1 497 = .ok (.goto 2722, 3) := by decide +kernel
theorem eL_law_500 : decode rL_law.2.1 500 = .ok (.aload_n 1, 1) := by decide +kernel
theorem eL_law_501 : decode rL_law.2.1 501 = .ok (.aload_n 0, 1) := by decide +kernel
theorem eL_law_502 : decode rL_law.2.1 502 = .ok (.iload 5, 2) := by decide +kernel
theorem eL_law_504 : decode rL_law.2.1 504 = .ok (.iconst 1, 1) := by decide +kernel
theorem eL_law_505 : decode rL_law.2.1 505 = .ok (.iadd, 1) := by decide +kernel
theorem eL_law_506 : decode rL_law.2.1 506 = .ok (.iaload, 1) := by decide +kernel
theorem eL_law_507 : decode rL_law.2.1 507 = .ok (.aload_n 3, 1) := by decide +kernel
theorem eL_law_508 : decode rL_law.2.1 508 = .ok (.invokestatic 196, 3) := by decide +kernel
theorem eL_law_511 : decode rL_law.2.1 511 = .ok (.istore 6, 2) := by decide +kernel
theorem eL_law_513 : decode rL_law.2.1 513 = .ok (.aload_n 2, 1) := by decide +kernel
theorem eL_law_514 : decode rL_law.2.1 514 = .ok (.aload_n 0, 1) := by decide +kernel
theorem eL_law_515 : decode rL_law.2.1 515 = .ok (.iload 5, 2) := by decide +kernel
theorem eL_law_517 : decode rL_law.2.1 517 = .ok (.iconst 1, 1) := by decide +kernel
theorem eL_law_518 : decode rL_law.2.1 518 = .ok (.iadd, 1) := by decide +kernel
theorem eL_law_519 : decode rL_law.2.1 519 = .ok (.iaload, 1) := by decide +kernel
theorem eL_law_520 : decode rL_law.2.1 520 = .ok (.invokevirtual 198, 3) := by decide +kernel
theorem eL_law_523 : decode rL_law.2.1 523 = .ok (.istore 7, 2) := by decide +kernel
theorem eL_law_525 : decode rL_law.2.1 525 = .ok (.aload_n 2, 1) := by decide +kernel
theorem eL_law_526 : decode rL_law.2.1 526 = .ok (.invokevirtual 185, 3) := by decide +kernel
theorem eL_law_529 : decode rL_law.2.1 529 = .ok (.iload 6, 2) := by decide +kernel
theorem eL_law_531 : decode rL_law.2.1 531 = .ok (.if_icmp .eq 5, 3) := by decide +kernel
theorem eL_law_534 : decode rL_law.2.1 534 = .ok (.iconst 0, 1) := by decide +kernel
theorem eL_law_535 : decode rL_law.2.1 535 = .ok (.ireturn, 1) := by decide +kernel
theorem eL_law_536 : decode rL_law.2.1 536 = .ok (.iload 6, 2) := by decide +kernel
theorem eL_law_538 : decode rL_law.2.1 538 = .ok (.ifCond .ne 15, 3) := by decide +kernel
theorem eL_law_541 : decode rL_law.2.1 541 = .ok (.aload_n 3, 1) := by decide +kernel
theorem eL_law_542 : decode rL_law.2.1 542 = .ok (.iconst 0, 1) := by decide +kernel
theorem eL_law_543 : decode rL_law.2.1 543 = .ok (.laload, 1) := by decide +kernel
theorem eL_law_544 : decode rL_law.2.1 544 = .ok (.iload 7, 2) := by decide +kernel
theorem eL_law_546 : decode rL_law.2.1 546 = .ok (.i2l, 1) := by decide +kernel
theorem eL_law_547 : decode rL_law.2.1 547 = .ok (.lcmp, 1) := by decide +kernel
theorem eL_law_548 : decode rL_law.2.1 548 = .ok (.ifCond .eq 5, 3) := by decide +kernel
theorem eL_law_551 : decode rL_law.2.1 551 = .ok (.iconst 0, 1) := by decide +kernel
theorem eL_law_552 : decode rL_law.2.1 552 = .ok (.ireturn, 1) := by decide +kernel
theorem eL_law_553 : decode rL_law.2.1 553 = .ok (.goto 2666, 3) := by decide +kernel
theorem eL_law_556 : decode rL_law.2.1 556 = .ok (.aload_n 1, 1) := by decide +kernel
theorem eL_law_557 : decode rL_law.2.1 557 = .ok (.aload_n 0, 1) := by decide +kernel
theorem eL_law_558 : decode rL_law.2.1 558 = .ok (.iload 5, 2) := by decide +kernel
theorem eL_law_560 : decode rL_law.2.1 560 = .ok (.iconst 1, 1) := by decide +kernel
theorem eL_law_561 : decode rL_law.2.1 561 = .ok (.iadd, 1) := by decide +kernel
theorem eL_law_562 : decode rL_law.2.1 562 = .ok (.iaload, 1) := by decide +kernel
theorem eL_law_563 : decode rL_law.2.1 563 = .ok (.aload_n 3, 1) := by decide +kernel
theorem eL_law_564 : decode rL_law.2.1 564 = .ok (.invokestatic 199, 3) := by decide +kernel
theorem eL_law_567 : decode rL_law.2.1 567 = .ok (.istore 6, 2) := by decide +kernel
theorem eL_law_569 : decode rL_law.2.1 569 = .ok (.aload_n 2, 1) := by decide +kernel
theorem eL_law_570 : decode rL_law.2.1 570 = .ok (.aload_n 0, 1) := by decide +kernel
theorem eL_law_571 : decode rL_law.2.1 571 = .ok (.iload 5, 2) := by decide +kernel
theorem eL_law_573 : decode rL_law.2.1 573 = .ok (.iconst 1, 1) := by decide +kernel
theorem eL_law_574 : decode rL_law.2.1 574 = .ok (.iadd, 1) := by decide +kernel
theorem eL_law_575 : decode rL_law.2.1 575 = .ok (.iaload, 1) := by decide +kernel
theorem eL_law_576 : decode rL_law.2.1 576 = .ok (.invokevirtual 201, 3) := by decide +kernel
theorem eL_law_579 : decode rL_law.2.1 579 = .ok (.istore 7, 2) := by decide +kernel
theorem eL_law_581 : decode rL_law.2.1 581 = .ok (.aload_n 2, 1) := by decide +kernel
theorem eL_law_582 : decode rL_law.2.1 582 = .ok (.invokevirtual 185, 3) := by decide +kernel
theorem eL_law_585 : decode rL_law.2.1 585 = .ok (.iload 6, 2) := by decide +kernel
theorem eL_law_587 : decode rL_law.2.1 587 = .ok (.if_icmp .eq 5, 3) := by decide +kernel
theorem eL_law_590 : decode rL_law.2.1 590 = .ok (.iconst 0, 1) := by decide +kernel
theorem eL_law_591 : decode rL_law.2.1 591 = .ok (.ireturn, 1) := by decide +kernel
theorem eL_law_592 : decode rL_law.2.1 592 = .ok (.iload 6, 2) := by decide +kernel
theorem eL_law_594 : decode rL_law.2.1 594 = .ok (.ifCond .ne 15, 3) := by decide +kernel
theorem eL_law_597 : decode rL_law.2.1 597 = .ok (.aload_n 3, 1) := by decide +kernel
theorem eL_law_598 : decode rL_law.2.1 598 = .ok (.iconst 0, 1) := by decide +kernel
theorem eL_law_599 : decode rL_law.2.1 599 = .ok (.laload, 1) := by decide +kernel
theorem eL_law_600 : decode rL_law.2.1 600 = .ok (.iload 7, 2) := by decide +kernel
theorem eL_law_602 : decode rL_law.2.1 602 = .ok (.i2l, 1) := by decide +kernel
theorem eL_law_603 : decode rL_law.2.1 603 = .ok (.lcmp, 1) := by decide +kernel
theorem eL_law_604 : decode rL_law.2.1 604 = .ok (.ifCond .eq 5, 3) := by decide +kernel
theorem eL_law_607 : decode rL_law.2.1 607 = .ok (.iconst 0, 1) := by decide +kernel
theorem eL_law_608 : decode rL_law.2.1 608 = .ok (.ireturn, 1) := by decide +kernel
theorem eL_law_609 : decode rL_law.2.1 609 = .ok (.goto 2610, 3) := by decide +kernel
theorem eL_law_612 : decode rL_law.2.1 612 = .ok (.aload_n 1, 1) := by decide +kernel
theorem eL_law_613 : decode rL_law.2.1 613 = .ok (.aload_n 0, 1) := by decide +kernel
theorem eL_law_614 : decode rL_law.2.1 614 = .ok (.iload 5, 2) := by decide +kernel
theorem eL_law_616 : decode rL_law.2.1 616 = .ok (.iconst 1, 1) := by decide +kernel
theorem eL_law_617 : decode rL_law.2.1 617 = .ok (.iadd, 1) := by decide +kernel
theorem eL_law_618 : decode rL_law.2.1 618 = .ok (.iaload, 1) := by decide +kernel
theorem eL_law_619 : decode rL_law.2.1 619 = .ok (.aload_n 0, 1) := by decide +kernel
theorem eL_law_620 : decode rL_law.2.1 620 = .ok (.iload 5, 2) := by decide +kernel
theorem eL_law_622 : decode rL_law.2.1 622 = .ok (.iconst 2, 1) := by decide +kernel
theorem eL_law_623 : decode rL_law.2.1 623 = .ok (.iadd, 1) := by decide +kernel
theorem eL_law_624 : decode rL_law.2.1 624 = .ok (.iaload, 1) := by decide +kernel
theorem eL_law_625 : decode rL_law.2.1 625 = .ok (.aload_n 3, 1) := by decide +kernel
theorem eL_law_626 : decode rL_law.2.1 626 = .ok (.invokestatic 202, 3) := by decide +kernel
theorem eL_law_629 : decode rL_law.2.1 629 = .ok (.istore 6, 2) := by decide +kernel
theorem eL_law_631 : decode rL_law.2.1 631 = .ok (.aload_n 2, 1) := by decide +kernel
theorem eL_law_632 : decode rL_law.2.1 632 = .ok (.aload_n 0, 1) := by decide +kernel
theorem eL_law_633 : decode rL_law.2.1 633 = .ok (.iload 5, 2) := by decide +kernel
theorem eL_law_635 : decode rL_law.2.1 635 = .ok (.iconst 1, 1) := by decide +kernel
theorem eL_law_636 : decode rL_law.2.1 636 = .ok (.iadd, 1) := by decide +kernel
theorem eL_law_637 : decode rL_law.2.1 637 = .ok (.iaload, 1) := by decide +kernel
theorem eL_law_638 : decode rL_law.2.1 638 = .ok (.aload_n 0, 1) := by decide +kernel
theorem eL_law_639 : decode rL_law.2.1 639 = .ok (.iload 5, 2) := by decide +kernel
theorem eL_law_641 : decode rL_law.2.1 641 = .ok (.iconst 2, 1) := by decide +kernel
theorem eL_law_642 : decode rL_law.2.1 642 = .ok (.iadd, 1) := by decide +kernel
theorem eL_law_643 : decode rL_law.2.1 643 = .ok (.iaload, 1) := by decide +kernel
theorem eL_law_644 : decode rL_law.2.1 644 = .ok (.invokevirtual 204, 3) := by decide +kernel
theorem eL_law_647 : decode rL_law.2.1 647 = .ok (.istore 7, 2) := by decide +kernel
theorem eL_law_649 : decode rL_law.2.1 649 = .ok (.aload_n 2, 1) := by decide +kernel
theorem eL_law_650 : decode rL_law.2.1 650 = .ok (.invokevirtual 185, 3) := by decide +kernel
theorem eL_law_653 : decode rL_law.2.1 653 = .ok (.iload 6, 2) := by decide +kernel
theorem eL_law_655 : decode rL_law.2.1 655 = .ok (.if_icmp .eq 5, 3) := by decide +kernel
theorem eL_law_658 : decode rL_law.2.1 658 = .ok (.iconst 0, 1) := by decide +kernel
theorem eL_law_659 : decode rL_law.2.1 659 = .ok (.ireturn, 1) := by decide +kernel
theorem eL_law_660 : decode rL_law.2.1 660 = .ok (.iload 6, 2) := by decide +kernel
theorem eL_law_662 : decode rL_law.2.1 662 = .ok (.ifCond .ne 15, 3) := by decide +kernel
theorem eL_law_665 : decode rL_law.2.1 665 = .ok (.aload_n 3, 1) := by decide +kernel
theorem eL_law_666 : decode rL_law.2.1 666 = .ok (.iconst 0, 1) := by decide +kernel
theorem eL_law_667 : decode rL_law.2.1 667 = .ok (.laload, 1) := by decide +kernel
theorem eL_law_668 : decode rL_law.2.1 668 = .ok (.iload 7, 2) := by decide +kernel
theorem eL_law_670 : decode rL_law.2.1 670 = .ok (.i2l, 1) := by decide +kernel
theorem eL_law_671 : decode rL_law.2.1 671 = .ok (.lcmp, 1) := by decide +kernel
theorem eL_law_672 : decode rL_law.2.1 672 = .ok (.ifCond .eq 5, 3) := by decide +kernel
theorem eL_law_675 : decode rL_law.2.1 675 = .ok (.iconst 0, 1) := by decide +kernel
theorem eL_law_676 : decode rL_law.2.1 676 = .ok (.ireturn, 1) := by decide +kernel
theorem eL_law_677 : decode rL_law.2.1 677 = .ok (.goto 2542, 3) := by decide +kernel
theorem eL_law_680 : decode rL_law.2.1 680 = .ok (.aload_n 1, 1) := by decide +kernel
theorem eL_law_681 : decode rL_law.2.1 681 = .ok (.aload_n 0, 1) := by decide +kernel
theorem eL_law_682 : decode rL_law.2.1 682 = .ok (.iload 5, 2) := by decide +kernel
theorem eL_law_684 : decode rL_law.2.1 684 = .ok (.iconst 1, 1) := by decide +kernel
theorem eL_law_685 : decode rL_law.2.1 685 = .ok (.iadd, 1) := by decide +kernel
theorem eL_law_686 : decode rL_law.2.1 686 = .ok (.iaload, 1) := by decide +kernel
theorem eL_law_687 : decode rL_law.2.1 687 = .ok (.aload_n 3, 1) := by decide +kernel
theorem eL_law_688 : decode rL_law.2.1 688 = .ok (.invokestatic 205, 3) := by decide +kernel
theorem eL_law_691 : decode rL_law.2.1 691 = .ok (.istore 6, 2) := by decide +kernel
theorem eL_law_693 : decode rL_law.2.1 693 = .ok (.aload_n 2, 1) := by decide +kernel
theorem eL_law_694 : decode rL_law.2.1 694 = .ok (.aload_n 0, 1) := by decide +kernel
theorem eL_law_695 : decode rL_law.2.1 695 = .ok (.iload 5, 2) := by decide +kernel
theorem eL_law_697 : decode rL_law.2.1 697 = .ok (.iconst 1, 1) := by decide +kernel
theorem eL_law_698 : decode rL_law.2.1 698 = .ok (.iadd, 1) := by decide +kernel
theorem eL_law_699 : decode rL_law.2.1 699 = .ok (.iaload, 1) := by decide +kernel
theorem eL_law_700 : decode rL_law.2.1 700 = .ok (.invokevirtual 207, 3) := by decide +kernel
theorem eL_law_703 : decode rL_law.2.1 703 = .ok (.istore 7, 2) := by decide +kernel
theorem eL_law_705 : decode rL_law.2.1 705 = .ok (.aload_n 2, 1) := by decide +kernel
theorem eL_law_706 : decode rL_law.2.1 706 = .ok (.invokevirtual 185, 3) := by decide +kernel
theorem eL_law_709 : decode rL_law.2.1 709 = .ok (.iload 6, 2) := by decide +kernel
theorem eL_law_711 : decode rL_law.2.1 711 = .ok (.if_icmp .eq 5, 3) := by decide +kernel
theorem eL_law_714 : decode rL_law.2.1 714 = .ok (.iconst 0, 1) := by decide +kernel
theorem eL_law_715 : decode rL_law.2.1 715 = .ok (.ireturn, 1) := by decide +kernel
theorem eL_law_716 : decode rL_law.2.1 716 = .ok (.iload 6, 2) := by decide +kernel
theorem eL_law_718 : decode rL_law.2.1 718 = .ok (.ifCond .ne 15, 3) := by decide +kernel
theorem eL_law_721 : decode rL_law.2.1 721 = .ok (.aload_n 3, 1) := by decide +kernel
theorem eL_law_722 : decode rL_law.2.1 722 = .ok (.iconst 0, 1) := by decide +kernel
theorem eL_law_723 : decode rL_law.2.1 723 = .ok (.laload, 1) := by decide +kernel
theorem eL_law_724 : decode rL_law.2.1 724 = .ok (.iload 7, 2) := by decide +kernel
theorem eL_law_726 : decode rL_law.2.1 726 = .ok (.i2l, 1) := by decide +kernel
theorem eL_law_727 : decode rL_law.2.1 727 = .ok (.lcmp, 1) := by decide +kernel
theorem eL_law_728 : decode rL_law.2.1 728 = .ok (.ifCond .eq 5, 3) := by decide +kernel
theorem eL_law_731 : decode rL_law.2.1 731 = .ok (.iconst 0, 1) := by decide +kernel
theorem eL_law_732 : decode rL_law.2.1 732 = .ok (.ireturn, 1) := by decide +kernel
theorem eL_law_733 : decode rL_law.2.1 733 = .ok (.goto 2486, 3) := by decide +kernel
theorem eL_law_736 : decode rL_law.2.1 736 = .ok (.aload_n 1, 1) := by decide +kernel
theorem eL_law_737 : decode rL_law.2.1 737 = .ok (.invokevirtual 208, 3) := by decide +kernel
theorem eL_law_740 : decode rL_law.2.1 740 = .ok (.aload_n 2, 1) := by decide +kernel
theorem eL_law_741 : decode rL_law.2.1 741 = .ok (.invokevirtual 211, 3) := by decide +kernel
theorem eL_law_744 : decode rL_law.2.1 744 = .ok (.if_icmp .eq 2475, 3) := by decide +kernel
theorem eL_law_747 : decode rL_law.2.1 747 = .ok (.iconst 0, 1) := by decide +kernel
theorem eL_law_748 : decode rL_law.2.1 748 = .ok (.ireturn, 1) := by decide +kernel
theorem eL_law_749 : decode rL_law.2.1 749 = .ok (.aload_n 1, 1) := by decide +kernel
theorem eL_law_750 : decode rL_law.2.1 750 = .ok (.aload_n 0, 1) := by decide +kernel
theorem eL_law_751 : decode rL_law.2.1 751 = .ok (.iload 5, 2) := by decide +kernel
theorem eL_law_753 : decode rL_law.2.1 753 = .ok (.iconst 1, 1) := by decide +kernel
theorem eL_law_754 : decode rL_law.2.1 754 = .ok (.iadd, 1) := by decide +kernel
theorem eL_law_755 : decode rL_law.2.1 755 = .ok (.iaload, 1) := by decide +kernel
theorem eL_law_756 : decode rL_law.2.1 756 = .ok (.aload_n 3, 1) := by decide +kernel
theorem eL_law_757 : decode rL_law.2.1 757 = .ok (.invokestatic 212, 3) := by decide +kernel
theorem eL_law_760 : decode rL_law.2.1 760 = .ok (.istore 6, 2) := by decide +kernel
theorem eL_law_762 : decode rL_law.2.1 762 = .ok (.aload_n 2, 1) := by decide +kernel
theorem eL_law_763 : decode rL_law.2.1 763 = .ok (.aload_n 0, 1) := by decide +kernel
theorem eL_law_764 : decode rL_law.2.1 764 = .ok (.iload 5, 2) := by decide +kernel
theorem eL_law_766 : decode rL_law.2.1 766 = .ok (.iconst 1, 1) := by decide +kernel
theorem eL_law_767 : decode rL_law.2.1 767 = .ok (.iadd, 1) := by decide +kernel
theorem eL_law_768 : decode rL_law.2.1 768 = .ok (.iaload, 1) := by decide +kernel
theorem eL_law_769 : decode rL_law.2.1 769 = .ok (.invokevirtual 214, 3) := by decide +kernel
theorem eL_law_772 : decode rL_law.2.1 772 = .ok (.istore 7, 2) := by decide +kernel
theorem eL_law_774 : decode rL_law.2.1 774 = .ok (.aload_n 2, 1) := by decide +kernel
theorem eL_law_775 : decode rL_law.2.1 775 = .ok (.invokevirtual 185, 3) := by decide +kernel
theorem eL_law_778 : decode rL_law.2.1 778 = .ok (.iload 6, 2) := by decide +kernel
theorem eL_law_780 : decode rL_law.2.1 780 = .ok (.if_icmp .eq 5, 3) := by decide +kernel
theorem eL_law_783 : decode rL_law.2.1 783 = .ok (.iconst 0, 1) := by decide +kernel
theorem eL_law_784 : decode rL_law.2.1 784 = .ok (.ireturn, 1) := by decide +kernel
theorem eL_law_785 : decode rL_law.2.1 785 = .ok (.iload 6, 2) := by decide +kernel
theorem eL_law_787 : decode rL_law.2.1 787 = .ok (.ifCond .ne 15, 3) := by decide +kernel
theorem eL_law_790 : decode rL_law.2.1 790 = .ok (.aload_n 3, 1) := by decide +kernel
theorem eL_law_791 : decode rL_law.2.1 791 = .ok (.iconst 0, 1) := by decide +kernel
theorem eL_law_792 : decode rL_law.2.1 792 = .ok (.laload, 1) := by decide +kernel
theorem eL_law_793 : decode rL_law.2.1 793 = .ok (.iload 7, 2) := by decide +kernel
theorem eL_law_795 : decode rL_law.2.1 795 = .ok (.i2l, 1) := by decide +kernel
theorem eL_law_796 : decode rL_law.2.1 796 = .ok (.lcmp, 1) := by decide +kernel
theorem eL_law_797 : decode rL_law.2.1 797 = .ok (.ifCond .eq 5, 3) := by decide +kernel
theorem eL_law_800 : decode rL_law.2.1 800 = .ok (.iconst 0, 1) := by decide +kernel
theorem eL_law_801 : decode rL_law.2.1 801 = .ok (.ireturn, 1) := by decide +kernel
theorem eL_law_802 : decode rL_law.2.1 802 = .ok (.goto 2417, 3) := by decide +kernel
theorem eL_law_805 : decode rL_law.2.1 805 = .ok (.aload_n 1, 1) := by decide +kernel
theorem eL_law_806 : decode rL_law.2.1 806 = .ok (.aload_n 0, 1) := by decide +kernel
theorem eL_law_807 : decode rL_law.2.1 807 = .ok (.iload 5, 2) := by decide +kernel
theorem eL_law_809 : decode rL_law.2.1 809 = .ok (.iconst 1, 1) := by decide +kernel
theorem eL_law_810 : decode rL_law.2.1 810 = .ok (.iadd, 1) := by decide +kernel
theorem eL_law_811 : decode rL_law.2.1 811 = .ok (.iaload, 1) := by decide +kernel
theorem eL_law_812 : decode rL_law.2.1 812 = .ok (.aload_n 3, 1) := by decide +kernel
theorem eL_law_813 : decode rL_law.2.1 813 = .ok (.invokestatic 215, 3) := by decide +kernel
theorem eL_law_816 : decode rL_law.2.1 816 = .ok (.istore 6, 2) := by decide +kernel
theorem eL_law_818 : decode rL_law.2.1 818 = .ok (.aload_n 2, 1) := by decide +kernel
theorem eL_law_819 : decode rL_law.2.1 819 = .ok (.aload_n 0, 1) := by decide +kernel
theorem eL_law_820 : decode rL_law.2.1 820 = .ok (.iload 5, 2) := by decide +kernel
theorem eL_law_822 : decode rL_law.2.1 822 = .ok (.iconst 1, 1) := by decide +kernel
theorem eL_law_823 : decode rL_law.2.1 823 = .ok (.iadd, 1) := by decide +kernel
theorem eL_law_824 : decode rL_law.2.1 824 = .ok (.iaload, 1) := by decide +kernel
theorem eL_law_825 : decode rL_law.2.1 825 = .ok (.invokevirtual 217, 3) := by decide +kernel
theorem eL_law_828 : decode rL_law.2.1 828 = .ok (.istore 7, 2) := by decide +kernel
theorem eL_law_830 : decode rL_law.2.1 830 = .ok (.aload_n 2, 1) := by decide +kernel
theorem eL_law_831 : decode rL_law.2.1 831 = .ok (.invokevirtual 185, 3) := by decide +kernel
theorem eL_law_834 : decode rL_law.2.1 834 = .ok (.iload 6, 2) := by decide +kernel
theorem eL_law_836 : decode rL_law.2.1 836 = .ok (.if_icmp .eq 5, 3) := by decide +kernel
theorem eL_law_839 : decode rL_law.2.1 839 = .ok (.iconst 0, 1) := by decide +kernel
theorem eL_law_840 : decode rL_law.2.1 840 = .ok (.ireturn, 1) := by decide +kernel
theorem eL_law_841 : decode rL_law.2.1 841 = .ok (.iload 6, 2) := by decide +kernel
theorem eL_law_843 : decode rL_law.2.1 843 = .ok (.ifCond .ne 15, 3) := by decide +kernel
theorem eL_law_846 : decode rL_law.2.1 846 = .ok (.aload_n 3, 1) := by decide +kernel
theorem eL_law_847 : decode rL_law.2.1 847 = .ok (.iconst 0, 1) := by decide +kernel
theorem eL_law_848 : decode rL_law.2.1 848 = .ok (.laload, 1) := by decide +kernel
theorem eL_law_849 : decode rL_law.2.1 849 = .ok (.iload 7, 2) := by decide +kernel
theorem eL_law_851 : decode rL_law.2.1 851 = .ok (.i2l, 1) := by decide +kernel
theorem eL_law_852 : decode rL_law.2.1 852 = .ok (.lcmp, 1) := by decide +kernel
theorem eL_law_853 : decode rL_law.2.1 853 = .ok (.ifCond .eq 5, 3) := by decide +kernel
theorem eL_law_856 : decode rL_law.2.1 856 = .ok (.iconst 0, 1) := by decide +kernel
theorem eL_law_857 : decode rL_law.2.1 857 = .ok (.ireturn, 1) := by decide +kernel
theorem eL_law_858 : decode rL_law.2.1 858 = .ok (.goto 2361, 3) := by decide +kernel
theorem eL_law_861 : decode rL_law.2.1 861 = .ok (.aload_n 1, 1) := by decide +kernel
theorem eL_law_862 : decode rL_law.2.1 862 = .ok (.aload_n 0, 1) := by decide +kernel
theorem eL_law_863 : decode rL_law.2.1 863 = .ok (.iload 5, 2) := by decide +kernel
theorem eL_law_865 : decode rL_law.2.1 865 = .ok (.iconst 1, 1) := by decide +kernel
theorem eL_law_866 : decode rL_law.2.1 866 = .ok (.iadd, 1) := by decide +kernel
theorem eL_law_867 : decode rL_law.2.1 867 = .ok (.iaload, 1) := by decide +kernel
theorem eL_law_868 : decode rL_law.2.1 868 = .ok (.aload_n 3, 1) := by decide +kernel
theorem eL_law_869 : decode rL_law.2.1 869 = .ok (.invokestatic 218, 3) := by decide +kernel
theorem eL_law_872 : decode rL_law.2.1 872 = .ok (.istore 6, 2) := by decide +kernel
theorem eL_law_874 : decode rL_law.2.1 874 = .ok (.aload_n 2, 1) := by decide +kernel
theorem eL_law_875 : decode rL_law.2.1 875 = .ok (.aload_n 0, 1) := by decide +kernel
theorem eL_law_876 : decode rL_law.2.1 876 = .ok (.iload 5, 2) := by decide +kernel
theorem eL_law_878 : decode rL_law.2.1 878 = .ok (.iconst 1, 1) := by decide +kernel
theorem eL_law_879 : decode rL_law.2.1 879 = .ok (.iadd, 1) := by decide +kernel
theorem eL_law_880 : decode rL_law.2.1 880 = .ok (.iaload, 1) := by decide +kernel
theorem eL_law_881 : decode rL_law.2.1 881 = .ok (.invokevirtual 220, 3) := by decide +kernel
theorem eL_law_884 : decode rL_law.2.1 884 = .ok (.istore 7, 2) := by decide +kernel
theorem eL_law_886 : decode rL_law.2.1 886 = .ok (.aload_n 2, 1) := by decide +kernel
theorem eL_law_887 : decode rL_law.2.1 887 = .ok (.invokevirtual 185, 3) := by decide +kernel
theorem eL_law_890 : decode rL_law.2.1 890 = .ok (.iload 6, 2) := by decide +kernel
theorem eL_law_892 : decode rL_law.2.1 892 = .ok (.if_icmp .eq 5, 3) := by decide +kernel
theorem eL_law_895 : decode rL_law.2.1 895 = .ok (.iconst 0, 1) := by decide +kernel
theorem eL_law_896 : decode rL_law.2.1 896 = .ok (.ireturn, 1) := by decide +kernel
theorem eL_law_897 : decode rL_law.2.1 897 = .ok (.iload 6, 2) := by decide +kernel
theorem eL_law_899 : decode rL_law.2.1 899 = .ok (.ifCond .ne 15, 3) := by decide +kernel
theorem eL_law_902 : decode rL_law.2.1 902 = .ok (.aload_n 3, 1) := by decide +kernel
theorem eL_law_903 : decode rL_law.2.1 903 = .ok (.iconst 0, 1) := by decide +kernel
theorem eL_law_904 : decode rL_law.2.1 904 = .ok (.laload, 1) := by decide +kernel
theorem eL_law_905 : decode rL_law.2.1 905 = .ok (.iload 7, 2) := by decide +kernel
theorem eL_law_907 : decode rL_law.2.1 907 = .ok (.i2l, 1) := by decide +kernel
theorem eL_law_908 : decode rL_law.2.1 908 = .ok (.lcmp, 1) := by decide +kernel
theorem eL_law_909 : decode rL_law.2.1 909 = .ok (.ifCond .eq 5, 3) := by decide +kernel
theorem eL_law_912 : decode rL_law.2.1 912 = .ok (.iconst 0, 1) := by decide +kernel
theorem eL_law_913 : decode rL_law.2.1 913 = .ok (.ireturn, 1) := by decide +kernel
theorem eL_law_914 : decode rL_law.2.1 914 = .ok (.goto 2305, 3) := by decide +kernel
theorem eL_law_917 : decode rL_law.2.1 917 = .ok (.aload_n 1, 1) := by decide +kernel
theorem eL_law_918 : decode rL_law.2.1 918 = .ok (.aload_n 0, 1) := by decide +kernel
theorem eL_law_919 : decode rL_law.2.1 919 = .ok (.iload 5, 2) := by decide +kernel
theorem eL_law_921 : decode rL_law.2.1 921 = .ok (.iconst 1, 1) := by decide +kernel
theorem eL_law_922 : decode rL_law.2.1 922 = .ok (.iadd, 1) := by decide +kernel
theorem eL_law_923 : decode rL_law.2.1 923 = .ok (.iaload, 1) := by decide +kernel
theorem eL_law_924 : decode rL_law.2.1 924 = .ok (.aload_n 3, 1) := by decide +kernel
theorem eL_law_925 : decode rL_law.2.1 925 = .ok (.invokestatic 221, 3) := by decide +kernel
theorem eL_law_928 : decode rL_law.2.1 928 = .ok (.istore 6, 2) := by decide +kernel
theorem eL_law_930 : decode rL_law.2.1 930 = .ok (.aload_n 2, 1) := by decide +kernel
theorem eL_law_931 : decode rL_law.2.1 931 = .ok (.aload_n 0, 1) := by decide +kernel
theorem eL_law_932 : decode rL_law.2.1 932 = .ok (.iload 5, 2) := by decide +kernel
theorem eL_law_934 : decode rL_law.2.1 934 = .ok (.iconst 1, 1) := by decide +kernel
theorem eL_law_935 : decode rL_law.2.1 935 = .ok (.iadd, 1) := by decide +kernel
theorem eL_law_936 : decode rL_law.2.1 936 = .ok (.iaload, 1) := by decide +kernel
theorem eL_law_937 : decode rL_law.2.1 937 = .ok (.invokevirtual 223, 3) := by decide +kernel
theorem eL_law_940 : decode rL_law.2.1 940 = .ok (.istore 7, 2) := by decide +kernel
theorem eL_law_942 : decode rL_law.2.1 942 = .ok (.aload_n 2, 1) := by decide +kernel
theorem eL_law_943 : decode rL_law.2.1 943 = .ok (.invokevirtual 185, 3) := by decide +kernel
theorem eL_law_946 : decode rL_law.2.1 946 = .ok (.iload 6, 2) := by decide +kernel
theorem eL_law_948 : decode rL_law.2.1 948 = .ok (.if_icmp .eq 5, 3) := by decide +kernel
theorem eL_law_951 : decode rL_law.2.1 951 = .ok (.iconst 0, 1) := by decide +kernel
theorem eL_law_952 : decode rL_law.2.1 952 = .ok (.ireturn, 1) := by decide +kernel
theorem eL_law_953 : decode rL_law.2.1 953 = .ok (.iload 6, 2) := by decide +kernel
theorem eL_law_955 : decode rL_law.2.1 955 = .ok (.ifCond .ne 15, 3) := by decide +kernel
theorem eL_law_958 : decode rL_law.2.1 958 = .ok (.aload_n 3, 1) := by decide +kernel
theorem eL_law_959 : decode rL_law.2.1 959 = .ok (.iconst 0, 1) := by decide +kernel
theorem eL_law_960 : decode rL_law.2.1 960 = .ok (.laload, 1) := by decide +kernel
theorem eL_law_961 : decode rL_law.2.1 961 = .ok (.iload 7, 2) := by decide +kernel
theorem eL_law_963 : decode rL_law.2.1 963 = .ok (.i2l, 1) := by decide +kernel
theorem eL_law_964 : decode rL_law.2.1 964 = .ok (.lcmp, 1) := by decide +kernel
theorem eL_law_965 : decode rL_law.2.1 965 = .ok (.ifCond .eq 5, 3) := by decide +kernel
theorem eL_law_968 : decode rL_law.2.1 968 = .ok (.iconst 0, 1) := by decide +kernel
theorem eL_law_969 : decode rL_law.2.1 969 = .ok (.ireturn, 1) := by decide +kernel
theorem eL_law_970 : decode rL_law.2.1 970 = .ok (.goto 2249, 3) := by decide +kernel
theorem eL_law_973 : decode rL_law.2.1 973 = .ok (.aload_n 1, 1) := by decide +kernel
theorem eL_law_974 : decode rL_law.2.1 974 = .ok (.aload_n 0, 1) := by decide +kernel
theorem eL_law_975 : decode rL_law.2.1 975 = .ok (.iload 5, 2) := by decide +kernel
theorem eL_law_977 : decode rL_law.2.1 977 = .ok (.iconst 1, 1) := by decide +kernel
theorem eL_law_978 : decode rL_law.2.1 978 = .ok (.iadd, 1) := by decide +kernel
theorem eL_law_979 : decode rL_law.2.1 979 = .ok (.iaload, 1) := by decide +kernel
theorem eL_law_980 : decode rL_law.2.1 980 = .ok (.aload_n 3, 1) := by decide +kernel
theorem eL_law_981 : decode rL_law.2.1 981 = .ok (.invokestatic 224, 3) := by decide +kernel
theorem eL_law_984 : decode rL_law.2.1 984 = .ok (.istore 6, 2) := by decide +kernel
theorem eL_law_986 : decode rL_law.2.1 986 = .ok (.aload_n 2, 1) := by decide +kernel
theorem eL_law_987 : decode rL_law.2.1 987 = .ok (.aload_n 0, 1) := by decide +kernel
theorem eL_law_988 : decode rL_law.2.1 988 = .ok (.iload 5, 2) := by decide +kernel
theorem eL_law_990 : decode rL_law.2.1 990 = .ok (.iconst 1, 1) := by decide +kernel
theorem eL_law_991 : decode rL_law.2.1 991 = .ok (.iadd, 1) := by decide +kernel
theorem eL_law_992 : decode rL_law.2.1 992 = .ok (.iaload, 1) := by decide +kernel
theorem eL_law_993 : decode rL_law.2.1 993 = .ok (.invokevirtual 226, 3) := by decide +kernel
theorem eL_law_996 : decode rL_law.2.1 996 = .ok (.istore 7, 2) := by decide +kernel
theorem eL_law_998 : decode rL_law.2.1 998 = .ok (.aload_n 2, 1) := by decide +kernel
theorem eL_law_999 : decode rL_law.2.1 999 = .ok (.invokevirtual 185, 3) := by decide +kernel
theorem eL_law_1002 : decode rL_law.2.1 1002 = .ok (.iload 6, 2) := by decide +kernel
theorem eL_law_1004 : decode rL_law.2.1 1004 = .ok (.if_icmp .eq 5, 3) := by decide +kernel
theorem eL_law_1007 : decode rL_law.2.1 1007 = .ok (.iconst 0, 1) := by decide +kernel
theorem eL_law_1008 : decode rL_law.2.1 1008 = .ok (.ireturn, 1) := by decide +kernel
theorem eL_law_1009 : decode rL_law.2.1 1009 = .ok (.iload 6, 2) := by decide +kernel
theorem eL_law_1011 : decode rL_law.2.1 1011 = .ok (.ifCond .ne 15, 3) := by decide +kernel
theorem eL_law_1014 : decode rL_law.2.1 1014 = .ok (.aload_n 3, 1) := by decide +kernel
theorem eL_law_1015 : decode rL_law.2.1 1015 = .ok (.iconst 0, 1) := by decide +kernel
theorem eL_law_1016 : decode rL_law.2.1 1016 = .ok (.laload, 1) := by decide +kernel
theorem eL_law_1017 : decode rL_law.2.1 1017 = .ok (.iload 7, 2) := by decide +kernel
theorem eL_law_1019 : decode rL_law.2.1 1019 = .ok (.i2l, 1) := by decide +kernel
theorem eL_law_1020 : decode rL_law.2.1 1020 = .ok (.lcmp, 1) := by decide +kernel
theorem eL_law_1021 : decode rL_law.2.1 1021 = .ok (.ifCond .eq 5, 3) := by decide +kernel
theorem eL_law_1024 : decode rL_law.2.1 1024 = .ok (.iconst 0, 1) := by decide +kernel
theorem eL_law_1025 : decode rL_law.2.1 1025 = .ok (.ireturn, 1) := by decide +kernel
theorem eL_law_1026 : decode rL_law.2.1 1026 = .ok (.goto 2193, 3) := by decide +kernel
theorem eL_law_1029 : decode rL_law.2.1 1029 = .ok (.aload_n 1, 1) := by decide +kernel
theorem eL_law_1030 : decode rL_law.2.1 1030 = .ok (.aload_n 0, 1) := by decide +kernel
theorem eL_law_1031 : decode rL_law.2.1 1031 = .ok (.iload 5, 2) := by decide +kernel
theorem eL_law_1033 : decode rL_law.2.1 1033 = .ok (.iconst 1, 1) := by decide +kernel
theorem eL_law_1034 : decode rL_law.2.1 1034 = .ok (.iadd, 1) := by decide +kernel
theorem eL_law_1035 : decode rL_law.2.1 1035 = .ok (.iaload, 1) := by decide +kernel
theorem eL_law_1036 : decode rL_law.2.1 1036 = .ok (.aload_n 3, 1) := by decide +kernel
theorem eL_law_1037 : decode rL_law.2.1 1037 = .ok (.invokestatic 227, 3) := by decide +kernel
theorem eL_law_1040 : decode rL_law.2.1 1040 = .ok (.istore 6, 2) := by decide +kernel
theorem eL_law_1042 : decode rL_law.2.1 1042 = .ok (.aload_n 2, 1) := by decide +kernel
theorem eL_law_1043 : decode rL_law.2.1 1043 = .ok (.aload_n 0, 1) := by decide +kernel
theorem eL_law_1044 : decode rL_law.2.1 1044 = .ok (.iload 5, 2) := by decide +kernel
theorem eL_law_1046 : decode rL_law.2.1 1046 = .ok (.iconst 1, 1) := by decide +kernel
theorem eL_law_1047 : decode rL_law.2.1 1047 = .ok (.iadd, 1) := by decide +kernel
theorem eL_law_1048 : decode rL_law.2.1 1048 = .ok (.iaload, 1) := by decide +kernel
theorem eL_law_1049 : decode rL_law.2.1 1049 = .ok (.invokevirtual 229, 3) := by decide +kernel
theorem eL_law_1052 : decode rL_law.2.1 1052 = .ok (.istore 7, 2) := by decide +kernel
theorem eL_law_1054 : decode rL_law.2.1 1054 = .ok (.aload_n 2, 1) := by decide +kernel
theorem eL_law_1055 : decode rL_law.2.1 1055 = .ok (.invokevirtual 185, 3) := by decide +kernel
theorem eL_law_1058 : decode rL_law.2.1 1058 = .ok (.iload 6, 2) := by decide +kernel
theorem eL_law_1060 : decode rL_law.2.1 1060 = .ok (.if_icmp .eq 5, 3) := by decide +kernel
theorem eL_law_1063 : decode rL_law.2.1 1063 = .ok (.iconst 0, 1) := by decide +kernel
theorem eL_law_1064 : decode rL_law.2.1 1064 = .ok (.ireturn, 1) := by decide +kernel
theorem eL_law_1065 : decode rL_law.2.1 1065 = .ok (.iload 6, 2) := by decide +kernel
theorem eL_law_1067 : decode rL_law.2.1 1067 = .ok (.ifCond .ne 15, 3) := by decide +kernel
theorem eL_law_1070 : decode rL_law.2.1 1070 = .ok (.aload_n 3, 1) := by decide +kernel
theorem eL_law_1071 : decode rL_law.2.1 1071 = .ok (.iconst 0, 1) := by decide +kernel
theorem eL_law_1072 : decode rL_law.2.1 1072 = .ok (.laload, 1) := by decide +kernel
theorem eL_law_1073 : decode rL_law.2.1 1073 = .ok (.iload 7, 2) := by decide +kernel
theorem eL_law_1075 : decode rL_law.2.1 1075 = .ok (.i2l, 1) := by decide +kernel
theorem eL_law_1076 : decode rL_law.2.1 1076 = .ok (.lcmp, 1) := by decide +kernel
theorem eL_law_1077 : decode rL_law.2.1 1077 = .ok (.ifCond .eq 5, 3) := by decide +kernel
theorem eL_law_1080 : decode rL_law.2.1 1080 = .ok (.iconst 0, 1) := by decide +kernel
theorem eL_law_1081 : decode rL_law.2.1 1081 = .ok (.ireturn, 1) := by decide +kernel
theorem eL_law_1082 : decode rL_law.2.1 1082 = .ok (.goto 2137, 3) := by decide +kernel
theorem eL_law_1085 : decode rL_law.2.1 1085 = .ok (.aload_n 1, 1) := by decide +kernel
theorem eL_law_1086 : decode rL_law.2.1 1086 = .ok (.aload_n 0, 1) := by decide +kernel
theorem eL_law_1087 : decode rL_law.2.1 1087 = .ok (.iload 5, 2) := by decide +kernel
theorem eL_law_1089 : decode rL_law.2.1 1089 = .ok (.iconst 1, 1) := by decide +kernel
theorem eL_law_1090 : decode rL_law.2.1 1090 = .ok (.iadd, 1) := by decide +kernel
theorem eL_law_1091 : decode rL_law.2.1 1091 = .ok (.iaload, 1) := by decide +kernel
theorem eL_law_1092 : decode rL_law.2.1 1092 = .ok (.aload_n 3, 1) := by decide +kernel
theorem eL_law_1093 : decode rL_law.2.1 1093 = .ok (.invokestatic 230, 3) := by decide +kernel
theorem eL_law_1096 : decode rL_law.2.1 1096 = .ok (.istore 6, 2) := by decide +kernel
theorem eL_law_1098 : decode rL_law.2.1 1098 = .ok (.aload_n 2, 1) := by decide +kernel
theorem eL_law_1099 : decode rL_law.2.1 1099 = .ok (.aload_n 0, 1) := by decide +kernel
theorem eL_law_1100 : decode rL_law.2.1 1100 = .ok (.iload 5, 2) := by decide +kernel
theorem eL_law_1102 : decode rL_law.2.1 1102 = .ok (.iconst 1, 1) := by decide +kernel
theorem eL_law_1103 : decode rL_law.2.1 1103 = .ok (.iadd, 1) := by decide +kernel
theorem eL_law_1104 : decode rL_law.2.1 1104 = .ok (.iaload, 1) := by decide +kernel
theorem eL_law_1105 : decode rL_law.2.1 1105 = .ok (.invokevirtual 232, 3) := by decide +kernel
theorem eL_law_1108 : decode rL_law.2.1 1108 = .ok (.istore 7, 2) := by decide +kernel
theorem eL_law_1110 : decode rL_law.2.1 1110 = .ok (.aload_n 2, 1) := by decide +kernel
theorem eL_law_1111 : decode rL_law.2.1 1111 = .ok (.invokevirtual 185, 3) := by decide +kernel
theorem eL_law_1114 : decode rL_law.2.1 1114 = .ok (.iload 6, 2) := by decide +kernel
theorem eL_law_1116 : decode rL_law.2.1 1116 = .ok (.if_icmp .eq 5, 3) := by decide +kernel
theorem eL_law_1119 : decode rL_law.2.1 1119 = .ok (.iconst 0, 1) := by decide +kernel
theorem eL_law_1120 : decode rL_law.2.1 1120 = .ok (.ireturn, 1) := by decide +kernel
theorem eL_law_1121 : decode rL_law.2.1 1121 = .ok (.iload 6, 2) := by decide +kernel
theorem eL_law_1123 : decode rL_law.2.1 1123 = .ok (.ifCond .ne 15, 3) := by decide +kernel
theorem eL_law_1126 : decode rL_law.2.1 1126 = .ok (.aload_n 3, 1) := by decide +kernel
theorem eL_law_1127 : decode rL_law.2.1 1127 = .ok (.iconst 0, 1) := by decide +kernel
theorem eL_law_1128 : decode rL_law.2.1 1128 = .ok (.laload, 1) := by decide +kernel
theorem eL_law_1129 : decode rL_law.2.1 1129 = .ok (.iload 7, 2) := by decide +kernel
theorem eL_law_1131 : decode rL_law.2.1 1131 = .ok (.i2l, 1) := by decide +kernel
theorem eL_law_1132 : decode rL_law.2.1 1132 = .ok (.lcmp, 1) := by decide +kernel
theorem eL_law_1133 : decode rL_law.2.1 1133 = .ok (.ifCond .eq 5, 3) := by decide +kernel
theorem eL_law_1136 : decode rL_law.2.1 1136 = .ok (.iconst 0, 1) := by decide +kernel
theorem eL_law_1137 : decode rL_law.2.1 1137 = .ok (.ireturn, 1) := by decide +kernel
theorem eL_law_1138 : decode rL_law.2.1 1138 = .ok (.goto 2081, 3) := by decide +kernel
theorem eL_law_1141 : decode rL_law.2.1 1141 = .ok (.aload_n 1, 1) := by decide +kernel
theorem eL_law_1142 : decode rL_law.2.1 1142 = .ok (.aload_n 0, 1) := by decide +kernel
theorem eL_law_1143 : decode rL_law.2.1 1143 = .ok (.iload 5, 2) := by decide +kernel
theorem eL_law_1145 : decode rL_law.2.1 1145 = .ok (.iconst 1, 1) := by decide +kernel
theorem eL_law_1146 : decode rL_law.2.1 1146 = .ok (.iadd, 1) := by decide +kernel
theorem eL_law_1147 : decode rL_law.2.1 1147 = .ok (.iaload, 1) := by decide +kernel
theorem eL_law_1148 : decode rL_law.2.1 1148 = .ok (.aload_n 3, 1) := by decide +kernel
theorem eL_law_1149 : decode rL_law.2.1 1149 = .ok (.invokestatic 233, 3) := by decide +kernel
theorem eL_law_1152 : decode rL_law.2.1 1152 = .ok (.istore 6, 2) := by decide +kernel
theorem eL_law_1154 : decode rL_law.2.1 1154 = .ok (.aload_n 2, 1) := by decide +kernel
theorem eL_law_1155 : decode rL_law.2.1 1155 = .ok (.aload_n 0, 1) := by decide +kernel
theorem eL_law_1156 : decode rL_law.2.1 1156 = .ok (.iload 5, 2) := by decide +kernel
theorem eL_law_1158 : decode rL_law.2.1 1158 = .ok (.iconst 1, 1) := by decide +kernel
theorem eL_law_1159 : decode rL_law.2.1 1159 = .ok (.iadd, 1) := by decide +kernel
theorem eL_law_1160 : decode rL_law.2.1 1160 = .ok (.iaload, 1) := by decide +kernel
theorem eL_law_1161 : decode rL_law.2.1 1161 = .ok (.invokevirtual 235, 3) := by decide +kernel
theorem eL_law_1164 : decode rL_law.2.1 1164 = .ok (.istore 7, 2) := by decide +kernel
theorem eL_law_1166 : decode rL_law.2.1 1166 = .ok (.aload_n 2, 1) := by decide +kernel
theorem eL_law_1167 : decode rL_law.2.1 1167 = .ok (.invokevirtual 185, 3) := by decide +kernel
theorem eL_law_1170 : decode rL_law.2.1 1170 = .ok (.iload 6, 2) := by decide +kernel
theorem eL_law_1172 : decode rL_law.2.1 1172 = .ok (.if_icmp .eq 5, 3) := by decide +kernel
theorem eL_law_1175 : decode rL_law.2.1 1175 = .ok (.iconst 0, 1) := by decide +kernel
theorem eL_law_1176 : decode rL_law.2.1 1176 = .ok (.ireturn, 1) := by decide +kernel
theorem eL_law_1177 : decode rL_law.2.1 1177 = .ok (.iload 6, 2) := by decide +kernel
theorem eL_law_1179 : decode rL_law.2.1 1179 = .ok (.ifCond .ne 22, 3) := by decide +kernel
theorem eL_law_1182 : decode rL_law.2.1 1182 = .ok (.aload_n 3, 1) := by decide +kernel
theorem eL_law_1183 : decode rL_law.2.1 1183 = .ok (.iconst 0, 1) := by decide +kernel
theorem eL_law_1184 : decode rL_law.2.1 1184 = .ok (.laload, 1) := by decide +kernel
theorem eL_law_1185 : decode rL_law.2.1 1185 = .ok (.iload 7, 2) := by decide +kernel
theorem eL_law_1187 : decode rL_law.2.1 1187 = .ok (.ifCond .eq 7, 3) := by decide +kernel
theorem eL_law_1190 : decode rL_law.2.1 1190 = .ok (.lconst 1, 1) := by decide +kernel
theorem eL_law_1191 : decode rL_law.2.1 1191 = .ok (.goto 4, 3) := by decide +kernel
theorem eL_law_1194 : decode rL_law.2.1 1194 = .ok (.lconst 0, 1) := by decide +kernel
theorem eL_law_1195 : decode rL_law.2.1 1195 = .ok (.lcmp, 1) := by decide +kernel
theorem eL_law_1196 : decode rL_law.2.1 1196 = .ok (.ifCond .eq 5, 3) := by decide +kernel
theorem eL_law_1199 : decode rL_law.2.1 1199 = .ok (.iconst 0, 1) := by decide +kernel
theorem eL_law_1200 : decode rL_law.2.1 1200 = .ok (.ireturn, 1) := by decide +kernel
theorem eL_law_1201 : decode rL_law.2.1 1201 = .ok (.goto 2018, 3) := by decide +kernel
theorem eL_law_1204 : decode rL_law.2.1 1204 = .ok (.aload_n 1, 1) := by decide +kernel
theorem eL_law_1205 : decode rL_law.2.1 1205 = .ok (.aload_n 0, 1) := by decide +kernel
theorem eL_law_1206 : decode rL_law.2.1 1206 = .ok (.iload 5, 2) := by decide +kernel
theorem eL_law_1208 : decode rL_law.2.1 1208 = .ok (.iconst 1, 1) := by decide +kernel
theorem eL_law_1209 : decode rL_law.2.1 1209 = .ok (.iadd, 1) := by decide +kernel
theorem eL_law_1210 : decode rL_law.2.1 1210 = .ok (.iaload, 1) := by decide +kernel
theorem eL_law_1211 : decode rL_law.2.1 1211 = .ok (.aload_n 3, 1) := by decide +kernel
theorem eL_law_1212 : decode rL_law.2.1 1212 = .ok (.invokestatic 236, 3) := by decide +kernel
theorem eL_law_1215 : decode rL_law.2.1 1215 = .ok (.istore 6, 2) := by decide +kernel
theorem eL_law_1217 : decode rL_law.2.1 1217 = .ok (.aload_n 2, 1) := by decide +kernel
theorem eL_law_1218 : decode rL_law.2.1 1218 = .ok (.aload_n 0, 1) := by decide +kernel
theorem eL_law_1219 : decode rL_law.2.1 1219 = .ok (.iload 5, 2) := by decide +kernel
theorem eL_law_1221 : decode rL_law.2.1 1221 = .ok (.iconst 1, 1) := by decide +kernel
theorem eL_law_1222 : decode rL_law.2.1 1222 = .ok (.iadd, 1) := by decide +kernel
theorem eL_law_1223 : decode rL_law.2.1 1223 = .ok (.iaload, 1) := by decide +kernel
theorem eL_law_1224 : decode rL_law.2.1 1224 = .ok (.invokevirtual 238, 3) := by decide +kernel
theorem eL_law_1227 : decode rL_law.2.1 1227 = .ok (.istore 7, 2) := by decide +kernel
theorem eL_law_1229 : decode rL_law.2.1 1229 = .ok (.aload_n 2, 1) := by decide +kernel
theorem eL_law_1230 : decode rL_law.2.1 1230 = .ok (.invokevirtual 185, 3) := by decide +kernel
theorem eL_law_1233 : decode rL_law.2.1 1233 = .ok (.iload 6, 2) := by decide +kernel
theorem eL_law_1235 : decode rL_law.2.1 1235 = .ok (.if_icmp .eq 5, 3) := by decide +kernel
theorem eL_law_1238 : decode rL_law.2.1 1238 = .ok (.iconst 0, 1) := by decide +kernel
theorem eL_law_1239 : decode rL_law.2.1 1239 = .ok (.ireturn, 1) := by decide +kernel
theorem eL_law_1240 : decode rL_law.2.1 1240 = .ok (.iload 6, 2) := by decide +kernel
theorem eL_law_1242 : decode rL_law.2.1 1242 = .ok (.ifCond .ne 15, 3) := by decide +kernel
theorem eL_law_1245 : decode rL_law.2.1 1245 = .ok (.aload_n 3, 1) := by decide +kernel
theorem eL_law_1246 : decode rL_law.2.1 1246 = .ok (.iconst 0, 1) := by decide +kernel
theorem eL_law_1247 : decode rL_law.2.1 1247 = .ok (.laload, 1) := by decide +kernel
theorem eL_law_1248 : decode rL_law.2.1 1248 = .ok (.iload 7, 2) := by decide +kernel
theorem eL_law_1250 : decode rL_law.2.1 1250 = .ok (.i2l, 1) := by decide +kernel
theorem eL_law_1251 : decode rL_law.2.1 1251 = .ok (.lcmp, 1) := by decide +kernel
theorem eL_law_1252 : decode rL_law.2.1 1252 = .ok (.ifCond .eq 5, 3) := by decide +kernel
theorem eL_law_1255 : decode rL_law.2.1 1255 = .ok (.iconst 0, 1) := by decide +kernel
theorem eL_law_1256 : decode rL_law.2.1 1256 = .ok (.ireturn, 1) := by decide +kernel
theorem eL_law_1257 : decode rL_law.2.1 1257 = .ok (.goto 1962, 3) := by decide +kernel
theorem eL_law_1260 : decode rL_law.2.1 1260 = .ok (.aload_n 1, 1) := by decide +kernel
theorem eL_law_1261 : decode rL_law.2.1 1261 = .ok (.aload_n 0, 1) := by decide +kernel
theorem eL_law_1262 : decode rL_law.2.1 1262 = .ok (.iload 5, 2) := by decide +kernel
theorem eL_law_1264 : decode rL_law.2.1 1264 = .ok (.iconst 1, 1) := by decide +kernel
theorem eL_law_1265 : decode rL_law.2.1 1265 = .ok (.iadd, 1) := by decide +kernel
theorem eL_law_1266 : decode rL_law.2.1 1266 = .ok (.iaload, 1) := by decide +kernel
theorem eL_law_1267 : decode rL_law.2.1 1267 = .ok (.aload_n 0, 1) := by decide +kernel
theorem eL_law_1268 : decode rL_law.2.1 1268 = .ok (.iload 5, 2) := by decide +kernel
theorem eL_law_1270 : decode rL_law.2.1 1270 = .ok (.iconst 2, 1) := by decide +kernel
theorem eL_law_1271 : decode rL_law.2.1 1271 = .ok (.iadd, 1) := by decide +kernel
theorem eL_law_1272 : decode rL_law.2.1 1272 = .ok (.iaload, 1) := by decide +kernel
theorem eL_law_1273 : decode rL_law.2.1 1273 = .ok (.aload_n 3, 1) := by decide +kernel
theorem eL_law_1274 : decode rL_law.2.1 1274 = .ok (.invokestatic 239, 3) := by decide +kernel
theorem eL_law_1277 : decode rL_law.2.1 1277 = .ok (.istore 6, 2) := by decide +kernel
theorem eL_law_1279 : decode rL_law.2.1 1279 = .ok (.aload_n 2, 1) := by decide +kernel
theorem eL_law_1280 : decode rL_law.2.1 1280 = .ok (.aload_n 0, 1) := by decide +kernel
theorem eL_law_1281 : decode rL_law.2.1 1281 = .ok (.iload 5, 2) := by decide +kernel
theorem eL_law_1283 : decode rL_law.2.1 1283 = .ok (.iconst 1, 1) := by decide +kernel
theorem eL_law_1284 : decode rL_law.2.1 1284 = .ok (.iadd, 1) := by decide +kernel
theorem eL_law_1285 : decode rL_law.2.1 1285 = .ok (.iaload, 1) := by decide +kernel
theorem eL_law_1286 : decode rL_law.2.1 1286 = .ok (.aload_n 0, 1) := by decide +kernel
theorem eL_law_1287 : decode rL_law.2.1 1287 = .ok (.iload 5, 2) := by decide +kernel
theorem eL_law_1289 : decode rL_law.2.1 1289 = .ok (.iconst 2, 1) := by decide +kernel
theorem eL_law_1290 : decode rL_law.2.1 1290 = .ok (.iadd, 1) := by decide +kernel
theorem eL_law_1291 : decode rL_law.2.1 1291 = .ok (.iaload, 1) := by decide +kernel
theorem eL_law_1292 : decode rL_law.2.1 1292 = .ok (.invokevirtual 241, 3) := by decide +kernel
theorem eL_law_1295 : decode rL_law.2.1 1295 = .ok (.istore 7, 2) := by decide +kernel
theorem eL_law_1297 : decode rL_law.2.1 1297 = .ok (.aload_n 2, 1) := by decide +kernel
theorem eL_law_1298 : decode rL_law.2.1 1298 = .ok (.invokevirtual 185, 3) := by decide +kernel
theorem eL_law_1301 : decode rL_law.2.1 1301 = .ok (.iload 6, 2) := by decide +kernel
theorem eL_law_1303 : decode rL_law.2.1 1303 = .ok (.if_icmp .eq 5, 3) := by decide +kernel
theorem eL_law_1306 : decode rL_law.2.1 1306 = .ok (.iconst 0, 1) := by decide +kernel
theorem eL_law_1307 : decode rL_law.2.1 1307 = .ok (.ireturn, 1) := by decide +kernel
theorem eL_law_1308 : decode rL_law.2.1 1308 = .ok (.iload 6, 2) := by decide +kernel
theorem eL_law_1310 : decode rL_law.2.1 1310 = .ok (.ifCond .ne 22, 3) := by decide +kernel
theorem eL_law_1313 : decode rL_law.2.1 1313 = .ok (.aload_n 3, 1) := by decide +kernel
theorem eL_law_1314 : decode rL_law.2.1 1314 = .ok (.iconst 0, 1) := by decide +kernel
theorem eL_law_1315 : decode rL_law.2.1 1315 = .ok (.laload, 1) := by decide +kernel
theorem eL_law_1316 : decode rL_law.2.1 1316 = .ok (.iload 7, 2) := by decide +kernel
theorem eL_law_1318 : decode rL_law.2.1 1318 = .ok (.ifCond .eq 7, 3) := by decide +kernel
theorem eL_law_1321 : decode rL_law.2.1 1321 = .ok (.lconst 1, 1) := by decide +kernel
theorem eL_law_1322 : decode rL_law.2.1 1322 = .ok (.goto 4, 3) := by decide +kernel
theorem eL_law_1325 : decode rL_law.2.1 1325 = .ok (.lconst 0, 1) := by decide +kernel
theorem eL_law_1326 : decode rL_law.2.1 1326 = .ok (.lcmp, 1) := by decide +kernel
theorem eL_law_1327 : decode rL_law.2.1 1327 = .ok (.ifCond .eq 5, 3) := by decide +kernel
theorem eL_law_1330 : decode rL_law.2.1 1330 = .ok (.iconst 0, 1) := by decide +kernel
theorem eL_law_1331 : decode rL_law.2.1 1331 = .ok (.ireturn, 1) := by decide +kernel
theorem eL_law_1332 : decode rL_law.2.1 1332 = .ok (.goto 1887, 3) := by decide +kernel
theorem eL_law_1335 : decode rL_law.2.1 1335 = .ok (.aload_n 1, 1) := by decide +kernel
theorem eL_law_1336 : decode rL_law.2.1 1336 = .ok (.aload_n 0, 1) := by decide +kernel
theorem eL_law_1337 : decode rL_law.2.1 1337 = .ok (.iload 5, 2) := by decide +kernel
theorem eL_law_1339 : decode rL_law.2.1 1339 = .ok (.iconst 1, 1) := by decide +kernel
theorem eL_law_1340 : decode rL_law.2.1 1340 = .ok (.iadd, 1) := by decide +kernel
theorem eL_law_1341 : decode rL_law.2.1 1341 = .ok (.iaload, 1) := by decide +kernel
theorem eL_law_1342 : decode rL_law.2.1 1342 = .ok (.aload_n 3, 1) := by decide +kernel
theorem eL_law_1343 : decode rL_law.2.1 1343 = .ok (.invokestatic 242, 3) := by decide +kernel
theorem eL_law_1346 : decode rL_law.2.1 1346 = .ok (.istore 6, 2) := by decide +kernel
theorem eL_law_1348 : decode rL_law.2.1 1348 = .ok (.aload_n 2, 1) := by decide +kernel
theorem eL_law_1349 : decode rL_law.2.1 1349 = .ok (.aload_n 0, 1) := by decide +kernel
theorem eL_law_1350 : decode rL_law.2.1 1350 = .ok (.iload 5, 2) := by decide +kernel
theorem eL_law_1352 : decode rL_law.2.1 1352 = .ok (.iconst 1, 1) := by decide +kernel
theorem eL_law_1353 : decode rL_law.2.1 1353 = .ok (.iadd, 1) := by decide +kernel
theorem eL_law_1354 : decode rL_law.2.1 1354 = .ok (.iaload, 1) := by decide +kernel
theorem eL_law_1355 : decode rL_law.2.1 1355 = .ok (.invokevirtual 244, 3) := by decide +kernel
theorem eL_law_1358 : decode rL_law.2.1 1358 = .ok (.istore 7, 2) := by decide +kernel
theorem eL_law_1360 : decode rL_law.2.1 1360 = .ok (.aload_n 2, 1) := by decide +kernel
theorem eL_law_1361 : decode rL_law.2.1 1361 = .ok (.invokevirtual 185, 3) := by decide +kernel
theorem eL_law_1364 : decode rL_law.2.1 1364 = .ok (.iload 6, 2) := by decide +kernel
theorem eL_law_1366 : decode rL_law.2.1 1366 = .ok (.if_icmp .eq 5, 3) := by decide +kernel
theorem eL_law_1369 : decode rL_law.2.1 1369 = .ok (.iconst 0, 1) := by decide +kernel
theorem eL_law_1370 : decode rL_law.2.1 1370 = .ok (.ireturn, 1) := by decide +kernel
theorem eL_law_1371 : decode rL_law.2.1 1371 = .ok (.iload 6, 2) := by decide +kernel
theorem eL_law_1373 : decode rL_law.2.1 1373 = .ok (.ifCond .ne 15, 3) := by decide +kernel
theorem eL_law_1376 : decode rL_law.2.1 1376 = .ok (.aload_n 3, 1) := by decide +kernel
theorem eL_law_1377 : decode rL_law.2.1 1377 = .ok (.iconst 0, 1) := by decide +kernel
theorem eL_law_1378 : decode rL_law.2.1 1378 = .ok (.laload, 1) := by decide +kernel
theorem eL_law_1379 : decode rL_law.2.1 1379 = .ok (.iload 7, 2) := by decide +kernel
theorem eL_law_1381 : decode rL_law.2.1 1381 = .ok (.i2l, 1) := by decide +kernel
theorem eL_law_1382 : decode rL_law.2.1 1382 = .ok (.lcmp, 1) := by decide +kernel
theorem eL_law_1383 : decode rL_law.2.1 1383 = .ok (.ifCond .eq 5, 3) := by decide +kernel
theorem eL_law_1386 : decode rL_law.2.1 1386 = .ok (.iconst 0, 1) := by decide +kernel
theorem eL_law_1387 : decode rL_law.2.1 1387 = .ok (.ireturn, 1) := by decide +kernel
theorem eL_law_1388 : decode rL_law.2.1 1388 = .ok (.goto 1831, 3) := by decide +kernel
theorem eL_law_1391 : decode rL_law.2.1 1391 = .ok (.aload_n 1, 1) := by decide +kernel
theorem eL_law_1392 : decode rL_law.2.1 1392 = .ok (.aload_n 0, 1) := by decide +kernel
theorem eL_law_1393 : decode rL_law.2.1 1393 = .ok (.iload 5, 2) := by decide +kernel
theorem eL_law_1395 : decode rL_law.2.1 1395 = .ok (.iconst 1, 1) := by decide +kernel
theorem eL_law_1396 : decode rL_law.2.1 1396 = .ok (.iadd, 1) := by decide +kernel
theorem eL_law_1397 : decode rL_law.2.1 1397 = .ok (.iaload, 1) := by decide +kernel
theorem eL_law_1398 : decode rL_law.2.1 1398 = .ok (.aload_n 3, 1) := by decide +kernel
theorem eL_law_1399 : decode rL_law.2.1 1399 = .ok (.invokestatic 245, 3) := by decide +kernel
theorem eL_law_1402 : decode rL_law.2.1 1402 = .ok (.istore 6, 2) := by decide +kernel
theorem eL_law_1404 : decode rL_law.2.1 1404 = .ok (.aload_n 2, 1) := by decide +kernel
theorem eL_law_1405 : decode rL_law.2.1 1405 = .ok (.aload_n 0, 1) := by decide +kernel
theorem eL_law_1406 : decode rL_law.2.1 1406 = .ok (.iload 5, 2) := by decide +kernel
theorem eL_law_1408 : decode rL_law.2.1 1408 = .ok (.iconst 1, 1) := by decide +kernel
theorem eL_law_1409 : decode rL_law.2.1 1409 = .ok (.iadd, 1) := by decide +kernel
theorem eL_law_1410 : decode rL_law.2.1 1410 = .ok (.iaload, 1) := by decide +kernel
theorem eL_law_1411 : decode rL_law.2.1 1411 = .ok (.invokevirtual 247, 3) := by decide +kernel
theorem eL_law_1414 : decode rL_law.2.1 1414 = .ok (.istore 7, 2) := by decide +kernel
theorem eL_law_1416 : decode rL_law.2.1 1416 = .ok (.aload_n 2, 1) := by decide +kernel
theorem eL_law_1417 : decode rL_law.2.1 1417 = .ok (.invokevirtual 185, 3) := by decide +kernel
theorem eL_law_1420 : decode rL_law.2.1 1420 = .ok (.iload 6, 2) := by decide +kernel
theorem eL_law_1422 : decode rL_law.2.1 1422 = .ok (.if_icmp .eq 5, 3) := by decide +kernel
theorem eL_law_1425 : decode rL_law.2.1 1425 = .ok (.iconst 0, 1) := by decide +kernel
theorem eL_law_1426 : decode rL_law.2.1 1426 = .ok (.ireturn, 1) := by decide +kernel
theorem eL_law_1427 : decode rL_law.2.1 1427 = .ok (.iload 6, 2) := by decide +kernel
theorem eL_law_1429 : decode rL_law.2.1 1429 = .ok (.ifCond .ne 15, 3) := by decide +kernel
theorem eL_law_1432 : decode rL_law.2.1 1432 = .ok (.aload_n 3, 1) := by decide +kernel
theorem eL_law_1433 : decode rL_law.2.1 1433 = .ok (.iconst 0, 1) := by decide +kernel
theorem eL_law_1434 : decode rL_law.2.1 1434 = .ok (.laload, 1) := by decide +kernel
theorem eL_law_1435 : decode rL_law.2.1 1435 = .ok (.iload 7, 2) := by decide +kernel
theorem eL_law_1437 : decode rL_law.2.1 1437 = .ok (.i2l, 1) := by decide +kernel
theorem eL_law_1438 : decode rL_law.2.1 1438 = .ok (.lcmp, 1) := by decide +kernel
theorem eL_law_1439 : decode rL_law.2.1 1439 = .ok (.ifCond .eq 5, 3) := by decide +kernel
theorem eL_law_1442 : decode rL_law.2.1 1442 = .ok (.iconst 0, 1) := by decide +kernel
theorem eL_law_1443 : decode rL_law.2.1 1443 = .ok (.ireturn, 1) := by decide +kernel
theorem eL_law_1444 : decode rL_law.2.1 1444 = .ok (.goto 1775, 3) := by decide +kernel
theorem eL_law_1447 : decode rL_law.2.1 1447 = .ok (.aload_n 1, 1) := by decide +kernel
theorem eL_law_1448 : decode rL_law.2.1 1448 = .ok (.invokevirtual 248, 3) := by decide +kernel
theorem eL_law_1451 : decode rL_law.2.1 1451 = .ok (.aload_n 2, 1) := by decide +kernel
theorem eL_law_1452 : decode rL_law.2.1 1452 = .ok (.invokevirtual 251, 3) := by decide +kernel
theorem eL_law_1455 : decode rL_law.2.1 1455 = .ok (.if_icmp .eq 1764, 3) := by decide +kernel
theorem eL_law_1458 : decode rL_law.2.1 1458 = .ok (.iconst 0, 1) := by decide +kernel
theorem eL_law_1459 : decode rL_law.2.1 1459 = .ok (.ireturn, 1) := by decide +kernel
theorem eL_law_1460 : decode rL_law.2.1 1460 = .ok (.aload_n 1, 1) := by decide +kernel
theorem eL_law_1461 : decode rL_law.2.1 1461 = .ok (.aload_n 0, 1) := by decide +kernel
theorem eL_law_1462 : decode rL_law.2.1 1462 = .ok (.iload 5, 2) := by decide +kernel
theorem eL_law_1464 : decode rL_law.2.1 1464 = .ok (.iconst 1, 1) := by decide +kernel
theorem eL_law_1465 : decode rL_law.2.1 1465 = .ok (.iadd, 1) := by decide +kernel
theorem eL_law_1466 : decode rL_law.2.1 1466 = .ok (.iaload, 1) := by decide +kernel
theorem eL_law_1467 : decode rL_law.2.1 1467 = .ok (.aload_n 3, 1) := by decide +kernel
theorem eL_law_1468 : decode rL_law.2.1 1468 = .ok (.invokestatic 252, 3) := by decide +kernel
theorem eL_law_1471 : decode rL_law.2.1 1471 = .ok (.istore 6, 2) := by decide +kernel
theorem eL_law_1473 : decode rL_law.2.1 1473 = .ok (.aload_n 2, 1) := by decide +kernel
theorem eL_law_1474 : decode rL_law.2.1 1474 = .ok (.aload_n 0, 1) := by decide +kernel
theorem eL_law_1475 : decode rL_law.2.1 1475 = .ok (.iload 5, 2) := by decide +kernel
theorem eL_law_1477 : decode rL_law.2.1 1477 = .ok (.iconst 1, 1) := by decide +kernel
theorem eL_law_1478 : decode rL_law.2.1 1478 = .ok (.iadd, 1) := by decide +kernel
theorem eL_law_1479 : decode rL_law.2.1 1479 = .ok (.iaload, 1) := by decide +kernel
theorem eL_law_1480 : decode rL_law.2.1 1480 = .ok (.invokevirtual 254, 3) := by decide +kernel
theorem eL_law_1483 : decode rL_law.2.1 1483 = .ok (.istore 7, 2) := by decide +kernel
theorem eL_law_1485 : decode rL_law.2.1 1485 = .ok (.aload_n 2, 1) := by decide +kernel
theorem eL_law_1486 : decode rL_law.2.1 1486 = .ok (.invokevirtual 185, 3) := by decide +kernel
theorem eL_law_1489 : decode rL_law.2.1 1489 = .ok (.iload 6, 2) := by decide +kernel
theorem eL_law_1491 : decode rL_law.2.1 1491 = .ok (.if_icmp .eq 5, 3) := by decide +kernel
theorem eL_law_1494 : decode rL_law.2.1 1494 = .ok (.iconst 0, 1) := by decide +kernel
theorem eL_law_1495 : decode rL_law.2.1 1495 = .ok (.ireturn, 1) := by decide +kernel
theorem eL_law_1496 : decode rL_law.2.1 1496 = .ok (.iload 6, 2) := by decide +kernel
theorem eL_law_1498 : decode rL_law.2.1 1498 = .ok (.ifCond .ne 15, 3) := by decide +kernel
theorem eL_law_1501 : decode rL_law.2.1 1501 = .ok (.aload_n 3, 1) := by decide +kernel
theorem eL_law_1502 : decode rL_law.2.1 1502 = .ok (.iconst 0, 1) := by decide +kernel
theorem eL_law_1503 : decode rL_law.2.1 1503 = .ok (.laload, 1) := by decide +kernel
theorem eL_law_1504 : decode rL_law.2.1 1504 = .ok (.iload 7, 2) := by decide +kernel
theorem eL_law_1506 : decode rL_law.2.1 1506 = .ok (.i2l, 1) := by decide +kernel
theorem eL_law_1507 : decode rL_law.2.1 1507 = .ok (.lcmp, 1) := by decide +kernel
theorem eL_law_1508 : decode rL_law.2.1 1508 = .ok (.ifCond .eq 5, 3) := by decide +kernel
theorem eL_law_1511 : decode rL_law.2.1 1511 = .ok (.iconst 0, 1) := by decide +kernel
theorem eL_law_1512 : decode rL_law.2.1 1512 = .ok (.ireturn, 1) := by decide +kernel
theorem eL_law_1513 : decode rL_law.2.1 1513 = .ok (.goto 1706, 3) := by decide +kernel
theorem eL_law_1516 : decode rL_law.2.1 1516 = .ok (.aload_n 1, 1) := by decide +kernel
theorem eL_law_1517 : decode rL_law.2.1 1517 = .ok (.aload_n 0, 1) := by decide +kernel
theorem eL_law_1518 : decode rL_law.2.1 1518 = .ok (.iload 5, 2) := by decide +kernel
theorem eL_law_1520 : decode rL_law.2.1 1520 = .ok (.iconst 1, 1) := by decide +kernel
theorem eL_law_1521 : decode rL_law.2.1 1521 = .ok (.iadd, 1) := by decide +kernel
theorem eL_law_1522 : decode rL_law.2.1 1522 = .ok (.iaload, 1) := by decide +kernel
theorem eL_law_1523 : decode rL_law.2.1 1523 = .ok (.aload_n 3, 1) := by decide +kernel
theorem eL_law_1524 : decode rL_law.2.1 1524 = .ok (.invokestatic 255, 3) := by decide +kernel
theorem eL_law_1527 : decode rL_law.2.1 1527 = .ok (.istore 6, 2) := by decide +kernel
theorem eL_law_1529 : decode rL_law.2.1 1529 = .ok (.aload_n 2, 1) := by decide +kernel
theorem eL_law_1530 : decode rL_law.2.1 1530 = .ok (.aload_n 0, 1) := by decide +kernel
theorem eL_law_1531 : decode rL_law.2.1 1531 = .ok (.iload 5, 2) := by decide +kernel
theorem eL_law_1533 : decode rL_law.2.1 1533 = .ok (.iconst 1, 1) := by decide +kernel
theorem eL_law_1534 : decode rL_law.2.1 1534 = .ok (.iadd, 1) := by decide +kernel
theorem eL_law_1535 : decode rL_law.2.1 1535 = .ok (.iaload, 1) := by decide +kernel
theorem eL_law_1536 : decode rL_law.2.1 1536 = .ok (.invokevirtual 257, 3) := by decide +kernel
theorem eL_law_1539 : decode rL_law.2.1 1539 = .ok (.istore 7, 2) := by decide +kernel
theorem eL_law_1541 : decode rL_law.2.1 1541 = .ok (.aload_n 2, 1) := by decide +kernel
theorem eL_law_1542 : decode rL_law.2.1 1542 = .ok (.invokevirtual 185, 3) := by decide +kernel
theorem eL_law_1545 : decode rL_law.2.1 1545 = .ok (.iload 6, 2) := by decide +kernel
theorem eL_law_1547 : decode rL_law.2.1 1547 = .ok (.if_icmp .eq 5, 3) := by decide +kernel
theorem eL_law_1550 : decode rL_law.2.1 1550 = .ok (.iconst 0, 1) := by decide +kernel
theorem eL_law_1551 : decode rL_law.2.1 1551 = .ok (.ireturn, 1) := by decide +kernel
theorem eL_law_1552 : decode rL_law.2.1 1552 = .ok (.iload 6, 2) := by decide +kernel
theorem eL_law_1554 : decode rL_law.2.1 1554 = .ok (.ifCond .ne 15, 3) := by decide +kernel
theorem eL_law_1557 : decode rL_law.2.1 1557 = .ok (.aload_n 3, 1) := by decide +kernel
theorem eL_law_1558 : decode rL_law.2.1 1558 = .ok (.iconst 0, 1) := by decide +kernel
theorem eL_law_1559 : decode rL_law.2.1 1559 = .ok (.laload, 1) := by decide +kernel
theorem eL_law_1560 : decode rL_law.2.1 1560 = .ok (.iload 7, 2) := by decide +kernel
theorem eL_law_1562 : decode rL_law.2.1 1562 = .ok (.i2l, 1) := by decide +kernel
theorem eL_law_1563 : decode rL_law.2.1 1563 = .ok (.lcmp, 1) := by decide +kernel
theorem eL_law_1564 : decode rL_law.2.1 1564 = .ok (.ifCond .eq 5, 3) := by decide +kernel
theorem eL_law_1567 : decode rL_law.2.1 1567 = .ok (.iconst 0, 1) := by decide +kernel
theorem eL_law_1568 : decode rL_law.2.1 1568 = .ok (.ireturn, 1) := by decide +kernel
theorem eL_law_1569 : decode rL_law.2.1 1569 = .ok (.goto 1650, 3) := by decide +kernel
theorem eL_law_1572 : decode rL_law.2.1 1572 = .ok (.aload_n 1, 1) := by decide +kernel
theorem eL_law_1573 : decode rL_law.2.1 1573 = .ok (.aload_n 0, 1) := by decide +kernel
theorem eL_law_1574 : decode rL_law.2.1 1574 = .ok (.iload 5, 2) := by decide +kernel
theorem eL_law_1576 : decode rL_law.2.1 1576 = .ok (.iconst 1, 1) := by decide +kernel
theorem eL_law_1577 : decode rL_law.2.1 1577 = .ok (.iadd, 1) := by decide +kernel
theorem eL_law_1578 : decode rL_law.2.1 1578 = .ok (.iaload, 1) := by decide +kernel
theorem eL_law_1579 : decode rL_law.2.1 1579 = .ok (.aload_n 3, 1) := by decide +kernel
theorem eL_law_1580 : decode rL_law.2.1 1580 = .ok (.invokestatic 258, 3) := by decide +kernel
theorem eL_law_1583 : decode rL_law.2.1 1583 = .ok (.istore 6, 2) := by decide +kernel
theorem eL_law_1585 : decode rL_law.2.1 1585 = .ok (.aload_n 2, 1) := by decide +kernel
theorem eL_law_1586 : decode rL_law.2.1 1586 = .ok (.aload_n 0, 1) := by decide +kernel
theorem eL_law_1587 : decode rL_law.2.1 1587 = .ok (.iload 5, 2) := by decide +kernel
theorem eL_law_1589 : decode rL_law.2.1 1589 = .ok (.iconst 1, 1) := by decide +kernel
theorem eL_law_1590 : decode rL_law.2.1 1590 = .ok (.iadd, 1) := by decide +kernel
theorem eL_law_1591 : decode rL_law.2.1 1591 = .ok (.iaload, 1) := by decide +kernel
theorem eL_law_1592 : decode rL_law.2.1 1592 = .ok (.invokevirtual 260, 3) := by decide +kernel
theorem eL_law_1595 : decode rL_law.2.1 1595 = .ok (.istore 7, 2) := by decide +kernel
theorem eL_law_1597 : decode rL_law.2.1 1597 = .ok (.aload_n 2, 1) := by decide +kernel
theorem eL_law_1598 : decode rL_law.2.1 1598 = .ok (.invokevirtual 185, 3) := by decide +kernel
theorem eL_law_1601 : decode rL_law.2.1 1601 = .ok (.iload 6, 2) := by decide +kernel
theorem eL_law_1603 : decode rL_law.2.1 1603 = .ok (.if_icmp .eq 5, 3) := by decide +kernel
theorem eL_law_1606 : decode rL_law.2.1 1606 = .ok (.iconst 0, 1) := by decide +kernel
theorem eL_law_1607 : decode rL_law.2.1 1607 = .ok (.ireturn, 1) := by decide +kernel
theorem eL_law_1608 : decode rL_law.2.1 1608 = .ok (.iload 6, 2) := by decide +kernel
theorem eL_law_1610 : decode rL_law.2.1 1610 = .ok (.ifCond .ne 15, 3) := by decide +kernel
theorem eL_law_1613 : decode rL_law.2.1 1613 = .ok (.aload_n 3, 1) := by decide +kernel
theorem eL_law_1614 : decode rL_law.2.1 1614 = .ok (.iconst 0, 1) := by decide +kernel
theorem eL_law_1615 : decode rL_law.2.1 1615 = .ok (.laload, 1) := by decide +kernel
theorem eL_law_1616 : decode rL_law.2.1 1616 = .ok (.iload 7, 2) := by decide +kernel
theorem eL_law_1618 : decode rL_law.2.1 1618 = .ok (.i2l, 1) := by decide +kernel
theorem eL_law_1619 : decode rL_law.2.1 1619 = .ok (.lcmp, 1) := by decide +kernel
theorem eL_law_1620 : decode rL_law.2.1 1620 = .ok (.ifCond .eq 5, 3) := by decide +kernel
theorem eL_law_1623 : decode rL_law.2.1 1623 = .ok (.iconst 0, 1) := by decide +kernel
theorem eL_law_1624 : decode rL_law.2.1 1624 = .ok (.ireturn, 1) := by decide +kernel
theorem eL_law_1625 : decode rL_law.2.1 1625 = .ok (.goto 1594, 3) := by decide +kernel
theorem eL_law_1628 : decode rL_law.2.1 1628 = .ok (.aload_n 1, 1) := by decide +kernel
theorem eL_law_1629 : decode rL_law.2.1 1629 = .ok (.aload_n 0, 1) := by decide +kernel
theorem eL_law_1630 : decode rL_law.2.1 1630 = .ok (.iload 5, 2) := by decide +kernel
theorem eL_law_1632 : decode rL_law.2.1 1632 = .ok (.iconst 1, 1) := by decide +kernel
theorem eL_law_1633 : decode rL_law.2.1 1633 = .ok (.iadd, 1) := by decide +kernel
theorem eL_law_1634 : decode rL_law.2.1 1634 = .ok (.iaload, 1) := by decide +kernel
theorem eL_law_1635 : decode rL_law.2.1 1635 = .ok (.aload_n 3, 1) := by decide +kernel
theorem eL_law_1636 : decode rL_law.2.1 1636 = .ok (.invokestatic 261, 3) := by decide +kernel
theorem eL_law_1639 : decode rL_law.2.1 1639 = .ok (.istore 6, 2) := by decide +kernel
theorem eL_law_1641 : decode rL_law.2.1 1641 = .ok (.aload_n 2, 1) := by decide +kernel
theorem eL_law_1642 : decode rL_law.2.1 1642 = .ok (.aload_n 0, 1) := by decide +kernel
theorem eL_law_1643 : decode rL_law.2.1 1643 = .ok (.iload 5, 2) := by decide +kernel
theorem eL_law_1645 : decode rL_law.2.1 1645 = .ok (.iconst 1, 1) := by decide +kernel
theorem eL_law_1646 : decode rL_law.2.1 1646 = .ok (.iadd, 1) := by decide +kernel
theorem eL_law_1647 : decode rL_law.2.1 1647 = .ok (.iaload, 1) := by decide +kernel
theorem eL_law_1648 : decode rL_law.2.1 1648 = .ok (.invokevirtual 263, 3) := by decide +kernel
theorem eL_law_1651 : decode rL_law.2.1 1651 = .ok (.istore 7, 2) := by decide +kernel
theorem eL_law_1653 : decode rL_law.2.1 1653 = .ok (.aload_n 2, 1) := by decide +kernel
theorem eL_law_1654 : decode rL_law.2.1 1654 = .ok (.invokevirtual 185, 3) := by decide +kernel
theorem eL_law_1657 : decode rL_law.2.1 1657 = .ok (.iload 6, 2) := by decide +kernel
theorem eL_law_1659 : decode rL_law.2.1 1659 = .ok (.if_icmp .eq 5, 3) := by decide +kernel
theorem eL_law_1662 : decode rL_law.2.1 1662 = .ok (.iconst 0, 1) := by decide +kernel
theorem eL_law_1663 : decode rL_law.2.1 1663 = .ok (.ireturn, 1) := by decide +kernel
theorem eL_law_1664 : decode rL_law.2.1 1664 = .ok (.iload 6, 2) := by decide +kernel
theorem eL_law_1666 : decode rL_law.2.1 1666 = .ok (.ifCond .ne 15, 3) := by decide +kernel
theorem eL_law_1669 : decode rL_law.2.1 1669 = .ok (.aload_n 3, 1) := by decide +kernel
theorem eL_law_1670 : decode rL_law.2.1 1670 = .ok (.iconst 0, 1) := by decide +kernel
theorem eL_law_1671 : decode rL_law.2.1 1671 = .ok (.laload, 1) := by decide +kernel
theorem eL_law_1672 : decode rL_law.2.1 1672 = .ok (.iload 7, 2) := by decide +kernel
theorem eL_law_1674 : decode rL_law.2.1 1674 = .ok (.i2l, 1) := by decide +kernel
theorem eL_law_1675 : decode rL_law.2.1 1675 = .ok (.lcmp, 1) := by decide +kernel
theorem eL_law_1676 : decode rL_law.2.1 1676 = .ok (.ifCond .eq 5, 3) := by decide +kernel
theorem eL_law_1679 : decode rL_law.2.1 1679 = .ok (.iconst 0, 1) := by decide +kernel
theorem eL_law_1680 : decode rL_law.2.1 1680 = .ok (.ireturn, 1) := by decide +kernel
theorem eL_law_1681 : decode rL_law.2.1 1681 = .ok (.goto 1538, 3) := by decide +kernel
theorem eL_law_1684 : decode rL_law.2.1 1684 = .ok (.aload_n 1, 1) := by decide +kernel
theorem eL_law_1685 : decode rL_law.2.1 1685 = .ok (.aload_n 0, 1) := by decide +kernel
theorem eL_law_1686 : decode rL_law.2.1 1686 = .ok (.iload 5, 2) := by decide +kernel
theorem eL_law_1688 : decode rL_law.2.1 1688 = .ok (.iconst 1, 1) := by decide +kernel
theorem eL_law_1689 : decode rL_law.2.1 1689 = .ok (.iadd, 1) := by decide +kernel
theorem eL_law_1690 : decode rL_law.2.1 1690 = .ok (.iaload, 1) := by decide +kernel
theorem eL_law_1691 : decode rL_law.2.1 1691 = .ok (.aload_n 3, 1) := by decide +kernel
theorem eL_law_1692 : decode rL_law.2.1 1692 = .ok (.invokestatic 264, 3) := by decide +kernel
theorem eL_law_1695 : decode rL_law.2.1 1695 = .ok (.istore 6, 2) := by decide +kernel
theorem eL_law_1697 : decode rL_law.2.1 1697 = .ok (.aload_n 2, 1) := by decide +kernel
theorem eL_law_1698 : decode rL_law.2.1 1698 = .ok (.aload_n 0, 1) := by decide +kernel
theorem eL_law_1699 : decode rL_law.2.1 1699 = .ok (.iload 5, 2) := by decide +kernel
theorem eL_law_1701 : decode rL_law.2.1 1701 = .ok (.iconst 1, 1) := by decide +kernel
theorem eL_law_1702 : decode rL_law.2.1 1702 = .ok (.iadd, 1) := by decide +kernel
theorem eL_law_1703 : decode rL_law.2.1 1703 = .ok (.iaload, 1) := by decide +kernel
theorem eL_law_1704 : decode rL_law.2.1 1704 = .ok (.invokevirtual 266, 3) := by decide +kernel
theorem eL_law_1707 : decode rL_law.2.1 1707 = .ok (.istore 7, 2) := by decide +kernel
theorem eL_law_1709 : decode rL_law.2.1 1709 = .ok (.aload_n 2, 1) := by decide +kernel
theorem eL_law_1710 : decode rL_law.2.1 1710 = .ok (.invokevirtual 185, 3) := by decide +kernel
theorem eL_law_1713 : decode rL_law.2.1 1713 = .ok (.iload 6, 2) := by decide +kernel
theorem eL_law_1715 : decode rL_law.2.1 1715 = .ok (.if_icmp .eq 5, 3) := by decide +kernel
theorem eL_law_1718 : decode rL_law.2.1 1718 = .ok (.iconst 0, 1) := by decide +kernel
theorem eL_law_1719 : decode rL_law.2.1 1719 = .ok (.ireturn, 1) := by decide +kernel
theorem eL_law_1720 : decode rL_law.2.1 1720 = .ok (.iload 6, 2) := by decide +kernel
theorem eL_law_1722 : decode rL_law.2.1 1722 = .ok (.ifCond .ne 15, 3) := by decide +kernel
theorem eL_law_1725 : decode rL_law.2.1 1725 = .ok (.aload_n 3, 1) := by decide +kernel
theorem eL_law_1726 : decode rL_law.2.1 1726 = .ok (.iconst 0, 1) := by decide +kernel
theorem eL_law_1727 : decode rL_law.2.1 1727 = .ok (.laload, 1) := by decide +kernel
theorem eL_law_1728 : decode rL_law.2.1 1728 = .ok (.iload 7, 2) := by decide +kernel
theorem eL_law_1730 : decode rL_law.2.1 1730 = .ok (.i2l, 1) := by decide +kernel
theorem eL_law_1731 : decode rL_law.2.1 1731 = .ok (.lcmp, 1) := by decide +kernel
theorem eL_law_1732 : decode rL_law.2.1 1732 = .ok (.ifCond .eq 5, 3) := by decide +kernel
theorem eL_law_1735 : decode rL_law.2.1 1735 = .ok (.iconst 0, 1) := by decide +kernel
theorem eL_law_1736 : decode rL_law.2.1 1736 = .ok (.ireturn, 1) := by decide +kernel
theorem eL_law_1737 : decode rL_law.2.1 1737 = .ok (.goto 1482, 3) := by decide +kernel
theorem eL_law_1740 : decode rL_law.2.1 1740 = .ok (.aload_n 1, 1) := by decide +kernel
theorem eL_law_1741 : decode rL_law.2.1 1741 = .ok (.aload_n 0, 1) := by decide +kernel
theorem eL_law_1742 : decode rL_law.2.1 1742 = .ok (.iload 5, 2) := by decide +kernel
theorem eL_law_1744 : decode rL_law.2.1 1744 = .ok (.iconst 1, 1) := by decide +kernel
theorem eL_law_1745 : decode rL_law.2.1 1745 = .ok (.iadd, 1) := by decide +kernel
theorem eL_law_1746 : decode rL_law.2.1 1746 = .ok (.iaload, 1) := by decide +kernel
theorem eL_law_1747 : decode rL_law.2.1 1747 = .ok (.aload_n 3, 1) := by decide +kernel
theorem eL_law_1748 : decode rL_law.2.1 1748 = .ok (.invokestatic 267, 3) := by decide +kernel
theorem eL_law_1751 : decode rL_law.2.1 1751 = .ok (.istore 6, 2) := by decide +kernel
theorem eL_law_1753 : decode rL_law.2.1 1753 = .ok (.aload_n 2, 1) := by decide +kernel
theorem eL_law_1754 : decode rL_law.2.1 1754 = .ok (.aload_n 0, 1) := by decide +kernel
theorem eL_law_1755 : decode rL_law.2.1 1755 = .ok (.iload 5, 2) := by decide +kernel
theorem eL_law_1757 : decode rL_law.2.1 1757 = .ok (.iconst 1, 1) := by decide +kernel
theorem eL_law_1758 : decode rL_law.2.1 1758 = .ok (.iadd, 1) := by decide +kernel
theorem eL_law_1759 : decode rL_law.2.1 1759 = .ok (.iaload, 1) := by decide +kernel
theorem eL_law_1760 : decode rL_law.2.1 1760 = .ok (.invokevirtual 269, 3) := by decide +kernel
theorem eL_law_1763 : decode rL_law.2.1 1763 = .ok (.istore 7, 2) := by decide +kernel
theorem eL_law_1765 : decode rL_law.2.1 1765 = .ok (.aload_n 2, 1) := by decide +kernel
theorem eL_law_1766 : decode rL_law.2.1 1766 = .ok (.invokevirtual 185, 3) := by decide +kernel
theorem eL_law_1769 : decode rL_law.2.1 1769 = .ok (.iload 6, 2) := by decide +kernel
theorem eL_law_1771 : decode rL_law.2.1 1771 = .ok (.if_icmp .eq 5, 3) := by decide +kernel
theorem eL_law_1774 : decode rL_law.2.1 1774 = .ok (.iconst 0, 1) := by decide +kernel
theorem eL_law_1775 : decode rL_law.2.1 1775 = .ok (.ireturn, 1) := by decide +kernel
theorem eL_law_1776 : decode rL_law.2.1 1776 = .ok (.iload 6, 2) := by decide +kernel
theorem eL_law_1778 : decode rL_law.2.1 1778 = .ok (.ifCond .ne 22, 3) := by decide +kernel
theorem eL_law_1781 : decode rL_law.2.1 1781 = .ok (.aload_n 3, 1) := by decide +kernel
theorem eL_law_1782 : decode rL_law.2.1 1782 = .ok (.iconst 0, 1) := by decide +kernel
theorem eL_law_1783 : decode rL_law.2.1 1783 = .ok (.laload, 1) := by decide +kernel
theorem eL_law_1784 : decode rL_law.2.1 1784 = .ok (.iload 7, 2) := by decide +kernel
theorem eL_law_1786 : decode rL_law.2.1 1786 = .ok (.ifCond .eq 7, 3) := by decide +kernel
theorem eL_law_1789 : decode rL_law.2.1 1789 = .ok (.lconst 1, 1) := by decide +kernel
theorem eL_law_1790 : decode rL_law.2.1 1790 = .ok (.goto 4, 3) := by decide +kernel
theorem eL_law_1793 : decode rL_law.2.1 1793 = .ok (.lconst 0, 1) := by decide +kernel
theorem eL_law_1794 : decode rL_law.2.1 1794 = .ok (.lcmp, 1) := by decide +kernel
theorem eL_law_1795 : decode rL_law.2.1 1795 = .ok (.ifCond .eq 5, 3) := by decide +kernel
theorem eL_law_1798 : decode rL_law.2.1 1798 = .ok (.iconst 0, 1) := by decide +kernel
theorem eL_law_1799 : decode rL_law.2.1 1799 = .ok (.ireturn, 1) := by decide +kernel
theorem eL_law_1800 : decode rL_law.2.1 1800 = .ok (.goto 1419, 3) := by decide +kernel
theorem eL_law_1803 : decode rL_law.2.1 1803 = .ok (.aload_n 1, 1) := by decide +kernel
theorem eL_law_1804 : decode rL_law.2.1 1804 = .ok (.aload_n 0, 1) := by decide +kernel
theorem eL_law_1805 : decode rL_law.2.1 1805 = .ok (.iload 5, 2) := by decide +kernel
theorem eL_law_1807 : decode rL_law.2.1 1807 = .ok (.iconst 1, 1) := by decide +kernel
theorem eL_law_1808 : decode rL_law.2.1 1808 = .ok (.iadd, 1) := by decide +kernel
theorem eL_law_1809 : decode rL_law.2.1 1809 = .ok (.iaload, 1) := by decide +kernel
theorem eL_law_1810 : decode rL_law.2.1 1810 = .ok (.aload_n 3, 1) := by decide +kernel
theorem eL_law_1811 : decode rL_law.2.1 1811 = .ok (.invokestatic 270, 3) := by decide +kernel
theorem eL_law_1814 : decode rL_law.2.1 1814 = .ok (.istore 6, 2) := by decide +kernel
theorem eL_law_1816 : decode rL_law.2.1 1816 = .ok (.aload_n 2, 1) := by decide +kernel
theorem eL_law_1817 : decode rL_law.2.1 1817 = .ok (.aload_n 0, 1) := by decide +kernel
theorem eL_law_1818 : decode rL_law.2.1 1818 = .ok (.iload 5, 2) := by decide +kernel
theorem eL_law_1820 : decode rL_law.2.1 1820 = .ok (.iconst 1, 1) := by decide +kernel
theorem eL_law_1821 : decode rL_law.2.1 1821 = .ok (.iadd, 1) := by decide +kernel
theorem eL_law_1822 : decode rL_law.2.1 1822 = .ok (.iaload, 1) := by decide +kernel
theorem eL_law_1823 : decode rL_law.2.1 1823 = .ok (.invokevirtual 272, 3) := by decide +kernel
theorem eL_law_1826 : decode rL_law.2.1 1826 = .ok (.istore 7, 2) := by decide +kernel
theorem eL_law_1828 : decode rL_law.2.1 1828 = .ok (.aload_n 2, 1) := by decide +kernel
theorem eL_law_1829 : decode rL_law.2.1 1829 = .ok (.invokevirtual 185, 3) := by decide +kernel
theorem eL_law_1832 : decode rL_law.2.1 1832 = .ok (.iload 6, 2) := by decide +kernel
theorem eL_law_1834 : decode rL_law.2.1 1834 = .ok (.if_icmp .eq 5, 3) := by decide +kernel
theorem eL_law_1837 : decode rL_law.2.1 1837 = .ok (.iconst 0, 1) := by decide +kernel
theorem eL_law_1838 : decode rL_law.2.1 1838 = .ok (.ireturn, 1) := by decide +kernel
theorem eL_law_1839 : decode rL_law.2.1 1839 = .ok (.iload 6, 2) := by decide +kernel
theorem eL_law_1841 : decode rL_law.2.1 1841 = .ok (.ifCond .ne 15, 3) := by decide +kernel
theorem eL_law_1844 : decode rL_law.2.1 1844 = .ok (.aload_n 3, 1) := by decide +kernel
theorem eL_law_1845 : decode rL_law.2.1 1845 = .ok (.iconst 0, 1) := by decide +kernel
theorem eL_law_1846 : decode rL_law.2.1 1846 = .ok (.laload, 1) := by decide +kernel
theorem eL_law_1847 : decode rL_law.2.1 1847 = .ok (.iload 7, 2) := by decide +kernel
theorem eL_law_1849 : decode rL_law.2.1 1849 = .ok (.i2l, 1) := by decide +kernel
theorem eL_law_1850 : decode rL_law.2.1 1850 = .ok (.lcmp, 1) := by decide +kernel
theorem eL_law_1851 : decode rL_law.2.1 1851 = .ok (.ifCond .eq 5, 3) := by decide +kernel
theorem eL_law_1854 : decode rL_law.2.1 1854 = .ok (.iconst 0, 1) := by decide +kernel
theorem eL_law_1855 : decode rL_law.2.1 1855 = .ok (.ireturn, 1) := by decide +kernel
theorem eL_law_1856 : decode rL_law.2.1 1856 = .ok (.goto 1363, 3) := by decide +kernel
theorem eL_law_1859 : decode rL_law.2.1 1859 = .ok (.aload_n 1, 1) := by decide +kernel
theorem eL_law_1860 : decode rL_law.2.1 1860 = .ok (.aload_n 0, 1) := by decide +kernel
theorem eL_law_1861 : decode rL_law.2.1 1861 = .ok (.iload 5, 2) := by decide +kernel
theorem eL_law_1863 : decode rL_law.2.1 1863 = .ok (.iconst 1, 1) := by decide +kernel
theorem eL_law_1864 : decode rL_law.2.1 1864 = .ok (.iadd, 1) := by decide +kernel
theorem eL_law_1865 : decode rL_law.2.1 1865 = .ok (.iaload, 1) := by decide +kernel
theorem eL_law_1866 : decode rL_law.2.1 1866 = .ok (.aload_n 3, 1) := by decide +kernel
theorem eL_law_1867 : decode rL_law.2.1 1867 = .ok (.invokestatic 273, 3) := by decide +kernel
theorem eL_law_1870 : decode rL_law.2.1 1870 = .ok (.istore 6, 2) := by decide +kernel
theorem eL_law_1872 : decode rL_law.2.1 1872 = .ok (.aload_n 2, 1) := by decide +kernel
theorem eL_law_1873 : decode rL_law.2.1 1873 = .ok (.aload_n 0, 1) := by decide +kernel
theorem eL_law_1874 : decode rL_law.2.1 1874 = .ok (.iload 5, 2) := by decide +kernel
theorem eL_law_1876 : decode rL_law.2.1 1876 = .ok (.iconst 1, 1) := by decide +kernel
theorem eL_law_1877 : decode rL_law.2.1 1877 = .ok (.iadd, 1) := by decide +kernel
theorem eL_law_1878 : decode rL_law.2.1 1878 = .ok (.iaload, 1) := by decide +kernel
theorem eL_law_1879 : decode rL_law.2.1 1879 = .ok (.invokevirtual 275, 3) := by decide +kernel
theorem eL_law_1882 : decode rL_law.2.1 1882 = .ok (.istore 7, 2) := by decide +kernel
theorem eL_law_1884 : decode rL_law.2.1 1884 = .ok (.aload_n 2, 1) := by decide +kernel
theorem eL_law_1885 : decode rL_law.2.1 1885 = .ok (.invokevirtual 185, 3) := by decide +kernel
theorem eL_law_1888 : decode rL_law.2.1 1888 = .ok (.iload 6, 2) := by decide +kernel
theorem eL_law_1890 : decode rL_law.2.1 1890 = .ok (.if_icmp .eq 5, 3) := by decide +kernel
theorem eL_law_1893 : decode rL_law.2.1 1893 = .ok (.iconst 0, 1) := by decide +kernel
theorem eL_law_1894 : decode rL_law.2.1 1894 = .ok (.ireturn, 1) := by decide +kernel
theorem eL_law_1895 : decode rL_law.2.1 1895 = .ok (.iload 6, 2) := by decide +kernel
theorem eL_law_1897 : decode rL_law.2.1 1897 = .ok (.ifCond .ne 15, 3) := by decide +kernel
theorem eL_law_1900 : decode rL_law.2.1 1900 = .ok (.aload_n 3, 1) := by decide +kernel
theorem eL_law_1901 : decode rL_law.2.1 1901 = .ok (.iconst 0, 1) := by decide +kernel
theorem eL_law_1902 : decode rL_law.2.1 1902 = .ok (.laload, 1) := by decide +kernel
theorem eL_law_1903 : decode rL_law.2.1 1903 = .ok (.iload 7, 2) := by decide +kernel
theorem eL_law_1905 : decode rL_law.2.1 1905 = .ok (.i2l, 1) := by decide +kernel
theorem eL_law_1906 : decode rL_law.2.1 1906 = .ok (.lcmp, 1) := by decide +kernel
theorem eL_law_1907 : decode rL_law.2.1 1907 = .ok (.ifCond .eq 5, 3) := by decide +kernel
theorem eL_law_1910 : decode rL_law.2.1 1910 = .ok (.iconst 0, 1) := by decide +kernel
theorem eL_law_1911 : decode rL_law.2.1 1911 = .ok (.ireturn, 1) := by decide +kernel
theorem eL_law_1912 : decode rL_law.2.1 1912 = .ok (.goto 1307, 3) := by decide +kernel
theorem eL_law_1915 : decode rL_law.2.1 1915 = .ok (.aload_n 1, 1) := by decide +kernel
theorem eL_law_1916 : decode rL_law.2.1 1916 = .ok (.aload_n 0, 1) := by decide +kernel
theorem eL_law_1917 : decode rL_law.2.1 1917 = .ok (.iload 5, 2) := by decide +kernel
theorem eL_law_1919 : decode rL_law.2.1 1919 = .ok (.iconst 1, 1) := by decide +kernel
theorem eL_law_1920 : decode rL_law.2.1 1920 = .ok (.iadd, 1) := by decide +kernel
theorem eL_law_1921 : decode rL_law.2.1 1921 = .ok (.iaload, 1) := by decide +kernel
theorem eL_law_1922 : decode rL_law.2.1 1922 = .ok (.aload_n 0, 1) := by decide +kernel
theorem eL_law_1923 : decode rL_law.2.1 1923 = .ok (.iload 5, 2) := by decide +kernel
theorem eL_law_1925 : decode rL_law.2.1 1925 = .ok (.iconst 2, 1) := by decide +kernel
theorem eL_law_1926 : decode rL_law.2.1 1926 = .ok (.iadd, 1) := by decide +kernel
theorem eL_law_1927 : decode rL_law.2.1 1927 = .ok (.iaload, 1) := by decide +kernel
theorem eL_law_1928 : decode rL_law.2.1 1928 = .ok (.aload_n 3, 1) := by decide +kernel
theorem eL_law_1929 : decode rL_law.2.1 1929 = .ok (.invokestatic 276, 3) := by decide +kernel
theorem eL_law_1932 : decode rL_law.2.1 1932 = .ok (.istore 6, 2) := by decide +kernel
theorem eL_law_1934 : decode rL_law.2.1 1934 = .ok (.aload_n 2, 1) := by decide +kernel
theorem eL_law_1935 : decode rL_law.2.1 1935 = .ok (.aload_n 0, 1) := by decide +kernel
theorem eL_law_1936 : decode rL_law.2.1 1936 = .ok (.iload 5, 2) := by decide +kernel
theorem eL_law_1938 : decode rL_law.2.1 1938 = .ok (.iconst 1, 1) := by decide +kernel
theorem eL_law_1939 : decode rL_law.2.1 1939 = .ok (.iadd, 1) := by decide +kernel
theorem eL_law_1940 : decode rL_law.2.1 1940 = .ok (.iaload, 1) := by decide +kernel
theorem eL_law_1941 : decode rL_law.2.1 1941 = .ok (.aload_n 0, 1) := by decide +kernel
theorem eL_law_1942 : decode rL_law.2.1 1942 = .ok (.iload 5, 2) := by decide +kernel
theorem eL_law_1944 : decode rL_law.2.1 1944 = .ok (.iconst 2, 1) := by decide +kernel
theorem eL_law_1945 : decode rL_law.2.1 1945 = .ok (.iadd, 1) := by decide +kernel
theorem eL_law_1946 : decode rL_law.2.1 1946 = .ok (.iaload, 1) := by decide +kernel
theorem eL_law_1947 : decode rL_law.2.1 1947 = .ok (.invokevirtual 278, 3) := by decide +kernel
theorem eL_law_1950 : decode rL_law.2.1 1950 = .ok (.istore 7, 2) := by decide +kernel
theorem eL_law_1952 : decode rL_law.2.1 1952 = .ok (.aload_n 2, 1) := by decide +kernel
theorem eL_law_1953 : decode rL_law.2.1 1953 = .ok (.invokevirtual 185, 3) := by decide +kernel
theorem eL_law_1956 : decode rL_law.2.1 1956 = .ok (.iload 6, 2) := by decide +kernel
theorem eL_law_1958 : decode rL_law.2.1 1958 = .ok (.if_icmp .eq 5, 3) := by decide +kernel
theorem eL_law_1961 : decode rL_law.2.1 1961 = .ok (.iconst 0, 1) := by decide +kernel
theorem eL_law_1962 : decode rL_law.2.1 1962 = .ok (.ireturn, 1) := by decide +kernel
theorem eL_law_1963 : decode rL_law.2.1 1963 = .ok (.iload 6, 2) := by decide +kernel
theorem eL_law_1965 : decode rL_law.2.1 1965 = .ok (.ifCond .ne 15, 3) := by decide +kernel
theorem eL_law_1968 : decode rL_law.2.1 1968 = .ok (.aload_n 3, 1) := by decide +kernel
theorem eL_law_1969 : decode rL_law.2.1 1969 = .ok (.iconst 0, 1) := by decide +kernel
theorem eL_law_1970 : decode rL_law.2.1 1970 = .ok (.laload, 1) := by decide +kernel
theorem eL_law_1971 : decode rL_law.2.1 1971 = .ok (.iload 7, 2) := by decide +kernel
theorem eL_law_1973 : decode rL_law.2.1 1973 = .ok (.i2l, 1) := by decide +kernel
theorem eL_law_1974 : decode rL_law.2.1 1974 = .ok (.lcmp, 1) := by decide +kernel
theorem eL_law_1975 : decode rL_law.2.1 1975 = .ok (.ifCond .eq 5, 3) := by decide +kernel
theorem eL_law_1978 : decode rL_law.2.1 1978 = .ok (.iconst 0, 1) := by decide +kernel
theorem eL_law_1979 : decode rL_law.2.1 1979 = .ok (.ireturn, 1) := by decide +kernel
theorem eL_law_1980 : decode rL_law.2.1 1980 = .ok (.goto 1239, 3) := by decide +kernel
theorem eL_law_1983 : decode rL_law.2.1 1983 = .ok (.aload_n 1, 1) := by decide +kernel
theorem eL_law_1984 : decode rL_law.2.1 1984 = .ok (.aload_n 0, 1) := by decide +kernel
theorem eL_law_1985 : decode rL_law.2.1 1985 = .ok (.iload 5, 2) := by decide +kernel
theorem eL_law_1987 : decode rL_law.2.1 1987 = .ok (.iconst 1, 1) := by decide +kernel
theorem eL_law_1988 : decode rL_law.2.1 1988 = .ok (.iadd, 1) := by decide +kernel
theorem eL_law_1989 : decode rL_law.2.1 1989 = .ok (.iaload, 1) := by decide +kernel
theorem eL_law_1990 : decode rL_law.2.1 1990 = .ok (.aload_n 0, 1) := by decide +kernel
theorem eL_law_1991 : decode rL_law.2.1 1991 = .ok (.iload 5, 2) := by decide +kernel
theorem eL_law_1993 : decode rL_law.2.1 1993 = .ok (.iconst 2, 1) := by decide +kernel
theorem eL_law_1994 : decode rL_law.2.1 1994 = .ok (.iadd, 1) := by decide +kernel
theorem eL_law_1995 : decode rL_law.2.1 1995 = .ok (.iaload, 1) := by decide +kernel
theorem eL_law_1996 : decode rL_law.2.1 1996 = .ok (.aload_n 3, 1) := by decide +kernel
theorem eL_law_1997 : decode rL_law.2.1 1997 = .ok (.invokestatic 279, 3) := by decide +kernel
theorem eL_law_2000 : decode rL_law.2.1 2000 = .ok (.istore 6, 2) := by decide +kernel
theorem eL_law_2002 : decode rL_law.2.1 2002 = .ok (.aload_n 2, 1) := by decide +kernel
theorem eL_law_2003 : decode rL_law.2.1 2003 = .ok (.aload_n 0, 1) := by decide +kernel
theorem eL_law_2004 : decode rL_law.2.1 2004 = .ok (.iload 5, 2) := by decide +kernel
theorem eL_law_2006 : decode rL_law.2.1 2006 = .ok (.iconst 1, 1) := by decide +kernel
theorem eL_law_2007 : decode rL_law.2.1 2007 = .ok (.iadd, 1) := by decide +kernel
theorem eL_law_2008 : decode rL_law.2.1 2008 = .ok (.iaload, 1) := by decide +kernel
theorem eL_law_2009 : decode rL_law.2.1 2009 = .ok (.aload_n 0, 1) := by decide +kernel
theorem eL_law_2010 : decode rL_law.2.1 2010 = .ok (.iload 5, 2) := by decide +kernel
theorem eL_law_2012 : decode rL_law.2.1 2012 = .ok (.iconst 2, 1) := by decide +kernel
theorem eL_law_2013 : decode rL_law.2.1 2013 = .ok (.iadd, 1) := by decide +kernel
theorem eL_law_2014 : decode rL_law.2.1 2014 = .ok (.iaload, 1) := by decide +kernel
theorem eL_law_2015 : decode rL_law.2.1 2015 = .ok (.invokevirtual 281, 3) := by decide +kernel
theorem eL_law_2018 : decode rL_law.2.1 2018 = .ok (.istore 7, 2) := by decide +kernel
theorem eL_law_2020 : decode rL_law.2.1 2020 = .ok (.aload_n 2, 1) := by decide +kernel
theorem eL_law_2021 : decode rL_law.2.1 2021 = .ok (.invokevirtual 185, 3) := by decide +kernel
theorem eL_law_2024 : decode rL_law.2.1 2024 = .ok (.iload 6, 2) := by decide +kernel
theorem eL_law_2026 : decode rL_law.2.1 2026 = .ok (.if_icmp .eq 5, 3) := by decide +kernel
theorem eL_law_2029 : decode rL_law.2.1 2029 = .ok (.iconst 0, 1) := by decide +kernel
theorem eL_law_2030 : decode rL_law.2.1 2030 = .ok (.ireturn, 1) := by decide +kernel
theorem eL_law_2031 : decode rL_law.2.1 2031 = .ok (.iload 6, 2) := by decide +kernel
theorem eL_law_2033 : decode rL_law.2.1 2033 = .ok (.ifCond .ne 15, 3) := by decide +kernel
theorem eL_law_2036 : decode rL_law.2.1 2036 = .ok (.aload_n 3, 1) := by decide +kernel
theorem eL_law_2037 : decode rL_law.2.1 2037 = .ok (.iconst 0, 1) := by decide +kernel
theorem eL_law_2038 : decode rL_law.2.1 2038 = .ok (.laload, 1) := by decide +kernel
theorem eL_law_2039 : decode rL_law.2.1 2039 = .ok (.iload 7, 2) := by decide +kernel
theorem eL_law_2041 : decode rL_law.2.1 2041 = .ok (.i2l, 1) := by decide +kernel
theorem eL_law_2042 : decode rL_law.2.1 2042 = .ok (.lcmp, 1) := by decide +kernel
theorem eL_law_2043 : decode rL_law.2.1 2043 = .ok (.ifCond .eq 5, 3) := by decide +kernel
theorem eL_law_2046 : decode rL_law.2.1 2046 = .ok (.iconst 0, 1) := by decide +kernel
theorem eL_law_2047 : decode rL_law.2.1 2047 = .ok (.ireturn, 1) := by decide +kernel
theorem eL_law_2048 : decode rL_law.2.1 2048 = .ok (.goto 1171, 3) := by decide +kernel
theorem eL_law_2051 : decode rL_law.2.1 2051 = .ok (.aload_n 1, 1) := by decide +kernel
theorem eL_law_2052 : decode rL_law.2.1 2052 = .ok (.aload_n 0, 1) := by decide +kernel
theorem eL_law_2053 : decode rL_law.2.1 2053 = .ok (.iload 5, 2) := by decide +kernel
theorem eL_law_2055 : decode rL_law.2.1 2055 = .ok (.iconst 1, 1) := by decide +kernel
theorem eL_law_2056 : decode rL_law.2.1 2056 = .ok (.iadd, 1) := by decide +kernel
theorem eL_law_2057 : decode rL_law.2.1 2057 = .ok (.iaload, 1) := by decide +kernel
theorem eL_law_2058 : decode rL_law.2.1 2058 = .ok (.aload_n 0, 1) := by decide +kernel
theorem eL_law_2059 : decode rL_law.2.1 2059 = .ok (.iload 5, 2) := by decide +kernel
theorem eL_law_2061 : decode rL_law.2.1 2061 = .ok (.iconst 2, 1) := by decide +kernel
theorem eL_law_2062 : decode rL_law.2.1 2062 = .ok (.iadd, 1) := by decide +kernel
theorem eL_law_2063 : decode rL_law.2.1 2063 = .ok (.iaload, 1) := by decide +kernel
theorem eL_law_2064 : decode rL_law.2.1 2064 = .ok (.aload_n 3, 1) := by decide +kernel
theorem eL_law_2065 : decode rL_law.2.1 2065 = .ok (.invokestatic 282, 3) := by decide +kernel
theorem eL_law_2068 : decode rL_law.2.1 2068 = .ok (.istore 6, 2) := by decide +kernel
theorem eL_law_2070 : decode rL_law.2.1 2070 = .ok (.aload_n 2, 1) := by decide +kernel
theorem eL_law_2071 : decode rL_law.2.1 2071 = .ok (.aload_n 0, 1) := by decide +kernel
theorem eL_law_2072 : decode rL_law.2.1 2072 = .ok (.iload 5, 2) := by decide +kernel
theorem eL_law_2074 : decode rL_law.2.1 2074 = .ok (.iconst 1, 1) := by decide +kernel
theorem eL_law_2075 : decode rL_law.2.1 2075 = .ok (.iadd, 1) := by decide +kernel
theorem eL_law_2076 : decode rL_law.2.1 2076 = .ok (.iaload, 1) := by decide +kernel
theorem eL_law_2077 : decode rL_law.2.1 2077 = .ok (.aload_n 0, 1) := by decide +kernel
theorem eL_law_2078 : decode rL_law.2.1 2078 = .ok (.iload 5, 2) := by decide +kernel
theorem eL_law_2080 : decode rL_law.2.1 2080 = .ok (.iconst 2, 1) := by decide +kernel
theorem eL_law_2081 : decode rL_law.2.1 2081 = .ok (.iadd, 1) := by decide +kernel
theorem eL_law_2082 : decode rL_law.2.1 2082 = .ok (.iaload, 1) := by decide +kernel
theorem eL_law_2083 : decode rL_law.2.1 2083 = .ok (.invokevirtual 284, 3) := by decide +kernel
theorem eL_law_2086 : decode rL_law.2.1 2086 = .ok (.istore 7, 2) := by decide +kernel
theorem eL_law_2088 : decode rL_law.2.1 2088 = .ok (.aload_n 2, 1) := by decide +kernel
theorem eL_law_2089 : decode rL_law.2.1 2089 = .ok (.invokevirtual 185, 3) := by decide +kernel
theorem eL_law_2092 : decode rL_law.2.1 2092 = .ok (.iload 6, 2) := by decide +kernel
theorem eL_law_2094 : decode rL_law.2.1 2094 = .ok (.if_icmp .eq 5, 3) := by decide +kernel
theorem eL_law_2097 : decode rL_law.2.1 2097 = .ok (.iconst 0, 1) := by decide +kernel
theorem eL_law_2098 : decode rL_law.2.1 2098 = .ok (.ireturn, 1) := by decide +kernel
theorem eL_law_2099 : decode rL_law.2.1 2099 = .ok (.iload 6, 2) := by decide +kernel
theorem eL_law_2101 : decode rL_law.2.1 2101 = .ok (.ifCond .ne 15, 3) := by decide +kernel
theorem eL_law_2104 : decode rL_law.2.1 2104 = .ok (.aload_n 3, 1) := by decide +kernel
theorem eL_law_2105 : decode rL_law.2.1 2105 = .ok (.iconst 0, 1) := by decide +kernel
theorem eL_law_2106 : decode rL_law.2.1 2106 = .ok (.laload, 1) := by decide +kernel
theorem eL_law_2107 : decode rL_law.2.1 2107 = .ok (.iload 7, 2) := by decide +kernel
theorem eL_law_2109 : decode rL_law.2.1 2109 = .ok (.i2l, 1) := by decide +kernel
theorem eL_law_2110 : decode rL_law.2.1 2110 = .ok (.lcmp, 1) := by decide +kernel
theorem eL_law_2111 : decode rL_law.2.1 2111 = .ok (.ifCond .eq 5, 3) := by decide +kernel
theorem eL_law_2114 : decode rL_law.2.1 2114 = .ok (.iconst 0, 1) := by decide +kernel
theorem eL_law_2115 : decode rL_law.2.1 2115 = .ok (.ireturn, 1) := by decide +kernel
theorem eL_law_2116 : decode rL_law.2.1 2116 = .ok (.goto 1103, 3) := by decide +kernel
theorem eL_law_2119 : decode rL_law.2.1 2119 = .ok (.aload_n 1, 1) := by decide +kernel
theorem eL_law_2120 : decode rL_law.2.1 2120 = .ok (.aload_n 0, 1) := by decide +kernel
theorem eL_law_2121 : decode rL_law.2.1 2121 = .ok (.iload 5, 2) := by decide +kernel
theorem eL_law_2123 : decode rL_law.2.1 2123 = .ok (.iconst 1, 1) := by decide +kernel
theorem eL_law_2124 : decode rL_law.2.1 2124 = .ok (.iadd, 1) := by decide +kernel
theorem eL_law_2125 : decode rL_law.2.1 2125 = .ok (.iaload, 1) := by decide +kernel
theorem eL_law_2126 : decode rL_law.2.1 2126 = .ok (.aload_n 3, 1) := by decide +kernel
theorem eL_law_2127 : decode rL_law.2.1 2127 = .ok (.invokestatic 285, 3) := by decide +kernel
theorem eL_law_2130 : decode rL_law.2.1 2130 = .ok (.istore 6, 2) := by decide +kernel
theorem eL_law_2132 : decode rL_law.2.1 2132 = .ok (.aload_n 2, 1) := by decide +kernel
theorem eL_law_2133 : decode rL_law.2.1 2133 = .ok (.aload_n 0, 1) := by decide +kernel
theorem eL_law_2134 : decode rL_law.2.1 2134 = .ok (.iload 5, 2) := by decide +kernel
theorem eL_law_2136 : decode rL_law.2.1 2136 = .ok (.iconst 1, 1) := by decide +kernel
theorem eL_law_2137 : decode rL_law.2.1 2137 = .ok (.iadd, 1) := by decide +kernel
theorem eL_law_2138 : decode rL_law.2.1 2138 = .ok (.iaload, 1) := by decide +kernel
theorem eL_law_2139 : decode rL_law.2.1 2139 = .ok (.invokevirtual 287, 3) := by decide +kernel
theorem eL_law_2142 : decode rL_law.2.1 2142 = .ok (.istore 7, 2) := by decide +kernel
theorem eL_law_2144 : decode rL_law.2.1 2144 = .ok (.aload_n 2, 1) := by decide +kernel
theorem eL_law_2145 : decode rL_law.2.1 2145 = .ok (.invokevirtual 185, 3) := by decide +kernel
theorem eL_law_2148 : decode rL_law.2.1 2148 = .ok (.iload 6, 2) := by decide +kernel
theorem eL_law_2150 : decode rL_law.2.1 2150 = .ok (.if_icmp .eq 5, 3) := by decide +kernel
theorem eL_law_2153 : decode rL_law.2.1 2153 = .ok (.iconst 0, 1) := by decide +kernel
theorem eL_law_2154 : decode rL_law.2.1 2154 = .ok (.ireturn, 1) := by decide +kernel
theorem eL_law_2155 : decode rL_law.2.1 2155 = .ok (.iload 6, 2) := by decide +kernel
theorem eL_law_2157 : decode rL_law.2.1 2157 = .ok (.ifCond .ne 15, 3) := by decide +kernel
theorem eL_law_2160 : decode rL_law.2.1 2160 = .ok (.aload_n 3, 1) := by decide +kernel
theorem eL_law_2161 : decode rL_law.2.1 2161 = .ok (.iconst 0, 1) := by decide +kernel
theorem eL_law_2162 : decode rL_law.2.1 2162 = .ok (.laload, 1) := by decide +kernel
theorem eL_law_2163 : decode rL_law.2.1 2163 = .ok (.iload 7, 2) := by decide +kernel
theorem eL_law_2165 : decode rL_law.2.1 2165 = .ok (.i2l, 1) := by decide +kernel
theorem eL_law_2166 : decode rL_law.2.1 2166 = .ok (.lcmp, 1) := by decide +kernel
theorem eL_law_2167 : decode rL_law.2.1 2167 = .ok (.ifCond .eq 5, 3) := by decide +kernel
theorem eL_law_2170 : decode rL_law.2.1 2170 = .ok (.iconst 0, 1) := by decide +kernel
theorem eL_law_2171 : decode rL_law.2.1 2171 = .ok (.ireturn, 1) := by decide +kernel
theorem eL_law_2172 : decode rL_law.2.1 2172 = .ok (.goto 1047, 3) := by decide +kernel
theorem eL_law_2175 : decode rL_law.2.1 2175 = .ok (.aload_n 1, 1) := by decide +kernel
theorem eL_law_2176 : decode rL_law.2.1 2176 = .ok (.aload_n 0, 1) := by decide +kernel
theorem eL_law_2177 : decode rL_law.2.1 2177 = .ok (.iload 5, 2) := by decide +kernel
theorem eL_law_2179 : decode rL_law.2.1 2179 = .ok (.iconst 1, 1) := by decide +kernel
theorem eL_law_2180 : decode rL_law.2.1 2180 = .ok (.iadd, 1) := by decide +kernel
theorem eL_law_2181 : decode rL_law.2.1 2181 = .ok (.iaload, 1) := by decide +kernel
theorem eL_law_2182 : decode rL_law.2.1 2182 = .ok (.aload_n 3, 1) := by decide +kernel
theorem eL_law_2183 : decode rL_law.2.1 2183 = .ok (.invokestatic 288, 3) := by decide +kernel
theorem eL_law_2186 : decode rL_law.2.1 2186 = .ok (.istore 6, 2) := by decide +kernel
theorem eL_law_2188 : decode rL_law.2.1 2188 = .ok (.aload_n 2, 1) := by decide +kernel
theorem eL_law_2189 : decode rL_law.2.1 2189 = .ok (.aload_n 0, 1) := by decide +kernel
theorem eL_law_2190 : decode rL_law.2.1 2190 = .ok (.iload 5, 2) := by decide +kernel
theorem eL_law_2192 : decode rL_law.2.1 2192 = .ok (.iconst 1, 1) := by decide +kernel
theorem eL_law_2193 : decode rL_law.2.1 2193 = .ok (.iadd, 1) := by decide +kernel
theorem eL_law_2194 : decode rL_law.2.1 2194 = .ok (.iaload, 1) := by decide +kernel
theorem eL_law_2195 : decode rL_law.2.1 2195 = .ok (.invokevirtual 290, 3) := by decide +kernel
theorem eL_law_2198 : decode rL_law.2.1 2198 = .ok (.istore 7, 2) := by decide +kernel
theorem eL_law_2200 : decode rL_law.2.1 2200 = .ok (.aload_n 2, 1) := by decide +kernel
theorem eL_law_2201 : decode rL_law.2.1 2201 = .ok (.invokevirtual 185, 3) := by decide +kernel
theorem eL_law_2204 : decode rL_law.2.1 2204 = .ok (.iload 6, 2) := by decide +kernel
theorem eL_law_2206 : decode rL_law.2.1 2206 = .ok (.if_icmp .eq 5, 3) := by decide +kernel
theorem eL_law_2209 : decode rL_law.2.1 2209 = .ok (.iconst 0, 1) := by decide +kernel
theorem eL_law_2210 : decode rL_law.2.1 2210 = .ok (.ireturn, 1) := by decide +kernel
theorem eL_law_2211 : decode rL_law.2.1 2211 = .ok (.iload 6, 2) := by decide +kernel
theorem eL_law_2213 : decode rL_law.2.1 2213 = .ok (.ifCond .ne 15, 3) := by decide +kernel
theorem eL_law_2216 : decode rL_law.2.1 2216 = .ok (.aload_n 3, 1) := by decide +kernel
theorem eL_law_2217 : decode rL_law.2.1 2217 = .ok (.iconst 0, 1) := by decide +kernel
theorem eL_law_2218 : decode rL_law.2.1 2218 = .ok (.laload, 1) := by decide +kernel
theorem eL_law_2219 : decode rL_law.2.1 2219 = .ok (.iload 7, 2) := by decide +kernel
theorem eL_law_2221 : decode rL_law.2.1 2221 = .ok (.i2l, 1) := by decide +kernel
theorem eL_law_2222 : decode rL_law.2.1 2222 = .ok (.lcmp, 1) := by decide +kernel
theorem eL_law_2223 : decode rL_law.2.1 2223 = .ok (.ifCond .eq 5, 3) := by decide +kernel
theorem eL_law_2226 : decode rL_law.2.1 2226 = .ok (.iconst 0, 1) := by decide +kernel
theorem eL_law_2227 : decode rL_law.2.1 2227 = .ok (.ireturn, 1) := by decide +kernel
theorem eL_law_2228 : decode rL_law.2.1 2228 = .ok (.goto 991, 3) := by decide +kernel
theorem eL_law_2231 : decode rL_law.2.1 2231 = .ok (.aload_n 1, 1) := by decide +kernel
theorem eL_law_2232 : decode rL_law.2.1 2232 = .ok (.aload_n 0, 1) := by decide +kernel
theorem eL_law_2233 : decode rL_law.2.1 2233 = .ok (.iload 5, 2) := by decide +kernel
theorem eL_law_2235 : decode rL_law.2.1 2235 = .ok (.iconst 1, 1) := by decide +kernel
theorem eL_law_2236 : decode rL_law.2.1 2236 = .ok (.iadd, 1) := by decide +kernel
theorem eL_law_2237 : decode rL_law.2.1 2237 = .ok (.iaload, 1) := by decide +kernel
theorem eL_law_2238 : decode rL_law.2.1 2238 = .ok (.aload_n 3, 1) := by decide +kernel
theorem eL_law_2239 : decode rL_law.2.1 2239 = .ok (.invokestatic 291, 3) := by decide +kernel
theorem eL_law_2242 : decode rL_law.2.1 2242 = .ok (.istore 6, 2) := by decide +kernel
theorem eL_law_2244 : decode rL_law.2.1 2244 = .ok (.aload_n 2, 1) := by decide +kernel
theorem eL_law_2245 : decode rL_law.2.1 2245 = .ok (.aload_n 0, 1) := by decide +kernel
theorem eL_law_2246 : decode rL_law.2.1 2246 = .ok (.iload 5, 2) := by decide +kernel
theorem eL_law_2248 : decode rL_law.2.1 2248 = .ok (.iconst 1, 1) := by decide +kernel
theorem eL_law_2249 : decode rL_law.2.1 2249 = .ok (.iadd, 1) := by decide +kernel
theorem eL_law_2250 : decode rL_law.2.1 2250 = .ok (.iaload, 1) := by decide +kernel
theorem eL_law_2251 : decode rL_law.2.1 2251 = .ok (.invokevirtual 293, 3) := by decide +kernel
theorem eL_law_2254 : decode rL_law.2.1 2254 = .ok (.istore 7, 2) := by decide +kernel
theorem eL_law_2256 : decode rL_law.2.1 2256 = .ok (.aload_n 2, 1) := by decide +kernel
theorem eL_law_2257 : decode rL_law.2.1 2257 = .ok (.invokevirtual 185, 3) := by decide +kernel
theorem eL_law_2260 : decode rL_law.2.1 2260 = .ok (.iload 6, 2) := by decide +kernel
theorem eL_law_2262 : decode rL_law.2.1 2262 = .ok (.if_icmp .eq 5, 3) := by decide +kernel
theorem eL_law_2265 : decode rL_law.2.1 2265 = .ok (.iconst 0, 1) := by decide +kernel
theorem eL_law_2266 : decode rL_law.2.1 2266 = .ok (.ireturn, 1) := by decide +kernel
theorem eL_law_2267 : decode rL_law.2.1 2267 = .ok (.iload 6, 2) := by decide +kernel
theorem eL_law_2269 : decode rL_law.2.1 2269 = .ok (.ifCond .ne 15, 3) := by decide +kernel
theorem eL_law_2272 : decode rL_law.2.1 2272 = .ok (.aload_n 3, 1) := by decide +kernel
theorem eL_law_2273 : decode rL_law.2.1 2273 = .ok (.iconst 0, 1) := by decide +kernel
theorem eL_law_2274 : decode rL_law.2.1 2274 = .ok (.laload, 1) := by decide +kernel
theorem eL_law_2275 : decode rL_law.2.1 2275 = .ok (.iload 7, 2) := by decide +kernel
theorem eL_law_2277 : decode rL_law.2.1 2277 = .ok (.i2l, 1) := by decide +kernel
theorem eL_law_2278 : decode rL_law.2.1 2278 = .ok (.lcmp, 1) := by decide +kernel
theorem eL_law_2279 : decode rL_law.2.1 2279 = .ok (.ifCond .eq 5, 3) := by decide +kernel
theorem eL_law_2282 : decode rL_law.2.1 2282 = .ok (.iconst 0, 1) := by decide +kernel
theorem eL_law_2283 : decode rL_law.2.1 2283 = .ok (.ireturn, 1) := by decide +kernel
theorem eL_law_2284 : decode rL_law.2.1 2284 = .ok (.goto 935, 3) := by decide +kernel
theorem eL_law_2287 : decode rL_law.2.1 2287 = .ok (.aload_n 1, 1) := by decide +kernel
theorem eL_law_2288 : decode rL_law.2.1 2288 = .ok (.aload_n 0, 1) := by decide +kernel
theorem eL_law_2289 : decode rL_law.2.1 2289 = .ok (.iload 5, 2) := by decide +kernel
theorem eL_law_2291 : decode rL_law.2.1 2291 = .ok (.iconst 1, 1) := by decide +kernel
theorem eL_law_2292 : decode rL_law.2.1 2292 = .ok (.iadd, 1) := by decide +kernel
theorem eL_law_2293 : decode rL_law.2.1 2293 = .ok (.iaload, 1) := by decide +kernel
theorem eL_law_2294 : decode rL_law.2.1 2294 = .ok (.aload_n 3, 1) := by decide +kernel
theorem eL_law_2295 : decode rL_law.2.1 2295 = .ok (.invokestatic 294, 3) := by decide +kernel
theorem eL_law_2298 : decode rL_law.2.1 2298 = .ok (.istore 6, 2) := by decide +kernel
theorem eL_law_2300 : decode rL_law.2.1 2300 = .ok (.aload_n 2, 1) := by decide +kernel
theorem eL_law_2301 : decode rL_law.2.1 2301 = .ok (.aload_n 0, 1) := by decide +kernel
theorem eL_law_2302 : decode rL_law.2.1 2302 = .ok (.iload 5, 2) := by decide +kernel
theorem eL_law_2304 : decode rL_law.2.1 2304 = .ok (.iconst 1, 1) := by decide +kernel
theorem eL_law_2305 : decode rL_law.2.1 2305 = .ok (.iadd, 1) := by decide +kernel
theorem eL_law_2306 : decode rL_law.2.1 2306 = .ok (.iaload, 1) := by decide +kernel
theorem eL_law_2307 : decode rL_law.2.1 2307 = .ok (.invokevirtual 296, 3) := by decide +kernel
theorem eL_law_2310 : decode rL_law.2.1 2310 = .ok (.istore 7, 2) := by decide +kernel
theorem eL_law_2312 : decode rL_law.2.1 2312 = .ok (.aload_n 2, 1) := by decide +kernel
theorem eL_law_2313 : decode rL_law.2.1 2313 = .ok (.invokevirtual 185, 3) := by decide +kernel
theorem eL_law_2316 : decode rL_law.2.1 2316 = .ok (.iload 6, 2) := by decide +kernel
theorem eL_law_2318 : decode rL_law.2.1 2318 = .ok (.if_icmp .eq 5, 3) := by decide +kernel
theorem eL_law_2321 : decode rL_law.2.1 2321 = .ok (.iconst 0, 1) := by decide +kernel
theorem eL_law_2322 : decode rL_law.2.1 2322 = .ok (.ireturn, 1) := by decide +kernel
theorem eL_law_2323 : decode rL_law.2.1 2323 = .ok (.iload 6, 2) := by decide +kernel
theorem eL_law_2325 : decode rL_law.2.1 2325 = .ok (.ifCond .ne 15, 3) := by decide +kernel
theorem eL_law_2328 : decode rL_law.2.1 2328 = .ok (.aload_n 3, 1) := by decide +kernel
theorem eL_law_2329 : decode rL_law.2.1 2329 = .ok (.iconst 0, 1) := by decide +kernel
theorem eL_law_2330 : decode rL_law.2.1 2330 = .ok (.laload, 1) := by decide +kernel
theorem eL_law_2331 : decode rL_law.2.1 2331 = .ok (.iload 7, 2) := by decide +kernel
theorem eL_law_2333 : decode rL_law.2.1 2333 = .ok (.i2l, 1) := by decide +kernel
theorem eL_law_2334 : decode rL_law.2.1 2334 = .ok (.lcmp, 1) := by decide +kernel
theorem eL_law_2335 : decode rL_law.2.1 2335 = .ok (.ifCond .eq 5, 3) := by decide +kernel
theorem eL_law_2338 : decode rL_law.2.1 2338 = .ok (.iconst 0, 1) := by decide +kernel
theorem eL_law_2339 : decode rL_law.2.1 2339 = .ok (.ireturn, 1) := by decide +kernel
theorem eL_law_2340 : decode rL_law.2.1 2340 = .ok (.goto 879, 3) := by decide +kernel
theorem eL_law_2343 : decode rL_law.2.1 2343 = .ok (.aload_n 1, 1) := by decide +kernel
theorem eL_law_2344 : decode rL_law.2.1 2344 = .ok (.aload_n 0, 1) := by decide +kernel
theorem eL_law_2345 : decode rL_law.2.1 2345 = .ok (.iload 5, 2) := by decide +kernel
theorem eL_law_2347 : decode rL_law.2.1 2347 = .ok (.iconst 1, 1) := by decide +kernel
theorem eL_law_2348 : decode rL_law.2.1 2348 = .ok (.iadd, 1) := by decide +kernel
theorem eL_law_2349 : decode rL_law.2.1 2349 = .ok (.iaload, 1) := by decide +kernel
theorem eL_law_2350 : decode rL_law.2.1 2350 = .ok (.aload_n 3, 1) := by decide +kernel
theorem eL_law_2351 : decode rL_law.2.1 2351 = .ok (.invokestatic 297, 3) := by decide +kernel
theorem eL_law_2354 : decode rL_law.2.1 2354 = .ok (.istore 6, 2) := by decide +kernel
theorem eL_law_2356 : decode rL_law.2.1 2356 = .ok (.aload_n 2, 1) := by decide +kernel
theorem eL_law_2357 : decode rL_law.2.1 2357 = .ok (.aload_n 0, 1) := by decide +kernel
theorem eL_law_2358 : decode rL_law.2.1 2358 = .ok (.iload 5, 2) := by decide +kernel
theorem eL_law_2360 : decode rL_law.2.1 2360 = .ok (.iconst 1, 1) := by decide +kernel
theorem eL_law_2361 : decode rL_law.2.1 2361 = .ok (.iadd, 1) := by decide +kernel
theorem eL_law_2362 : decode rL_law.2.1 2362 = .ok (.iaload, 1) := by decide +kernel
theorem eL_law_2363 : decode rL_law.2.1 2363 = .ok (.invokevirtual 299, 3) := by decide +kernel
theorem eL_law_2366 : decode rL_law.2.1 2366 = .ok (.istore 7, 2) := by decide +kernel
theorem eL_law_2368 : decode rL_law.2.1 2368 = .ok (.aload_n 2, 1) := by decide +kernel
theorem eL_law_2369 : decode rL_law.2.1 2369 = .ok (.invokevirtual 185, 3) := by decide +kernel
theorem eL_law_2372 : decode rL_law.2.1 2372 = .ok (.iload 6, 2) := by decide +kernel
theorem eL_law_2374 : decode rL_law.2.1 2374 = .ok (.if_icmp .eq 5, 3) := by decide +kernel
theorem eL_law_2377 : decode rL_law.2.1 2377 = .ok (.iconst 0, 1) := by decide +kernel
theorem eL_law_2378 : decode rL_law.2.1 2378 = .ok (.ireturn, 1) := by decide +kernel
theorem eL_law_2379 : decode rL_law.2.1 2379 = .ok (.iload 6, 2) := by decide +kernel
theorem eL_law_2381 : decode rL_law.2.1 2381 = .ok (.ifCond .ne 15, 3) := by decide +kernel
theorem eL_law_2384 : decode rL_law.2.1 2384 = .ok (.aload_n 3, 1) := by decide +kernel
theorem eL_law_2385 : decode rL_law.2.1 2385 = .ok (.iconst 0, 1) := by decide +kernel
theorem eL_law_2386 : decode rL_law.2.1 2386 = .ok (.laload, 1) := by decide +kernel
theorem eL_law_2387 : decode rL_law.2.1 2387 = .ok (.iload 7, 2) := by decide +kernel
theorem eL_law_2389 : decode rL_law.2.1 2389 = .ok (.i2l, 1) := by decide +kernel
theorem eL_law_2390 : decode rL_law.2.1 2390 = .ok (.lcmp, 1) := by decide +kernel
theorem eL_law_2391 : decode rL_law.2.1 2391 = .ok (.ifCond .eq 5, 3) := by decide +kernel
theorem eL_law_2394 : decode rL_law.2.1 2394 = .ok (.iconst 0, 1) := by decide +kernel
theorem eL_law_2395 : decode rL_law.2.1 2395 = .ok (.ireturn, 1) := by decide +kernel
theorem eL_law_2396 : decode rL_law.2.1 2396 = .ok (.goto 823, 3) := by decide +kernel
theorem eL_law_2399 : decode rL_law.2.1 2399 = .ok (.aload_n 1, 1) := by decide +kernel
theorem eL_law_2400 : decode rL_law.2.1 2400 = .ok (.aload_n 0, 1) := by decide +kernel
theorem eL_law_2401 : decode rL_law.2.1 2401 = .ok (.iload 5, 2) := by decide +kernel
theorem eL_law_2403 : decode rL_law.2.1 2403 = .ok (.iconst 1, 1) := by decide +kernel
theorem eL_law_2404 : decode rL_law.2.1 2404 = .ok (.iadd, 1) := by decide +kernel
theorem eL_law_2405 : decode rL_law.2.1 2405 = .ok (.iaload, 1) := by decide +kernel
theorem eL_law_2406 : decode rL_law.2.1 2406 = .ok (.aload_n 3, 1) := by decide +kernel
theorem eL_law_2407 : decode rL_law.2.1 2407 = .ok (.invokestatic 300, 3) := by decide +kernel
theorem eL_law_2410 : decode rL_law.2.1 2410 = .ok (.istore 6, 2) := by decide +kernel
theorem eL_law_2412 : decode rL_law.2.1 2412 = .ok (.aload_n 2, 1) := by decide +kernel
theorem eL_law_2413 : decode rL_law.2.1 2413 = .ok (.aload_n 0, 1) := by decide +kernel
theorem eL_law_2414 : decode rL_law.2.1 2414 = .ok (.iload 5, 2) := by decide +kernel
theorem eL_law_2416 : decode rL_law.2.1 2416 = .ok (.iconst 1, 1) := by decide +kernel
theorem eL_law_2417 : decode rL_law.2.1 2417 = .ok (.iadd, 1) := by decide +kernel
theorem eL_law_2418 : decode rL_law.2.1 2418 = .ok (.iaload, 1) := by decide +kernel
theorem eL_law_2419 : decode rL_law.2.1 2419 = .ok (.invokevirtual 302, 3) := by decide +kernel
theorem eL_law_2422 : decode rL_law.2.1 2422 = .ok (.istore 7, 2) := by decide +kernel
theorem eL_law_2424 : decode rL_law.2.1 2424 = .ok (.aload_n 2, 1) := by decide +kernel
theorem eL_law_2425 : decode rL_law.2.1 2425 = .ok (.invokevirtual 185, 3) := by decide +kernel
theorem eL_law_2428 : decode rL_law.2.1 2428 = .ok (.iload 6, 2) := by decide +kernel
theorem eL_law_2430 : decode rL_law.2.1 2430 = .ok (.if_icmp .eq 5, 3) := by decide +kernel
theorem eL_law_2433 : decode rL_law.2.1 2433 = .ok (.iconst 0, 1) := by decide +kernel
theorem eL_law_2434 : decode rL_law.2.1 2434 = .ok (.ireturn, 1) := by decide +kernel
theorem eL_law_2435 : decode rL_law.2.1 2435 = .ok (.iload 6, 2) := by decide +kernel
theorem eL_law_2437 : decode rL_law.2.1 2437 = .ok (.ifCond .ne 15, 3) := by decide +kernel
theorem eL_law_2440 : decode rL_law.2.1 2440 = .ok (.aload_n 3, 1) := by decide +kernel
theorem eL_law_2441 : decode rL_law.2.1 2441 = .ok (.iconst 0, 1) := by decide +kernel
theorem eL_law_2442 : decode rL_law.2.1 2442 = .ok (.laload, 1) := by decide +kernel
theorem eL_law_2443 : decode rL_law.2.1 2443 = .ok (.iload 7, 2) := by decide +kernel
theorem eL_law_2445 : decode rL_law.2.1 2445 = .ok (.i2l, 1) := by decide +kernel
theorem eL_law_2446 : decode rL_law.2.1 2446 = .ok (.lcmp, 1) := by decide +kernel
theorem eL_law_2447 : decode rL_law.2.1 2447 = .ok (.ifCond .eq 5, 3) := by decide +kernel
theorem eL_law_2450 : decode rL_law.2.1 2450 = .ok (.iconst 0, 1) := by decide +kernel
theorem eL_law_2451 : decode rL_law.2.1 2451 = .ok (.ireturn, 1) := by decide +kernel
theorem eL_law_2452 : decode rL_law.2.1 2452 = .ok (.goto 767, 3) := by decide +kernel
theorem eL_law_2455 : decode rL_law.2.1 2455 = .ok (.aload_n 1, 1) := by decide +kernel
theorem eL_law_2456 : decode rL_law.2.1 2456 = .ok (.aload_n 0, 1) := by decide +kernel
theorem eL_law_2457 : decode rL_law.2.1 2457 = .ok (.iload 5, 2) := by decide +kernel
theorem eL_law_2459 : decode rL_law.2.1 2459 = .ok (.iconst 1, 1) := by decide +kernel
theorem eL_law_2460 : decode rL_law.2.1 2460 = .ok (.iadd, 1) := by decide +kernel
theorem eL_law_2461 : decode rL_law.2.1 2461 = .ok (.iaload, 1) := by decide +kernel
theorem eL_law_2462 : decode rL_law.2.1 2462 = .ok (.aload_n 3, 1) := by decide +kernel
theorem eL_law_2463 : decode rL_law.2.1 2463 = .ok (.invokestatic 303, 3) := by decide +kernel
theorem eL_law_2466 : decode rL_law.2.1 2466 = .ok (.istore 6, 2) := by decide +kernel
theorem eL_law_2468 : decode rL_law.2.1 2468 = .ok (.aload_n 2, 1) := by decide +kernel
theorem eL_law_2469 : decode rL_law.2.1 2469 = .ok (.aload_n 0, 1) := by decide +kernel
theorem eL_law_2470 : decode rL_law.2.1 2470 = .ok (.iload 5, 2) := by decide +kernel
theorem eL_law_2472 : decode rL_law.2.1 2472 = .ok (.iconst 1, 1) := by decide +kernel
theorem eL_law_2473 : decode rL_law.2.1 2473 = .ok (.iadd, 1) := by decide +kernel
theorem eL_law_2474 : decode rL_law.2.1 2474 = .ok (.iaload, 1) := by decide +kernel
theorem eL_law_2475 : decode rL_law.2.1 2475 = .ok (.invokevirtual 305, 3) := by decide +kernel
theorem eL_law_2478 : decode rL_law.2.1 2478 = .ok (.istore 7, 2) := by decide +kernel
theorem eL_law_2480 : decode rL_law.2.1 2480 = .ok (.aload_n 2, 1) := by decide +kernel
theorem eL_law_2481 : decode rL_law.2.1 2481 = .ok (.invokevirtual 185, 3) := by decide +kernel
theorem eL_law_2484 : decode rL_law.2.1 2484 = .ok (.iload 6, 2) := by decide +kernel
theorem eL_law_2486 : decode rL_law.2.1 2486 = .ok (.if_icmp .eq 5, 3) := by decide +kernel
theorem eL_law_2489 : decode rL_law.2.1 2489 = .ok (.iconst 0, 1) := by decide +kernel
theorem eL_law_2490 : decode rL_law.2.1 2490 = .ok (.ireturn, 1) := by decide +kernel
theorem eL_law_2491 : decode rL_law.2.1 2491 = .ok (.iload 6, 2) := by decide +kernel
theorem eL_law_2493 : decode rL_law.2.1 2493 = .ok (.ifCond .ne 15, 3) := by decide +kernel
theorem eL_law_2496 : decode rL_law.2.1 2496 = .ok (.aload_n 3, 1) := by decide +kernel
theorem eL_law_2497 : decode rL_law.2.1 2497 = .ok (.iconst 0, 1) := by decide +kernel
theorem eL_law_2498 : decode rL_law.2.1 2498 = .ok (.laload, 1) := by decide +kernel
theorem eL_law_2499 : decode rL_law.2.1 2499 = .ok (.iload 7, 2) := by decide +kernel
theorem eL_law_2501 : decode rL_law.2.1 2501 = .ok (.i2l, 1) := by decide +kernel
theorem eL_law_2502 : decode rL_law.2.1 2502 = .ok (.lcmp, 1) := by decide +kernel
theorem eL_law_2503 : decode rL_law.2.1 2503 = .ok (.ifCond .eq 5, 3) := by decide +kernel
theorem eL_law_2506 : decode rL_law.2.1 2506 = .ok (.iconst 0, 1) := by decide +kernel
theorem eL_law_2507 : decode rL_law.2.1 2507 = .ok (.ireturn, 1) := by decide +kernel
theorem eL_law_2508 : decode rL_law.2.1 2508 = .ok (.goto 711, 3) := by decide +kernel
theorem eL_law_2511 : decode rL_law.2.1 2511 = .ok (.aload_n 1, 1) := by decide +kernel
theorem eL_law_2512 : decode rL_law.2.1 2512 = .ok (.aload_n 0, 1) := by decide +kernel
theorem eL_law_2513 : decode rL_law.2.1 2513 = .ok (.iload 5, 2) := by decide +kernel
theorem eL_law_2515 : decode rL_law.2.1 2515 = .ok (.iconst 1, 1) := by decide +kernel
theorem eL_law_2516 : decode rL_law.2.1 2516 = .ok (.iadd, 1) := by decide +kernel
theorem eL_law_2517 : decode rL_law.2.1 2517 = .ok (.iaload, 1) := by decide +kernel
theorem eL_law_2518 : decode rL_law.2.1 2518 = .ok (.aload_n 3, 1) := by decide +kernel
theorem eL_law_2519 : decode rL_law.2.1 2519 = .ok (.invokestatic 306, 3) := by decide +kernel
theorem eL_law_2522 : decode rL_law.2.1 2522 = .ok (.istore 6, 2) := by decide +kernel
theorem eL_law_2524 : decode rL_law.2.1 2524 = .ok (.aload_n 2, 1) := by decide +kernel
theorem eL_law_2525 : decode rL_law.2.1 2525 = .ok (.aload_n 0, 1) := by decide +kernel
theorem eL_law_2526 : decode rL_law.2.1 2526 = .ok (.iload 5, 2) := by decide +kernel
theorem eL_law_2528 : decode rL_law.2.1 2528 = .ok (.iconst 1, 1) := by decide +kernel
theorem eL_law_2529 : decode rL_law.2.1 2529 = .ok (.iadd, 1) := by decide +kernel
theorem eL_law_2530 : decode rL_law.2.1 2530 = .ok (.iaload, 1) := by decide +kernel
theorem eL_law_2531 : decode rL_law.2.1 2531 = .ok (.invokevirtual 308, 3) := by decide +kernel
theorem eL_law_2534 : decode rL_law.2.1 2534 = .ok (.istore 7, 2) := by decide +kernel
theorem eL_law_2536 : decode rL_law.2.1 2536 = .ok (.aload_n 2, 1) := by decide +kernel
theorem eL_law_2537 : decode rL_law.2.1 2537 = .ok (.invokevirtual 185, 3) := by decide +kernel
theorem eL_law_2540 : decode rL_law.2.1 2540 = .ok (.iload 6, 2) := by decide +kernel
theorem eL_law_2542 : decode rL_law.2.1 2542 = .ok (.if_icmp .eq 5, 3) := by decide +kernel
theorem eL_law_2545 : decode rL_law.2.1 2545 = .ok (.iconst 0, 1) := by decide +kernel
theorem eL_law_2546 : decode rL_law.2.1 2546 = .ok (.ireturn, 1) := by decide +kernel
theorem eL_law_2547 : decode rL_law.2.1 2547 = .ok (.iload 6, 2) := by decide +kernel
theorem eL_law_2549 : decode rL_law.2.1 2549 = .ok (.ifCond .ne 15, 3) := by decide +kernel
theorem eL_law_2552 : decode rL_law.2.1 2552 = .ok (.aload_n 3, 1) := by decide +kernel
theorem eL_law_2553 : decode rL_law.2.1 2553 = .ok (.iconst 0, 1) := by decide +kernel
theorem eL_law_2554 : decode rL_law.2.1 2554 = .ok (.laload, 1) := by decide +kernel
theorem eL_law_2555 : decode rL_law.2.1 2555 = .ok (.iload 7, 2) := by decide +kernel
theorem eL_law_2557 : decode rL_law.2.1 2557 = .ok (.i2l, 1) := by decide +kernel
theorem eL_law_2558 : decode rL_law.2.1 2558 = .ok (.lcmp, 1) := by decide +kernel
theorem eL_law_2559 : decode rL_law.2.1 2559 = .ok (.ifCond .eq 5, 3) := by decide +kernel
theorem eL_law_2562 : decode rL_law.2.1 2562 = .ok (.iconst 0, 1) := by decide +kernel
theorem eL_law_2563 : decode rL_law.2.1 2563 = .ok (.ireturn, 1) := by decide +kernel
theorem eL_law_2564 : decode rL_law.2.1 2564 = .ok (.goto 655, 3) := by decide +kernel
theorem eL_law_2567 : decode rL_law.2.1 2567 = .ok (.aload_n 1, 1) := by decide +kernel
theorem eL_law_2568 : decode rL_law.2.1 2568 = .ok (.invokevirtual 309, 3) := by decide +kernel
theorem eL_law_2571 : decode rL_law.2.1 2571 = .ok (.aload_n 2, 1) := by decide +kernel
theorem eL_law_2572 : decode rL_law.2.1 2572 = .ok (.invokevirtual 312, 3) := by decide +kernel
theorem eL_law_2575 : decode rL_law.2.1 2575 = .ok (.if_icmp .eq 644, 3) := by decide +kernel
theorem eL_law_2578 : decode rL_law.2.1 2578 = .ok (.iconst 0, 1) := by decide +kernel
theorem eL_law_2579 : decode rL_law.2.1 2579 = .ok (.ireturn, 1) := by decide +kernel
theorem eL_law_2580 : decode rL_law.2.1 2580 = .ok (.aload_n 1, 1) := by decide +kernel
theorem eL_law_2581 : decode rL_law.2.1 2581 = .ok (.invokevirtual 313, 3) := by decide +kernel
theorem eL_law_2584 : decode rL_law.2.1 2584 = .ok (.aload_n 2, 1) := by decide +kernel
theorem eL_law_2585 : decode rL_law.2.1 2585 = .ok (.invokevirtual 317, 3) := by decide +kernel
theorem eL_law_2588 : decode rL_law.2.1 2588 = .ok (.lcmp, 1) := by decide +kernel
theorem eL_law_2589 : decode rL_law.2.1 2589 = .ok (.ifCond .eq 630, 3) := by decide +kernel
theorem eL_law_2592 : decode rL_law.2.1 2592 = .ok (.iconst 0, 1) := by decide +kernel
theorem eL_law_2593 : decode rL_law.2.1 2593 = .ok (.ireturn, 1) := by decide +kernel
theorem eL_law_2594 : decode rL_law.2.1 2594 = .ok (.aload_n 1, 1) := by decide +kernel
theorem eL_law_2595 : decode rL_law.2.1 2595 = .ok (.invokevirtual 318, 3) := by decide +kernel
theorem eL_law_2598 : decode rL_law.2.1 2598 = .ok (.aload_n 2, 1) := by decide +kernel
theorem eL_law_2599 : decode rL_law.2.1 2599 = .ok (.invokevirtual 321, 3) := by decide +kernel
theorem eL_law_2602 : decode rL_law.2.1 2602 = .ok (.lcmp, 1) := by decide +kernel
theorem eL_law_2603 : decode rL_law.2.1 2603 = .ok (.ifCond .eq 616, 3) := by decide +kernel
theorem eL_law_2606 : decode rL_law.2.1 2606 = .ok (.iconst 0, 1) := by decide +kernel
theorem eL_law_2607 : decode rL_law.2.1 2607 = .ok (.ireturn, 1) := by decide +kernel
theorem eL_law_2608 : decode rL_law.2.1 2608 = .ok (.aload_n 1, 1) := by decide +kernel
theorem eL_law_2609 : decode rL_law.2.1 2609 = .ok (.invokevirtual 322, 3) := by decide +kernel
theorem eL_law_2612 : decode rL_law.2.1 2612 = .ok (.aload_n 2, 1) := by decide +kernel
theorem eL_law_2613 : decode rL_law.2.1 2613 = .ok (.invokevirtual 325, 3) := by decide +kernel
theorem eL_law_2616 : decode rL_law.2.1 2616 = .ok (.if_icmp .eq 603, 3) := by decide +kernel
theorem eL_law_2619 : decode rL_law.2.1 2619 = .ok (.iconst 0, 1) := by decide +kernel
theorem eL_law_2620 : decode rL_law.2.1 2620 = .ok (.ireturn, 1) := by decide +kernel
theorem eL_law_2621 : decode rL_law.2.1 2621 = .ok (.aload_n 1, 1) := by decide +kernel
theorem eL_law_2622 : decode rL_law.2.1 2622 = .ok (.invokevirtual 326, 3) := by decide +kernel
theorem eL_law_2625 : decode rL_law.2.1 2625 = .ok (.aload_n 2, 1) := by decide +kernel
theorem eL_law_2626 : decode rL_law.2.1 2626 = .ok (.invokevirtual 329, 3) := by decide +kernel
theorem eL_law_2629 : decode rL_law.2.1 2629 = .ok (.if_icmp .eq 590, 3) := by decide +kernel
theorem eL_law_2632 : decode rL_law.2.1 2632 = .ok (.iconst 0, 1) := by decide +kernel
theorem eL_law_2633 : decode rL_law.2.1 2633 = .ok (.ireturn, 1) := by decide +kernel
theorem eL_law_2634 : decode rL_law.2.1 2634 = .ok (.aload_n 1, 1) := by decide +kernel
theorem eL_law_2635 : decode rL_law.2.1 2635 = .ok (.invokevirtual 330, 3) := by decide +kernel
theorem eL_law_2638 : decode rL_law.2.1 2638 = .ok (.aload_n 2, 1) := by decide +kernel
theorem eL_law_2639 : decode rL_law.2.1 2639 = .ok (.invokevirtual 333, 3) := by decide +kernel
theorem eL_law_2642 : decode rL_law.2.1 2642 = .ok (.if_icmp .eq 577, 3) := by decide +kernel
theorem eL_law_2645 : decode rL_law.2.1 2645 = .ok (.iconst 0, 1) := by decide +kernel
theorem eL_law_2646 : decode rL_law.2.1 2646 = .ok (.ireturn, 1) := by decide +kernel
theorem eL_law_2647 : decode rL_law.2.1 2647 = .ok (.aload_n 1, 1) := by decide +kernel
theorem eL_law_2648 : decode rL_law.2.1 2648 = .ok (.aload 4, 2) := by decide +kernel
theorem eL_law_2650 : decode rL_law.2.1 2650 = .ok (.invokestatic 334, 3) := by decide +kernel
theorem eL_law_2653 : decode rL_law.2.1 2653 = .ok (.istore 6, 2) := by decide +kernel
theorem eL_law_2655 : decode rL_law.2.1 2655 = .ok (.aload_n 2, 1) := by decide +kernel
theorem eL_law_2656 : decode rL_law.2.1 2656 = .ok (.invokevirtual 337, 3) := by decide +kernel
theorem eL_law_2659 : decode rL_law.2.1 2659 = .ok (.dstore 7, 2) := by decide +kernel
theorem eL_law_2661 : decode rL_law.2.1 2661 = .ok (.aload_n 2, 1) := by decide +kernel
theorem eL_law_2662 : decode rL_law.2.1 2662 = .ok (.invokevirtual 185, 3) := by decide +kernel
theorem eL_law_2665 : decode rL_law.2.1 2665 = .ok (.iload 6, 2) := by decide +kernel
theorem eL_law_2667 : decode rL_law.2.1 2667 = .ok (.if_icmp .eq 5, 3) := by decide +kernel
theorem eL_law_2670 : decode rL_law.2.1 2670 = .ok (.iconst 0, 1) := by decide +kernel
theorem eL_law_2671 : decode rL_law.2.1 2671 = .ok (.ireturn, 1) := by decide +kernel
theorem eL_law_2672 : decode rL_law.2.1 2672 = .ok (.iload 6, 2) := by decide +kernel
theorem eL_law_2674 : decode rL_law.2.1 2674 = .ok (.ifCond .ne 35, 3) := by decide +kernel
theorem eL_law_2677 : decode rL_law.2.1 2677 = .ok (.aload 4, 2) := by decide +kernel
theorem eL_law_2679 : decode rL_law.2.1 2679 = .ok (.iconst 0, 1) := by decide +kernel
theorem eL_law_2680 : decode rL_law.2.1 2680 = .ok (.daload, 1) := by decide +kernel
theorem eL_law_2681 : decode rL_law.2.1 2681 = .ok (.dload 7, 2) := by decide +kernel
theorem eL_law_2683 : decode rL_law.2.1 2683 = .ok (.dcmp .l, 1) := by decide +kernel
theorem eL_law_2684 : decode rL_law.2.1 2684 = .ok (.ifCond .eq 25, 3) := by decide +kernel
theorem eL_law_2687 : decode rL_law.2.1 2687 = .ok (.aload 4, 2) := by decide +kernel
theorem eL_law_2689 : decode rL_law.2.1 2689 = .ok (.iconst 0, 1) := by decide +kernel
theorem eL_law_2690 : decode rL_law.2.1 2690 = .ok (.daload, 1) := by decide +kernel
theorem eL_law_2691 : decode rL_law.2.1 2691 = .ok (.aload 4, 2) := by decide +kernel
theorem eL_law_2693 : decode rL_law.2.1 2693 = .ok (.iconst 0, 1) := by decide +kernel
theorem eL_law_2694 : decode rL_law.2.1 2694 = .ok (.daload, 1) := by decide +kernel
theorem eL_law_2695 : decode rL_law.2.1 2695 = .ok (.dcmp .l, 1) := by decide +kernel
theorem eL_law_2696 : decode rL_law.2.1 2696 = .ok (.ifCond .eq 11, 3) := by decide +kernel
theorem eL_law_2699 : decode rL_law.2.1 2699 = .ok (.dload 7, 2) := by decide +kernel
theorem eL_law_2701 : decode rL_law.2.1 2701 = .ok (.dload 7, 2) := by decide +kernel
theorem eL_law_2703 : decode rL_law.2.1 2703 = .ok (.dcmp .l, 1) := by decide +kernel
theorem eL_law_2704 : decode rL_law.2.1 2704 = .ok (.ifCond .ne 5, 3) := by decide +kernel
theorem eL_law_2707 : decode rL_law.2.1 2707 = .ok (.iconst 0, 1) := by decide +kernel
theorem eL_law_2708 : decode rL_law.2.1 2708 = .ok (.ireturn, 1) := by decide +kernel
theorem eL_law_2709 : decode rL_law.2.1 2709 = .ok (.goto 510, 3) := by decide +kernel
theorem eL_law_2712 : decode rL_law.2.1 2712 = .ok (.aload_n 1, 1) := by decide +kernel
theorem eL_law_2713 : decode rL_law.2.1 2713 = .ok (.aload_n 0, 1) := by decide +kernel
theorem eL_law_2714 : decode rL_law.2.1 2714 = .ok (.iload 5, 2) := by decide +kernel
theorem eL_law_2716 : decode rL_law.2.1 2716 = .ok (.iconst 1, 1) := by decide +kernel
theorem eL_law_2717 : decode rL_law.2.1 2717 = .ok (.iadd, 1) := by decide +kernel
theorem eL_law_2718 : decode rL_law.2.1 2718 = .ok (.iaload, 1) := by decide +kernel
theorem eL_law_2719 : decode rL_law.2.1 2719 = .ok (.aload 4, 2) := by decide +kernel
theorem eL_law_2721 : decode rL_law.2.1 2721 = .ok (.invokestatic 338, 3) := by decide +kernel
theorem eL_law_2724 : decode rL_law.2.1 2724 = .ok (.istore 6, 2) := by decide +kernel
theorem eL_law_2726 : decode rL_law.2.1 2726 = .ok (.aload_n 2, 1) := by decide +kernel
theorem eL_law_2727 : decode rL_law.2.1 2727 = .ok (.aload_n 0, 1) := by decide +kernel
theorem eL_law_2728 : decode rL_law.2.1 2728 = .ok (.iload 5, 2) := by decide +kernel
theorem eL_law_2730 : decode rL_law.2.1 2730 = .ok (.iconst 1, 1) := by decide +kernel
theorem eL_law_2731 : decode rL_law.2.1 2731 = .ok (.iadd, 1) := by decide +kernel
theorem eL_law_2732 : decode rL_law.2.1 2732 = .ok (.iaload, 1) := by decide +kernel
theorem eL_law_2733 : decode rL_law.2.1 2733 = .ok (.invokevirtual 341, 3) := by decide +kernel
theorem eL_law_2736 : decode rL_law.2.1 2736 = .ok (.fstore 7, 2) := by decide +kernel
theorem eL_law_2738 : decode rL_law.2.1 2738 = .ok (.aload_n 2, 1) := by decide +kernel
theorem eL_law_2739 : decode rL_law.2.1 2739 = .ok (.invokevirtual 185, 3) := by decide +kernel
theorem eL_law_2742 : decode rL_law.2.1 2742 = .ok (.iload 6, 2) := by decide +kernel
theorem eL_law_2744 : decode rL_law.2.1 2744 = .ok (.if_icmp .eq 5, 3) := by decide +kernel
theorem eL_law_2747 : decode rL_law.2.1 2747 = .ok (.iconst 0, 1) := by decide +kernel
theorem eL_law_2748 : decode rL_law.2.1 2748 = .ok (.ireturn, 1) := by decide +kernel
theorem eL_law_2749 : decode rL_law.2.1 2749 = .ok (.iload 6, 2) := by decide +kernel
theorem eL_law_2751 : decode rL_law.2.1 2751 = .ok (.ifCond .ne 36, 3) := by decide +kernel
theorem eL_law_2754 : decode rL_law.2.1 2754 = .ok (.aload 4, 2) := by decide +kernel
theorem eL_law_2756 : decode rL_law.2.1 2756 = .ok (.iconst 0, 1) := by decide +kernel
theorem eL_law_2757 : decode rL_law.2.1 2757 = .ok (.daload, 1) := by decide +kernel
theorem eL_law_2758 : decode rL_law.2.1 2758 = .ok (.fload 7, 2) := by decide +kernel
theorem eL_law_2760 : decode rL_law.2.1 2760 = .ok (.f2d, 1) := by decide +kernel
theorem eL_law_2761 : decode rL_law.2.1 2761 = .ok (.dcmp .l, 1) := by decide +kernel
theorem eL_law_2762 : decode rL_law.2.1 2762 = .ok (.ifCond .eq 25, 3) := by decide +kernel
theorem eL_law_2765 : decode rL_law.2.1 2765 = .ok (.aload 4, 2) := by decide +kernel
theorem eL_law_2767 : decode rL_law.2.1 2767 = .ok (.iconst 0, 1) := by decide +kernel
theorem eL_law_2768 : decode rL_law.2.1 2768 = .ok (.daload, 1) := by decide +kernel
theorem eL_law_2769 : decode rL_law.2.1 2769 = .ok (.aload 4, 2) := by decide +kernel
theorem eL_law_2771 : decode rL_law.2.1 2771 = .ok (.iconst 0, 1) := by decide +kernel
theorem eL_law_2772 : decode rL_law.2.1 2772 = .ok (.daload, 1) := by decide +kernel
theorem eL_law_2773 : decode rL_law.2.1 2773 = .ok (.dcmp .l, 1) := by decide +kernel
theorem eL_law_2774 : decode rL_law.2.1 2774 = .ok (.ifCond .eq 11, 3) := by decide +kernel
theorem eL_law_2777 : decode rL_law.2.1 2777 = .ok (.fload 7, 2) := by decide +kernel
theorem eL_law_2779 : decode rL_law.2.1 2779 = .ok (.fload 7, 2) := by decide +kernel
theorem eL_law_2781 : decode rL_law.2.1 2781 = .ok (.fcmp .l, 1) := by decide +kernel
theorem eL_law_2782 : decode rL_law.2.1 2782 = .ok (.ifCond .ne 5, 3) := by decide +kernel
theorem eL_law_2785 : decode rL_law.2.1 2785 = .ok (.iconst 0, 1) := by decide +kernel
theorem eL_law_2786 : decode rL_law.2.1 2786 = .ok (.ireturn, 1) := by decide +kernel
theorem eL_law_2787 : decode rL_law.2.1 2787 = .ok (.goto 432, 3) := by decide +kernel
theorem eL_law_2790 : decode rL_law.2.1 2790 = .ok (.aload_n 1, 1) := by decide +kernel
theorem eL_law_2791 : decode rL_law.2.1 2791 = .ok (.invokevirtual 342, 3) := by decide +kernel
theorem eL_law_2794 : decode rL_law.2.1 2794 = .ok (.aload_n 2, 1) := by decide +kernel
theorem eL_law_2795 : decode rL_law.2.1 2795 = .ok (.invokevirtual 346, 3) := by decide +kernel
theorem eL_law_2798 : decode rL_law.2.1 2798 = .ok (.if_icmp .eq 421, 3) := by decide +kernel
theorem eL_law_2801 : decode rL_law.2.1 2801 = .ok (.iconst 0, 1) := by decide +kernel
theorem eL_law_2802 : decode rL_law.2.1 2802 = .ok (.ireturn, 1) := by decide +kernel
theorem eL_law_2803 : decode rL_law.2.1 2803 = .ok (.aload_n 1, 1) := by decide +kernel
theorem eL_law_2804 : decode rL_law.2.1 2804 = .ok (.aload_n 0, 1) := by decide +kernel
theorem eL_law_2805 : decode rL_law.2.1 2805 = .ok (.iload 5, 2) := by decide +kernel
theorem eL_law_2807 : decode rL_law.2.1 2807 = .ok (.iconst 1, 1) := by decide +kernel
theorem eL_law_2808 : decode rL_law.2.1 2808 = .ok (.iadd, 1) := by decide +kernel
theorem eL_law_2809 : decode rL_law.2.1 2809 = .ok (.iaload, 1) := by decide +kernel
theorem eL_law_2810 : decode rL_law.2.1 2810 = .ok (.aload_n 3, 1) := by decide +kernel
theorem eL_law_2811 : decode rL_law.2.1 2811 = .ok (.invokestatic 347, 3) := by decide +kernel
theorem eL_law_2814 : decode rL_law.2.1 2814 = .ok (.istore 6, 2) := by decide +kernel
theorem eL_law_2816 : decode rL_law.2.1 2816 = .ok (.aload_n 2, 1) := by decide +kernel
theorem eL_law_2817 : decode rL_law.2.1 2817 = .ok (.aload_n 0, 1) := by decide +kernel
theorem eL_law_2818 : decode rL_law.2.1 2818 = .ok (.iload 5, 2) := by decide +kernel
theorem eL_law_2820 : decode rL_law.2.1 2820 = .ok (.iconst 1, 1) := by decide +kernel
theorem eL_law_2821 : decode rL_law.2.1 2821 = .ok (.iadd, 1) := by decide +kernel
theorem eL_law_2822 : decode rL_law.2.1 2822 = .ok (.iaload, 1) := by decide +kernel
theorem eL_law_2823 : decode rL_law.2.1 2823 = .ok (.invokevirtual 349, 3) := by decide +kernel
theorem eL_law_2826 : decode rL_law.2.1 2826 = .ok (.istore 7, 2) := by decide +kernel
theorem eL_law_2828 : decode rL_law.2.1 2828 = .ok (.aload_n 2, 1) := by decide +kernel
theorem eL_law_2829 : decode rL_law.2.1 2829 = .ok (.invokevirtual 185, 3) := by decide +kernel
theorem eL_law_2832 : decode rL_law.2.1 2832 = .ok (.iload 6, 2) := by decide +kernel
theorem eL_law_2834 : decode rL_law.2.1 2834 = .ok (.if_icmp .eq 5, 3) := by decide +kernel
theorem eL_law_2837 : decode rL_law.2.1 2837 = .ok (.iconst 0, 1) := by decide +kernel
theorem eL_law_2838 : decode rL_law.2.1 2838 = .ok (.ireturn, 1) := by decide +kernel
theorem eL_law_2839 : decode rL_law.2.1 2839 = .ok (.iload 6, 2) := by decide +kernel
theorem eL_law_2841 : decode rL_law.2.1 2841 = .ok (.ifCond .ne 15, 3) := by decide +kernel
theorem eL_law_2844 : decode rL_law.2.1 2844 = .ok (.aload_n 3, 1) := by decide +kernel
theorem eL_law_2845 : decode rL_law.2.1 2845 = .ok (.iconst 0, 1) := by decide +kernel
theorem eL_law_2846 : decode rL_law.2.1 2846 = .ok (.laload, 1) := by decide +kernel
theorem eL_law_2847 : decode rL_law.2.1 2847 = .ok (.iload 7, 2) := by decide +kernel
theorem eL_law_2849 : decode rL_law.2.1 2849 = .ok (.i2l, 1) := by decide +kernel
theorem eL_law_2850 : decode rL_law.2.1 2850 = .ok (.lcmp, 1) := by decide +kernel
theorem eL_law_2851 : decode rL_law.2.1 2851 = .ok (.ifCond .eq 5, 3) := by decide +kernel
theorem eL_law_2854 : decode rL_law.2.1 2854 = .ok (.iconst 0, 1) := by decide +kernel
theorem eL_law_2855 : decode rL_law.2.1 2855 = .ok (.ireturn, 1) := by decide +kernel
theorem eL_law_2856 : decode rL_law.2.1 2856 = .ok (.goto 363, 3) := by decide +kernel
theorem eL_law_2859 : decode rL_law.2.1 2859 = .ok (.aload_n 1, 1) := by decide +kernel
theorem eL_law_2860 : decode rL_law.2.1 2860 = .ok (.invokevirtual 350, 3) := by decide +kernel
theorem eL_law_2863 : decode rL_law.2.1 2863 = .ok (.aload_n 2, 1) := by decide +kernel
theorem eL_law_2864 : decode rL_law.2.1 2864 = .ok (.invokevirtual 353, 3) := by decide +kernel
theorem eL_law_2867 : decode rL_law.2.1 2867 = .ok (.if_icmp .eq 352, 3) := by decide +kernel
theorem eL_law_2870 : decode rL_law.2.1 2870 = .ok (.iconst 0, 1) := by decide +kernel
theorem eL_law_2871 : decode rL_law.2.1 2871 = .ok (.ireturn, 1) := by decide +kernel
theorem eL_law_2872 : decode rL_law.2.1 2872 = .ok (.aload_n 1, 1) := by decide +kernel
theorem eL_law_2873 : decode rL_law.2.1 2873 = .ok (.aload_n 0, 1) := by decide +kernel
theorem eL_law_2874 : decode rL_law.2.1 2874 = .ok (.iload 5, 2) := by decide +kernel
theorem eL_law_2876 : decode rL_law.2.1 2876 = .ok (.iconst 1, 1) := by decide +kernel
theorem eL_law_2877 : decode rL_law.2.1 2877 = .ok (.iadd, 1) := by decide +kernel
theorem eL_law_2878 : decode rL_law.2.1 2878 = .ok (.iaload, 1) := by decide +kernel
theorem eL_law_2879 : decode rL_law.2.1 2879 = .ok (.aload_n 3, 1) := by decide +kernel
theorem eL_law_2880 : decode rL_law.2.1 2880 = .ok (.invokestatic 354, 3) := by decide +kernel
theorem eL_law_2883 : decode rL_law.2.1 2883 = .ok (.istore 6, 2) := by decide +kernel
theorem eL_law_2885 : decode rL_law.2.1 2885 = .ok (.aload_n 2, 1) := by decide +kernel
theorem eL_law_2886 : decode rL_law.2.1 2886 = .ok (.aload_n 0, 1) := by decide +kernel
theorem eL_law_2887 : decode rL_law.2.1 2887 = .ok (.iload 5, 2) := by decide +kernel
theorem eL_law_2889 : decode rL_law.2.1 2889 = .ok (.iconst 1, 1) := by decide +kernel
theorem eL_law_2890 : decode rL_law.2.1 2890 = .ok (.iadd, 1) := by decide +kernel
theorem eL_law_2891 : decode rL_law.2.1 2891 = .ok (.iaload, 1) := by decide +kernel
theorem eL_law_2892 : decode rL_law.2.1 2892 = .ok (.invokevirtual 356, 3) := by decide +kernel
theorem eL_law_2895 : decode rL_law.2.1 2895 = .ok (.istore 7, 2) := by decide +kernel
theorem eL_law_2897 : decode rL_law.2.1 2897 = .ok (.aload_n 2, 1) := by decide +kernel
theorem eL_law_2898 : decode rL_law.2.1 2898 = .ok (.invokevirtual 185, 3) := by decide +kernel
theorem eL_law_2901 : decode rL_law.2.1 2901 = .ok (.iload 6, 2) := by decide +kernel
theorem eL_law_2903 : decode rL_law.2.1 2903 = .ok (.if_icmp .eq 5, 3) := by decide +kernel
theorem eL_law_2906 : decode rL_law.2.1 2906 = .ok (.iconst 0, 1) := by decide +kernel
theorem eL_law_2907 : decode rL_law.2.1 2907 = .ok (.ireturn, 1) := by decide +kernel
theorem eL_law_2908 : decode rL_law.2.1 2908 = .ok (.iload 6, 2) := by decide +kernel
theorem eL_law_2910 : decode rL_law.2.1 2910 = .ok (.ifCond .ne 15, 3) := by decide +kernel
theorem eL_law_2913 : decode rL_law.2.1 2913 = .ok (.aload_n 3, 1) := by decide +kernel
theorem eL_law_2914 : decode rL_law.2.1 2914 = .ok (.iconst 0, 1) := by decide +kernel
theorem eL_law_2915 : decode rL_law.2.1 2915 = .ok (.laload, 1) := by decide +kernel
theorem eL_law_2916 : decode rL_law.2.1 2916 = .ok (.iload 7, 2) := by decide +kernel
theorem eL_law_2918 : decode rL_law.2.1 2918 = .ok (.i2l, 1) := by decide +kernel
theorem eL_law_2919 : decode rL_law.2.1 2919 = .ok (.lcmp, 1) := by decide +kernel
theorem eL_law_2920 : decode rL_law.2.1 2920 = .ok (.ifCond .eq 5, 3) := by decide +kernel
theorem eL_law_2923 : decode rL_law.2.1 2923 = .ok (.iconst 0, 1) := by decide +kernel
theorem eL_law_2924 : decode rL_law.2.1 2924 = .ok (.ireturn, 1) := by decide +kernel
theorem eL_law_2925 : decode rL_law.2.1 2925 = .ok (.goto 294, 3) := by decide +kernel
theorem eL_law_2928 : decode rL_law.2.1 2928 = .ok (.aload_n 1, 1) := by decide +kernel
theorem eL_law_2929 : decode rL_law.2.1 2929 = .ok (.aload_n 0, 1) := by decide +kernel
theorem eL_law_2930 : decode rL_law.2.1 2930 = .ok (.iload 5, 2) := by decide +kernel
theorem eL_law_2932 : decode rL_law.2.1 2932 = .ok (.iconst 1, 1) := by decide +kernel
theorem eL_law_2933 : decode rL_law.2.1 2933 = .ok (.iadd, 1) := by decide +kernel
theorem eL_law_2934 : decode rL_law.2.1 2934 = .ok (.iaload, 1) := by decide +kernel
theorem eL_law_2935 : decode rL_law.2.1 2935 = .ok (.i2c, 1) := by decide +kernel
theorem eL_law_2936 : decode rL_law.2.1 2936 = .ok (.aload_n 3, 1) := by decide +kernel
theorem eL_law_2937 : decode rL_law.2.1 2937 = .ok (.invokestatic 357, 3) := by decide +kernel
theorem eL_law_2940 : decode rL_law.2.1 2940 = .ok (.istore 6, 2) := by decide +kernel
theorem eL_law_2942 : decode rL_law.2.1 2942 = .ok (.aload_n 2, 1) := by decide +kernel
theorem eL_law_2943 : decode rL_law.2.1 2943 = .ok (.aload_n 0, 1) := by decide +kernel
theorem eL_law_2944 : decode rL_law.2.1 2944 = .ok (.iload 5, 2) := by decide +kernel
theorem eL_law_2946 : decode rL_law.2.1 2946 = .ok (.iconst 1, 1) := by decide +kernel
theorem eL_law_2947 : decode rL_law.2.1 2947 = .ok (.iadd, 1) := by decide +kernel
theorem eL_law_2948 : decode rL_law.2.1 2948 = .ok (.iaload, 1) := by decide +kernel
theorem eL_law_2949 : decode rL_law.2.1 2949 = .ok (.i2c, 1) := by decide +kernel
theorem eL_law_2950 : decode rL_law.2.1 2950 = .ok (.invokevirtual 360, 3) := by decide +kernel
theorem eL_law_2953 : decode rL_law.2.1 2953 = .ok (.istore 7, 2) := by decide +kernel
theorem eL_law_2955 : decode rL_law.2.1 2955 = .ok (.aload_n 2, 1) := by decide +kernel
theorem eL_law_2956 : decode rL_law.2.1 2956 = .ok (.invokevirtual 185, 3) := by decide +kernel
theorem eL_law_2959 : decode rL_law.2.1 2959 = .ok (.iload 6, 2) := by decide +kernel
theorem eL_law_2961 : decode rL_law.2.1 2961 = .ok (.if_icmp .eq 5, 3) := by decide +kernel
theorem eL_law_2964 : decode rL_law.2.1 2964 = .ok (.iconst 0, 1) := by decide +kernel
theorem eL_law_2965 : decode rL_law.2.1 2965 = .ok (.ireturn, 1) := by decide +kernel
theorem eL_law_2966 : decode rL_law.2.1 2966 = .ok (.iload 6, 2) := by decide +kernel
theorem eL_law_2968 : decode rL_law.2.1 2968 = .ok (.ifCond .ne 15, 3) := by decide +kernel
theorem eL_law_2971 : decode rL_law.2.1 2971 = .ok (.aload_n 3, 1) := by decide +kernel
theorem eL_law_2972 : decode rL_law.2.1 2972 = .ok (.iconst 0, 1) := by decide +kernel
theorem eL_law_2973 : decode rL_law.2.1 2973 = .ok (.laload, 1) := by decide +kernel
theorem eL_law_2974 : decode rL_law.2.1 2974 = .ok (.iload 7, 2) := by decide +kernel
theorem eL_law_2976 : decode rL_law.2.1 2976 = .ok (.i2l, 1) := by decide +kernel
theorem eL_law_2977 : decode rL_law.2.1 2977 = .ok (.lcmp, 1) := by decide +kernel
theorem eL_law_2978 : decode rL_law.2.1 2978 = .ok (.ifCond .eq 5, 3) := by decide +kernel
theorem eL_law_2981 : decode rL_law.2.1 2981 = .ok (.iconst 0, 1) := by decide +kernel
theorem eL_law_2982 : decode rL_law.2.1 2982 = .ok (.ireturn, 1) := by decide +kernel
theorem eL_law_2983 : decode rL_law.2.1 2983 = .ok (.goto 236, 3) := by decide +kernel
theorem eL_law_2986 : decode rL_law.2.1 2986 = .ok (.aload_n 1, 1) := by decide +kernel
theorem eL_law_2987 : decode rL_law.2.1 2987 = .ok (.aload_n 3, 1) := by decide +kernel
theorem eL_law_2988 : decode rL_law.2.1 2988 = .ok (.invokestatic 361, 3) := by decide +kernel
theorem eL_law_2991 : decode rL_law.2.1 2991 = .ok (.istore 6, 2) := by decide +kernel
theorem eL_law_2993 : decode rL_law.2.1 2993 = .ok (.aload_n 2, 1) := by decide +kernel
theorem eL_law_2994 : decode rL_law.2.1 2994 = .ok (.invokevirtual 364, 3) := by decide +kernel
theorem eL_law_2997 : decode rL_law.2.1 2997 = .ok (.istore 7, 2) := by decide +kernel
theorem eL_law_2999 : decode rL_law.2.1 2999 = .ok (.aload_n 2, 1) := by decide +kernel
theorem eL_law_3000 : decode rL_law.2.1 3000 = .ok (.invokevirtual 185, 3) := by decide +kernel
theorem eL_law_3003 : decode rL_law.2.1 3003 = .ok (.iload 6, 2) := by decide +kernel
theorem eL_law_3005 : decode rL_law.2.1 3005 = .ok (.if_icmp .eq 5, 3) := by decide +kernel
theorem eL_law_3008 : decode rL_law.2.1 3008 = .ok (.iconst 0, 1) := by decide +kernel
theorem eL_law_3009 : decode rL_law.2.1 3009 = .ok (.ireturn, 1) := by decide +kernel
theorem eL_law_3010 : decode rL_law.2.1 3010 = .ok (.iload 6, 2) := by decide +kernel
theorem eL_law_3012 : decode rL_law.2.1 3012 = .ok (.ifCond .ne 15, 3) := by decide +kernel
theorem eL_law_3015 : decode rL_law.2.1 3015 = .ok (.aload_n 3, 1) := by decide +kernel
theorem eL_law_3016 : decode rL_law.2.1 3016 = .ok (.iconst 0, 1) := by decide +kernel
theorem eL_law_3017 : decode rL_law.2.1 3017 = .ok (.laload, 1) := by decide +kernel
theorem eL_law_3018 : decode rL_law.2.1 3018 = .ok (.iload 7, 2) := by decide +kernel
theorem eL_law_3020 : decode rL_law.2.1 3020 = .ok (.i2l, 1) := by decide +kernel
theorem eL_law_3021 : decode rL_law.2.1 3021 = .ok (.lcmp, 1) := by decide +kernel
theorem eL_law_3022 : decode rL_law.2.1 3022 = .ok (.ifCond .eq 5, 3) := by decide +kernel
theorem eL_law_3025 : decode rL_law.2.1 3025 = .ok (.iconst 0, 1) := by decide +kernel
theorem eL_law_3026 : decode rL_law.2.1 3026 = .ok (.ireturn, 1) := by decide +kernel
theorem eL_law_3027 : decode rL_law.2.1 3027 = .ok (.goto 192, 3) := by decide +kernel
theorem eL_law_3030 : decode rL_law.2.1 3030 = .ok (.aload_n 1, 1) := by decide +kernel
theorem eL_law_3031 : decode rL_law.2.1 3031 = .ok (.aload_n 3, 1) := by decide +kernel
theorem eL_law_3032 : decode rL_law.2.1 3032 = .ok (.invokestatic 365, 3) := by decide +kernel
theorem eL_law_3035 : decode rL_law.2.1 3035 = .ok (.istore 6, 2) := by decide +kernel
theorem eL_law_3037 : decode rL_law.2.1 3037 = .ok (.aload_n 2, 1) := by decide +kernel
theorem eL_law_3038 : decode rL_law.2.1 3038 = .ok (.invokevirtual 367, 3) := by decide +kernel
theorem eL_law_3041 : decode rL_law.2.1 3041 = .ok (.istore 7, 2) := by decide +kernel
theorem eL_law_3043 : decode rL_law.2.1 3043 = .ok (.aload_n 2, 1) := by decide +kernel
theorem eL_law_3044 : decode rL_law.2.1 3044 = .ok (.invokevirtual 185, 3) := by decide +kernel
theorem eL_law_3047 : decode rL_law.2.1 3047 = .ok (.iload 6, 2) := by decide +kernel
theorem eL_law_3049 : decode rL_law.2.1 3049 = .ok (.if_icmp .eq 5, 3) := by decide +kernel
theorem eL_law_3052 : decode rL_law.2.1 3052 = .ok (.iconst 0, 1) := by decide +kernel
theorem eL_law_3053 : decode rL_law.2.1 3053 = .ok (.ireturn, 1) := by decide +kernel
theorem eL_law_3054 : decode rL_law.2.1 3054 = .ok (.iload 6, 2) := by decide +kernel
theorem eL_law_3056 : decode rL_law.2.1 3056 = .ok (.ifCond .ne 15, 3) := by decide +kernel
theorem eL_law_3059 : decode rL_law.2.1 3059 = .ok (.aload_n 3, 1) := by decide +kernel
theorem eL_law_3060 : decode rL_law.2.1 3060 = .ok (.iconst 0, 1) := by decide +kernel
theorem eL_law_3061 : decode rL_law.2.1 3061 = .ok (.laload, 1) := by decide +kernel
theorem eL_law_3062 : decode rL_law.2.1 3062 = .ok (.iload 7, 2) := by decide +kernel
theorem eL_law_3064 : decode rL_law.2.1 3064 = .ok (.i2l, 1) := by decide +kernel
theorem eL_law_3065 : decode rL_law.2.1 3065 = .ok (.lcmp, 1) := by decide +kernel
theorem eL_law_3066 : decode rL_law.2.1 3066 = .ok (.ifCond .eq 5, 3) := by decide +kernel
theorem eL_law_3069 : decode rL_law.2.1 3069 = .ok (.iconst 0, 1) := by decide +kernel
theorem eL_law_3070 : decode rL_law.2.1 3070 = .ok (.ireturn, 1) := by decide +kernel
theorem eL_law_3071 : decode rL_law.2.1 3071 = .ok (.goto 148, 3) := by decide +kernel
theorem eL_law_3074 : decode rL_law.2.1 3074 = .ok (.aload_n 1, 1) := by decide +kernel
theorem eL_law_3075 : decode rL_law.2.1 3075 = .ok (.aload_n 3, 1) := by decide +kernel
theorem eL_law_3076 : decode rL_law.2.1 3076 = .ok (.invokestatic 368, 3) := by decide +kernel
theorem eL_law_3079 : decode rL_law.2.1 3079 = .ok (.istore 6, 2) := by decide +kernel
theorem eL_law_3081 : decode rL_law.2.1 3081 = .ok (.aload_n 2, 1) := by decide +kernel
theorem eL_law_3082 : decode rL_law.2.1 3082 = .ok (.invokevirtual 370, 3) := by decide +kernel
theorem eL_law_3085 : decode rL_law.2.1 3085 = .ok (.istore 7, 2) := by decide +kernel
theorem eL_law_3087 : decode rL_law.2.1 3087 = .ok (.aload_n 2, 1) := by decide +kernel
theorem eL_law_3088 : decode rL_law.2.1 3088 = .ok (.invokevirtual 185, 3) := by decide +kernel
theorem eL_law_3091 : decode rL_law.2.1 3091 = .ok (.iload 6, 2) := by decide +kernel
theorem eL_law_3093 : decode rL_law.2.1 3093 = .ok (.if_icmp .eq 5, 3) := by decide +kernel
theorem eL_law_3096 : decode rL_law.2.1 3096 = .ok (.iconst 0, 1) := by decide +kernel
theorem eL_law_3097 : decode rL_law.2.1 3097 = .ok (.ireturn, 1) := by decide +kernel
theorem eL_law_3098 : decode rL_law.2.1 3098 = .ok (.iload 6, 2) := by decide +kernel
theorem eL_law_3100 : decode rL_law.2.1 3100 = .ok (.ifCond .ne 15, 3) := by decide +kernel
theorem eL_law_3103 : decode rL_law.2.1 3103 = .ok (.aload_n 3, 1) := by decide +kernel
theorem eL_law_3104 : decode rL_law.2.1 3104 = .ok (.iconst 0, 1) := by decide +kernel
theorem eL_law_3105 : decode rL_law.2.1 3105 = .ok (.laload, 1) := by decide +kernel
theorem eL_law_3106 : decode rL_law.2.1 3106 = .ok (.iload 7, 2) := by decide +kernel
theorem eL_law_3108 : decode rL_law.2.1 3108 = .ok (.i2l, 1) := by decide +kernel
theorem eL_law_3109 : decode rL_law.2.1 3109 = .ok (.lcmp, 1) := by decide +kernel
theorem eL_law_3110 : decode rL_law.2.1 3110 = .ok (.ifCond .eq 5, 3) := by decide +kernel
theorem eL_law_3113 : decode rL_law.2.1 3113 = .ok (.iconst 0, 1) := by decide +kernel
theorem eL_law_3114 : decode rL_law.2.1 3114 = .ok (.ireturn, 1) := by decide +kernel
theorem eL_law_3115 : decode rL_law.2.1 3115 = .ok (.goto 104, 3) := by decide +kernel
theorem eL_law_3118 : decode rL_law.2.1 3118 = .ok (.aload_n 1, 1) := by decide +kernel
theorem eL_law_3119 : decode rL_law.2.1 3119 = .ok (.aload_n 3, 1) := by decide +kernel
theorem eL_law_3120 : decode rL_law.2.1 3120 = .ok (.invokestatic 371, 3) := by decide +kernel
theorem eL_law_3123 : decode rL_law.2.1 3123 = .ok (.istore 6, 2) := by decide +kernel
theorem eL_law_3125 : decode rL_law.2.1 3125 = .ok (.aload_n 2, 1) := by decide +kernel
theorem eL_law_3126 : decode rL_law.2.1 3126 = .ok (.invokevirtual 373, 3) := by decide +kernel
theorem eL_law_3129 : decode rL_law.2.1 3129 = .ok (.istore 7, 2) := by decide +kernel
theorem eL_law_3131 : decode rL_law.2.1 3131 = .ok (.aload_n 2, 1) := by decide +kernel
theorem eL_law_3132 : decode rL_law.2.1 3132 = .ok (.invokevirtual 185, 3) := by decide +kernel
theorem eL_law_3135 : decode rL_law.2.1 3135 = .ok (.iload 6, 2) := by decide +kernel
theorem eL_law_3137 : decode rL_law.2.1 3137 = .ok (.if_icmp .eq 5, 3) := by decide +kernel
theorem eL_law_3140 : decode rL_law.2.1 3140 = .ok (.iconst 0, 1) := by decide +kernel
theorem eL_law_3141 : decode rL_law.2.1 3141 = .ok (.ireturn, 1) := by decide +kernel
theorem eL_law_3142 : decode rL_law.2.1 3142 = .ok (.iload 6, 2) := by decide +kernel
theorem eL_law_3144 : decode rL_law.2.1 3144 = .ok (.ifCond .ne 15, 3) := by decide +kernel
theorem eL_law_3147 : decode rL_law.2.1 3147 = .ok (.aload_n 3, 1) := by decide +kernel
theorem eL_law_3148 : decode rL_law.2.1 3148 = .ok (.iconst 0, 1) := by decide +kernel
theorem eL_law_3149 : decode rL_law.2.1 3149 = .ok (.laload, 1) := by decide +kernel
theorem eL_law_3150 : decode rL_law.2.1 3150 = .ok (.iload 7, 2) := by decide +kernel
theorem eL_law_3152 : decode rL_law.2.1 3152 = .ok (.i2l, 1) := by decide +kernel
theorem eL_law_3153 : decode rL_law.2.1 3153 = .ok (.lcmp, 1) := by decide +kernel
theorem eL_law_3154 : decode rL_law.2.1 3154 = .ok (.ifCond .eq 5, 3) := by decide +kernel
theorem eL_law_3157 : decode rL_law.2.1 3157 = .ok (.iconst 0, 1) := by decide +kernel
theorem eL_law_3158 : decode rL_law.2.1 3158 = .ok (.ireturn, 1) := by decide +kernel
theorem eL_law_3159 : decode rL_law.2.1 3159 = .ok (.goto 60, 3) := by decide +kernel
theorem eL_law_3162 : decode rL_law.2.1 3162 = .ok (.aload_n 1, 1) := by decide +kernel
theorem eL_law_3163 : decode rL_law.2.1 3163 = .ok (.invokevirtual 374, 3) := by decide +kernel
theorem eL_law_3166 : decode rL_law.2.1 3166 = .ok (.aload_n 2, 1) := by decide +kernel
theorem eL_law_3167 : decode rL_law.2.1 3167 = .ok (.invokevirtual 377, 3) := by decide +kernel
theorem eL_law_3170 : decode rL_law.2.1 3170 = .ok (.if_icmp .eq 49, 3) := by decide +kernel
theorem eL_law_3173 : decode rL_law.2.1 3173 = .ok (.iconst 0, 1) := by decide +kernel
theorem eL_law_3174 : decode rL_law.2.1 3174 = .ok (.ireturn, 1) := by decide +kernel
theorem eL_law_3175 : decode rL_law.2.1 3175 = .ok (.aload_n 1, 1) := by decide +kernel
theorem eL_law_3176 : decode rL_law.2.1 3176 = .ok (.aload_n 3, 1) := by decide +kernel
theorem eL_law_3177 : decode rL_law.2.1 3177 = .ok (.invokestatic 378, 3) := by decide +kernel
theorem eL_law_3180 : decode rL_law.2.1 3180 = .ok (.istore 6, 2) := by decide +kernel
theorem eL_law_3182 : decode rL_law.2.1 3182 = .ok (.aload_n 2, 1) := by decide +kernel
theorem eL_law_3183 : decode rL_law.2.1 3183 = .ok (.invokevirtual 380, 3) := by decide +kernel
theorem eL_law_3186 : decode rL_law.2.1 3186 = .ok (.istore 7, 2) := by decide +kernel
theorem eL_law_3188 : decode rL_law.2.1 3188 = .ok (.aload_n 2, 1) := by decide +kernel
theorem eL_law_3189 : decode rL_law.2.1 3189 = .ok (.invokevirtual 185, 3) := by decide +kernel
theorem eL_law_3192 : decode rL_law.2.1 3192 = .ok (.iload 6, 2) := by decide +kernel
theorem eL_law_3194 : decode rL_law.2.1 3194 = .ok (.if_icmp .eq 5, 3) := by decide +kernel
theorem eL_law_3197 : decode rL_law.2.1 3197 = .ok (.iconst 0, 1) := by decide +kernel
theorem eL_law_3198 : decode rL_law.2.1 3198 = .ok (.ireturn, 1) := by decide +kernel
theorem eL_law_3199 : decode rL_law.2.1 3199 = .ok (.iload 6, 2) := by decide +kernel
theorem eL_law_3201 : decode rL_law.2.1 3201 = .ok (.ifCond .ne 15, 3) := by decide +kernel
theorem eL_law_3204 : decode rL_law.2.1 3204 = .ok (.aload_n 3, 1) := by decide +kernel
theorem eL_law_3205 : decode rL_law.2.1 3205 = .ok (.iconst 0, 1) := by decide +kernel
theorem eL_law_3206 : decode rL_law.2.1 3206 = .ok (.laload, 1) := by decide +kernel
theorem eL_law_3207 : decode rL_law.2.1 3207 = .ok (.iload 7, 2) := by decide +kernel
theorem eL_law_3209 : decode rL_law.2.1 3209 = .ok (.i2l, 1) := by decide +kernel
theorem eL_law_3210 : decode rL_law.2.1 3210 = .ok (.lcmp, 1) := by decide +kernel
theorem eL_law_3211 : decode rL_law.2.1 3211 = .ok (.ifCond .eq 5, 3) := by decide +kernel
theorem eL_law_3214 : decode rL_law.2.1 3214 = .ok (.iconst 0, 1) := by decide +kernel
theorem eL_law_3215 : decode rL_law.2.1 3215 = .ok (.ireturn, 1) := by decide +kernel
theorem eL_law_3216 : decode rL_law.2.1 3216 = .ok (.goto 3, 3) := by decide +kernel
theorem eL_law_3219 : decode rL_law.2.1 3219 = .ok (.iinc 5 4, 3) := by decide +kernel
theorem eL_law_3222 : decode rL_law.2.1 3222 = .ok (.goto (-3194), 3) := by decide +kernel
theorem eL_law_3225 : decode rL_law.2.1 3225 = .ok (.iconst 1, 1) := by decide +kernel
theorem eL_law_3226 : decode rL_law.2.1 3226 = .ok (.ireturn, 1) := by decide +kernel
