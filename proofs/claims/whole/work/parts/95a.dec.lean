/-! THE LAW'S BODY, CASE BY CASE -/
/-- the law over its script of n ints xs -/
def m_W (n : Nat) (xs : Nat → Int32) : am_M := (yL_law, code, 10, some .boolean, [], some (n, xs))
theorem fp_one : vf_n64 (FP.f2d FP.fconst1) := fp_n64 (by
  have e : FP.Core.fIsNaN FP.fconst1 = false := by decide +kernel
  unfold FP.f2d
  rw [if_neg (by rw [e]; decide), FP.Core.f2d_nan]
  exact e)
/-- the locals at the head of the loop -/
def lwL (k : Nat) : List (Nat × Value) := [(0, .retAddr 60), (1, .ref 0), (2, .ref 450), (3, .ref 463), (4, .ref 464), (5, .int (nn (6 * k)))]
theorem dW_0 : decode code 0 = .ok (.new 8, 3) := by decide +kernel
theorem dW_3 : decode code 3 = .ok (.dup, 1) := by decide +kernel
theorem dW_4 : decode code 4 = .ok (.invokespecial 142, 3) := by decide +kernel
theorem dW_7 : decode code 7 = .ok (.astore_n 1, 1) := by decide +kernel
theorem dW_8 : decode code 8 = .ok (.new 143, 3) := by decide +kernel
theorem dW_11 : decode code 11 = .ok (.dup, 1) := by decide +kernel
theorem dW_12 : decode code 12 = .ok (.invokespecial 145, 3) := by decide +kernel
theorem dW_15 : decode code 15 = .ok (.astore_n 2, 1) := by decide +kernel
theorem dW_16 : decode code 16 = .ok (.iconst 1, 1) := by decide +kernel
theorem dW_17 : decode code 17 = .ok (.newarray .long, 2) := by decide +kernel
theorem dW_19 : decode code 19 = .ok (.astore_n 3, 1) := by decide +kernel
theorem dW_20 : decode code 20 = .ok (.iconst 1, 1) := by decide +kernel
theorem dW_21 : decode code 21 = .ok (.newarray .double, 2) := by decide +kernel
theorem dW_23 : decode code 23 = .ok (.astore 4, 2) := by decide +kernel
theorem dW_25 : decode code 25 = .ok (.iconst 0, 1) := by decide +kernel
theorem dW_26 : decode code 26 = .ok (.istore 5, 2) := by decide +kernel
theorem dW_28 : decode code 28 = .ok (.iload 5, 2) := by decide +kernel
theorem dW_30 : decode code 30 = .ok (.aload_n 0, 1) := by decide +kernel
theorem dW_31 : decode code 31 = .ok (.arraylength, 1) := by decide +kernel
theorem dW_32 : decode code 32 = .ok (.bipush 6, 2) := by decide +kernel
theorem dW_34 : decode code 34 = .ok (.isub, 1) := by decide +kernel
theorem dW_35 : decode code 35 = .ok (.if_icmp .gt 3194, 3) := by decide +kernel
theorem dW_38 : decode code 38 = .ok (.aload_n 0, 1) := by decide +kernel
theorem dW_39 : decode code 39 = .ok (.iload 5, 2) := by decide +kernel
theorem dW_41 : decode code 41 = .ok (.iaload, 1) := by decide +kernel
theorem dW_42 : decode code 42 = .ok (.bipush 63, 2) := by decide +kernel
theorem dW_44 : decode code 44 = .ok (.iand, 1) := by decide +kernel
theorem dW_45 : decode code 45 = .ok (.tableswitch 3178 0 61 #[263, 336, 392, 405, 418, 431, 444, 524, 580, 636, 704, 772, 828, 872, 928, 984, 997, 1010, 1023, 1036, 1049, 1105, 1180, 1236, 1304, 1360, 1423, 1479, 1547, 1615, 1683, 1696, 1709, 1722, 1735, 1748, 1761, 1774, 1787, 1843, 1911, 1979, 2047, 2115, 2183, 2251, 2319, 2387, 2443, 2499, 2567, 2635, 2703, 2771, 2839, 2895, 2908, 2964, 2977, 3054, 3097, 3153], 263) := by decide +kernel
theorem dW_308 : decode code 308 = .ok (.aload_n 1, 1) := by decide +kernel
theorem dW_309 : decode code 309 = .ok (.aload_n 0, 1) := by decide +kernel
theorem dW_310 : decode code 310 = .ok (.iload 5, 2) := by decide +kernel
theorem dW_312 : decode code 312 = .ok (.iconst 1, 1) := by decide +kernel
theorem dW_313 : decode code 313 = .ok (.iadd, 1) := by decide +kernel
theorem dW_314 : decode code 314 = .ok (.iaload, 1) := by decide +kernel
theorem dW_315 : decode code 315 = .ok (.aload_n 0, 1) := by decide +kernel
theorem dW_316 : decode code 316 = .ok (.iload 5, 2) := by decide +kernel
theorem dW_318 : decode code 318 = .ok (.iconst 2, 1) := by decide +kernel
theorem dW_319 : decode code 319 = .ok (.iadd, 1) := by decide +kernel
theorem dW_320 : decode code 320 = .ok (.iaload, 1) := by decide +kernel
theorem dW_321 : decode code 321 = .ok (.aload_n 0, 1) := by decide +kernel
theorem dW_322 : decode code 322 = .ok (.iload 5, 2) := by decide +kernel
theorem dW_324 : decode code 324 = .ok (.iconst 3, 1) := by decide +kernel
theorem dW_325 : decode code 325 = .ok (.iadd, 1) := by decide +kernel
theorem dW_326 : decode code 326 = .ok (.iaload, 1) := by decide +kernel
theorem dW_327 : decode code 327 = .ok (.aload_n 0, 1) := by decide +kernel
theorem dW_328 : decode code 328 = .ok (.iload 5, 2) := by decide +kernel
theorem dW_330 : decode code 330 = .ok (.iconst 4, 1) := by decide +kernel
theorem dW_331 : decode code 331 = .ok (.iadd, 1) := by decide +kernel
theorem dW_332 : decode code 332 = .ok (.iaload, 1) := by decide +kernel
theorem dW_333 : decode code 333 = .ok (.aload_n 0, 1) := by decide +kernel
theorem dW_334 : decode code 334 = .ok (.iload 5, 2) := by decide +kernel
theorem dW_336 : decode code 336 = .ok (.iconst 5, 1) := by decide +kernel
theorem dW_337 : decode code 337 = .ok (.iadd, 1) := by decide +kernel
theorem dW_338 : decode code 338 = .ok (.iaload, 1) := by decide +kernel
theorem dW_339 : decode code 339 = .ok (.invokevirtual 146, 3) := by decide +kernel
theorem dW_342 : decode code 342 = .ok (.aload_n 2, 1) := by decide +kernel
theorem dW_343 : decode code 343 = .ok (.aload_n 0, 1) := by decide +kernel
theorem dW_344 : decode code 344 = .ok (.iload 5, 2) := by decide +kernel
theorem dW_346 : decode code 346 = .ok (.iconst 1, 1) := by decide +kernel
theorem dW_347 : decode code 347 = .ok (.iadd, 1) := by decide +kernel
theorem dW_348 : decode code 348 = .ok (.iaload, 1) := by decide +kernel
theorem dW_349 : decode code 349 = .ok (.aload_n 0, 1) := by decide +kernel
theorem dW_350 : decode code 350 = .ok (.iload 5, 2) := by decide +kernel
theorem dW_352 : decode code 352 = .ok (.iconst 2, 1) := by decide +kernel
theorem dW_353 : decode code 353 = .ok (.iadd, 1) := by decide +kernel
theorem dW_354 : decode code 354 = .ok (.iaload, 1) := by decide +kernel
theorem dW_355 : decode code 355 = .ok (.aload_n 0, 1) := by decide +kernel
theorem dW_356 : decode code 356 = .ok (.iload 5, 2) := by decide +kernel
theorem dW_358 : decode code 358 = .ok (.iconst 3, 1) := by decide +kernel
theorem dW_359 : decode code 359 = .ok (.iadd, 1) := by decide +kernel
theorem dW_360 : decode code 360 = .ok (.iaload, 1) := by decide +kernel
theorem dW_361 : decode code 361 = .ok (.aload_n 0, 1) := by decide +kernel
theorem dW_362 : decode code 362 = .ok (.iload 5, 2) := by decide +kernel
theorem dW_364 : decode code 364 = .ok (.iconst 4, 1) := by decide +kernel
theorem dW_365 : decode code 365 = .ok (.iadd, 1) := by decide +kernel
theorem dW_366 : decode code 366 = .ok (.iaload, 1) := by decide +kernel
theorem dW_367 : decode code 367 = .ok (.aload_n 0, 1) := by decide +kernel
theorem dW_368 : decode code 368 = .ok (.iload 5, 2) := by decide +kernel
theorem dW_370 : decode code 370 = .ok (.iconst 5, 1) := by decide +kernel
theorem dW_371 : decode code 371 = .ok (.iadd, 1) := by decide +kernel
theorem dW_372 : decode code 372 = .ok (.iaload, 1) := by decide +kernel
theorem dW_373 : decode code 373 = .ok (.invokevirtual 150, 3) := by decide +kernel
theorem dW_376 : decode code 376 = .ok (.if_icmp .eq 2847, 3) := by decide +kernel
theorem dW_379 : decode code 379 = .ok (.iconst 0, 1) := by decide +kernel
theorem dW_380 : decode code 380 = .ok (.ireturn, 1) := by decide +kernel
theorem dW_381 : decode code 381 = .ok (.aload_n 1, 1) := by decide +kernel
theorem dW_382 : decode code 382 = .ok (.aload_n 0, 1) := by decide +kernel
theorem dW_383 : decode code 383 = .ok (.iload 5, 2) := by decide +kernel
theorem dW_385 : decode code 385 = .ok (.iconst 1, 1) := by decide +kernel
theorem dW_386 : decode code 386 = .ok (.iadd, 1) := by decide +kernel
theorem dW_387 : decode code 387 = .ok (.iaload, 1) := by decide +kernel
theorem dW_388 : decode code 388 = .ok (.aload_n 3, 1) := by decide +kernel
theorem dW_389 : decode code 389 = .ok (.invokestatic 151, 3) := by decide +kernel
theorem dW_392 : decode code 392 = .ok (.istore 6, 2) := by decide +kernel
theorem dW_394 : decode code 394 = .ok (.aload_n 2, 1) := by decide +kernel
theorem dW_395 : decode code 395 = .ok (.aload_n 0, 1) := by decide +kernel
theorem dW_396 : decode code 396 = .ok (.iload 5, 2) := by decide +kernel
theorem dW_398 : decode code 398 = .ok (.iconst 1, 1) := by decide +kernel
theorem dW_399 : decode code 399 = .ok (.iadd, 1) := by decide +kernel
theorem dW_400 : decode code 400 = .ok (.iaload, 1) := by decide +kernel
theorem dW_401 : decode code 401 = .ok (.invokevirtual 156, 3) := by decide +kernel
theorem dW_404 : decode code 404 = .ok (.istore 7, 2) := by decide +kernel
theorem dW_406 : decode code 406 = .ok (.aload_n 2, 1) := by decide +kernel
theorem dW_407 : decode code 407 = .ok (.invokevirtual 157, 3) := by decide +kernel
theorem dW_410 : decode code 410 = .ok (.iload 6, 2) := by decide +kernel
theorem dW_412 : decode code 412 = .ok (.if_icmp .eq 5, 3) := by decide +kernel
theorem dW_415 : decode code 415 = .ok (.iconst 0, 1) := by decide +kernel
theorem dW_416 : decode code 416 = .ok (.ireturn, 1) := by decide +kernel
theorem dW_417 : decode code 417 = .ok (.iload 6, 2) := by decide +kernel
theorem dW_419 : decode code 419 = .ok (.ifCond .ne 15, 3) := by decide +kernel
theorem dW_422 : decode code 422 = .ok (.aload_n 3, 1) := by decide +kernel
theorem dW_423 : decode code 423 = .ok (.iconst 0, 1) := by decide +kernel
theorem dW_424 : decode code 424 = .ok (.laload, 1) := by decide +kernel
theorem dW_425 : decode code 425 = .ok (.iload 7, 2) := by decide +kernel
theorem dW_427 : decode code 427 = .ok (.i2l, 1) := by decide +kernel
theorem dW_428 : decode code 428 = .ok (.lcmp, 1) := by decide +kernel
theorem dW_429 : decode code 429 = .ok (.ifCond .eq 5, 3) := by decide +kernel
theorem dW_432 : decode code 432 = .ok (.iconst 0, 1) := by decide +kernel
theorem dW_433 : decode code 433 = .ok (.ireturn, 1) := by decide +kernel
theorem dW_434 : decode code 434 = .ok (.goto 2789, 3) := by decide +kernel
theorem dW_437 : decode code 437 = .ok (.aload_n 1, 1) := by decide +kernel
theorem dW_438 : decode code 438 = .ok (.invokevirtual 160, 3) := by decide +kernel
theorem dW_441 : decode code 441 = .ok (.aload_n 2, 1) := by decide +kernel
theorem dW_442 : decode code 442 = .ok (.invokevirtual 163, 3) := by decide +kernel
theorem dW_445 : decode code 445 = .ok (.if_icmp .eq 2778, 3) := by decide +kernel
theorem dW_448 : decode code 448 = .ok (.iconst 0, 1) := by decide +kernel
theorem dW_449 : decode code 449 = .ok (.ireturn, 1) := by decide +kernel
theorem dW_450 : decode code 450 = .ok (.aload_n 1, 1) := by decide +kernel
theorem dW_451 : decode code 451 = .ok (.invokevirtual 164, 3) := by decide +kernel
theorem dW_454 : decode code 454 = .ok (.aload_n 2, 1) := by decide +kernel
theorem dW_455 : decode code 455 = .ok (.invokevirtual 167, 3) := by decide +kernel
theorem dW_458 : decode code 458 = .ok (.if_icmp .eq 2765, 3) := by decide +kernel
theorem dW_461 : decode code 461 = .ok (.iconst 0, 1) := by decide +kernel
theorem dW_462 : decode code 462 = .ok (.ireturn, 1) := by decide +kernel
theorem dW_463 : decode code 463 = .ok (.aload_n 1, 1) := by decide +kernel
theorem dW_464 : decode code 464 = .ok (.invokevirtual 168, 3) := by decide +kernel
theorem dW_467 : decode code 467 = .ok (.aload_n 2, 1) := by decide +kernel
theorem dW_468 : decode code 468 = .ok (.invokevirtual 171, 3) := by decide +kernel
theorem dW_471 : decode code 471 = .ok (.if_icmp .eq 2752, 3) := by decide +kernel
theorem dW_474 : decode code 474 = .ok (.iconst 0, 1) := by decide +kernel
theorem dW_475 : decode code 475 = .ok (.ireturn, 1) := by decide +kernel
theorem dW_476 : decode code 476 = .ok (.aload_n 1, 1) := by decide +kernel
theorem dW_477 : decode code 477 = .ok (.invokevirtual 172, 3) := by decide +kernel
theorem dW_480 : decode code 480 = .ok (.aload_n 2, 1) := by decide +kernel
theorem dW_481 : decode code 481 = .ok (.invokevirtual 175, 3) := by decide +kernel
theorem dW_484 : decode code 484 = .ok (.if_icmp .eq 2739, 3) := by decide +kernel
theorem dW_487 : decode code 487 = .ok (.iconst 0, 1) := by decide +kernel
theorem dW_488 : decode code 488 = .ok (.ireturn, 1) := by decide +kernel
theorem dW_489 : decode code 489 = .ok (.aload_n 1, 1) := by decide +kernel
theorem dW_490 : decode code 490 = .ok (.aload_n 0, 1) := by decide +kernel
theorem dW_491 : decode code 491 = .ok (.iload 5, 2) := by decide +kernel
theorem dW_493 : decode code 493 = .ok (.iconst 1, 1) := by decide +kernel
theorem dW_494 : decode code 494 = .ok (.iadd, 1) := by decide +kernel
theorem dW_495 : decode code 495 = .ok (.iaload, 1) := by decide +kernel
theorem dW_496 : decode code 496 = .ok (.aload_n 0, 1) := by decide +kernel
theorem dW_497 : decode code 497 = .ok (.iload 5, 2) := by decide +kernel
theorem dW_499 : decode code 499 = .ok (.iconst 2, 1) := by decide +kernel
theorem dW_500 : decode code 500 = .ok (.iadd, 1) := by decide +kernel
theorem dW_501 : decode code 501 = .ok (.iaload, 1) := by decide +kernel
theorem dW_502 : decode code 502 = .ok (.aload_n 0, 1) := by decide +kernel
theorem dW_503 : decode code 503 = .ok (.iload 5, 2) := by decide +kernel
theorem dW_505 : decode code 505 = .ok (.iconst 3, 1) := by decide +kernel
theorem dW_506 : decode code 506 = .ok (.iadd, 1) := by decide +kernel
theorem dW_507 : decode code 507 = .ok (.iaload, 1) := by decide +kernel
theorem dW_508 : decode code 508 = .ok (.aload_n 3, 1) := by decide +kernel
theorem dW_509 : decode code 509 = .ok (.invokestatic 176, 3) := by decide +kernel
theorem dW_512 : decode code 512 = .ok (.istore 6, 2) := by decide +kernel
theorem dW_514 : decode code 514 = .ok (.aload_n 2, 1) := by decide +kernel
theorem dW_515 : decode code 515 = .ok (.aload_n 0, 1) := by decide +kernel
theorem dW_516 : decode code 516 = .ok (.iload 5, 2) := by decide +kernel
theorem dW_518 : decode code 518 = .ok (.iconst 1, 1) := by decide +kernel
theorem dW_519 : decode code 519 = .ok (.iadd, 1) := by decide +kernel
theorem dW_520 : decode code 520 = .ok (.iaload, 1) := by decide +kernel
theorem dW_521 : decode code 521 = .ok (.aload_n 0, 1) := by decide +kernel
theorem dW_522 : decode code 522 = .ok (.iload 5, 2) := by decide +kernel
theorem dW_524 : decode code 524 = .ok (.iconst 2, 1) := by decide +kernel
theorem dW_525 : decode code 525 = .ok (.iadd, 1) := by decide +kernel
theorem dW_526 : decode code 526 = .ok (.iaload, 1) := by decide +kernel
theorem dW_527 : decode code 527 = .ok (.aload_n 0, 1) := by decide +kernel
theorem dW_528 : decode code 528 = .ok (.iload 5, 2) := by decide +kernel
theorem dW_530 : decode code 530 = .ok (.iconst 3, 1) := by decide +kernel
theorem dW_531 : decode code 531 = .ok (.iadd, 1) := by decide +kernel
theorem dW_532 : decode code 532 = .ok (.iaload, 1) := by decide +kernel
theorem dW_533 : decode code 533 = .ok (.invokevirtual 179, 3) := by decide +kernel
theorem dW_536 : decode code 536 = .ok (.istore 7, 2) := by decide +kernel
theorem dW_538 : decode code 538 = .ok (.aload_n 2, 1) := by decide +kernel
theorem dW_539 : decode code 539 = .ok (.invokevirtual 157, 3) := by decide +kernel
theorem dW_542 : decode code 542 = .ok (.iload 6, 2) := by decide +kernel
theorem dW_544 : decode code 544 = .ok (.if_icmp .eq 5, 3) := by decide +kernel
theorem dW_547 : decode code 547 = .ok (.iconst 0, 1) := by decide +kernel
theorem dW_548 : decode code 548 = .ok (.ireturn, 1) := by decide +kernel
theorem dW_549 : decode code 549 = .ok (.iload 6, 2) := by decide +kernel
theorem dW_551 : decode code 551 = .ok (.ifCond .ne 15, 3) := by decide +kernel
theorem dW_554 : decode code 554 = .ok (.aload_n 3, 1) := by decide +kernel
theorem dW_555 : decode code 555 = .ok (.iconst 0, 1) := by decide +kernel
theorem dW_556 : decode code 556 = .ok (.laload, 1) := by decide +kernel
theorem dW_557 : decode code 557 = .ok (.iload 7, 2) := by decide +kernel
theorem dW_559 : decode code 559 = .ok (.i2l, 1) := by decide +kernel
theorem dW_560 : decode code 560 = .ok (.lcmp, 1) := by decide +kernel
theorem dW_561 : decode code 561 = .ok (.ifCond .eq 5, 3) := by decide +kernel
theorem dW_564 : decode code 564 = .ok (.iconst 0, 1) := by decide +kernel
theorem dW_565 : decode code 565 = .ok (.ireturn, 1) := by decide +kernel
theorem dW_566 : decode code 566 = .ok (.goto 2657, 3) := by decide +kernel
theorem dW_569 : decode code 569 = .ok (.aload_n 1, 1) := by decide +kernel
theorem dW_570 : decode code 570 = .ok (.aload_n 0, 1) := by decide +kernel
theorem dW_571 : decode code 571 = .ok (.iload 5, 2) := by decide +kernel
theorem dW_573 : decode code 573 = .ok (.iconst 1, 1) := by decide +kernel
theorem dW_574 : decode code 574 = .ok (.iadd, 1) := by decide +kernel
theorem dW_575 : decode code 575 = .ok (.iaload, 1) := by decide +kernel
theorem dW_576 : decode code 576 = .ok (.aload_n 3, 1) := by decide +kernel
theorem dW_577 : decode code 577 = .ok (.invokestatic 180, 3) := by decide +kernel
theorem dW_580 : decode code 580 = .ok (.istore 6, 2) := by decide +kernel
theorem dW_582 : decode code 582 = .ok (.aload_n 2, 1) := by decide +kernel
theorem dW_583 : decode code 583 = .ok (.aload_n 0, 1) := by decide +kernel
theorem dW_584 : decode code 584 = .ok (.iload 5, 2) := by decide +kernel
theorem dW_586 : decode code 586 = .ok (.iconst 1, 1) := by decide +kernel
theorem dW_587 : decode code 587 = .ok (.iadd, 1) := by decide +kernel
theorem dW_588 : decode code 588 = .ok (.iaload, 1) := by decide +kernel
theorem dW_589 : decode code 589 = .ok (.invokevirtual 182, 3) := by decide +kernel
theorem dW_592 : decode code 592 = .ok (.istore 7, 2) := by decide +kernel
theorem dW_594 : decode code 594 = .ok (.aload_n 2, 1) := by decide +kernel
theorem dW_595 : decode code 595 = .ok (.invokevirtual 157, 3) := by decide +kernel
theorem dW_598 : decode code 598 = .ok (.iload 6, 2) := by decide +kernel
theorem dW_600 : decode code 600 = .ok (.if_icmp .eq 5, 3) := by decide +kernel
theorem dW_603 : decode code 603 = .ok (.iconst 0, 1) := by decide +kernel
theorem dW_604 : decode code 604 = .ok (.ireturn, 1) := by decide +kernel
theorem dW_605 : decode code 605 = .ok (.iload 6, 2) := by decide +kernel
theorem dW_607 : decode code 607 = .ok (.ifCond .ne 15, 3) := by decide +kernel
theorem dW_610 : decode code 610 = .ok (.aload_n 3, 1) := by decide +kernel
theorem dW_611 : decode code 611 = .ok (.iconst 0, 1) := by decide +kernel
theorem dW_612 : decode code 612 = .ok (.laload, 1) := by decide +kernel
theorem dW_613 : decode code 613 = .ok (.iload 7, 2) := by decide +kernel
theorem dW_615 : decode code 615 = .ok (.i2l, 1) := by decide +kernel
theorem dW_616 : decode code 616 = .ok (.lcmp, 1) := by decide +kernel
theorem dW_617 : decode code 617 = .ok (.ifCond .eq 5, 3) := by decide +kernel
theorem dW_620 : decode code 620 = .ok (.iconst 0, 1) := by decide +kernel
theorem dW_621 : decode code 621 = .ok (.ireturn, 1) := by decide +kernel
theorem dW_622 : decode code 622 = .ok (.goto 2601, 3) := by decide +kernel
theorem dW_625 : decode code 625 = .ok (.aload_n 1, 1) := by decide +kernel
theorem dW_626 : decode code 626 = .ok (.aload_n 0, 1) := by decide +kernel
theorem dW_627 : decode code 627 = .ok (.iload 5, 2) := by decide +kernel
theorem dW_629 : decode code 629 = .ok (.iconst 1, 1) := by decide +kernel
theorem dW_630 : decode code 630 = .ok (.iadd, 1) := by decide +kernel
theorem dW_631 : decode code 631 = .ok (.iaload, 1) := by decide +kernel
theorem dW_632 : decode code 632 = .ok (.aload_n 3, 1) := by decide +kernel
theorem dW_633 : decode code 633 = .ok (.invokestatic 183, 3) := by decide +kernel
theorem dW_636 : decode code 636 = .ok (.istore 6, 2) := by decide +kernel
theorem dW_638 : decode code 638 = .ok (.aload_n 2, 1) := by decide +kernel
theorem dW_639 : decode code 639 = .ok (.aload_n 0, 1) := by decide +kernel
theorem dW_640 : decode code 640 = .ok (.iload 5, 2) := by decide +kernel
theorem dW_642 : decode code 642 = .ok (.iconst 1, 1) := by decide +kernel
theorem dW_643 : decode code 643 = .ok (.iadd, 1) := by decide +kernel
theorem dW_644 : decode code 644 = .ok (.iaload, 1) := by decide +kernel
theorem dW_645 : decode code 645 = .ok (.invokevirtual 185, 3) := by decide +kernel
theorem dW_648 : decode code 648 = .ok (.istore 7, 2) := by decide +kernel
theorem dW_650 : decode code 650 = .ok (.aload_n 2, 1) := by decide +kernel
theorem dW_651 : decode code 651 = .ok (.invokevirtual 157, 3) := by decide +kernel
theorem dW_654 : decode code 654 = .ok (.iload 6, 2) := by decide +kernel
theorem dW_656 : decode code 656 = .ok (.if_icmp .eq 5, 3) := by decide +kernel
theorem dW_659 : decode code 659 = .ok (.iconst 0, 1) := by decide +kernel
theorem dW_660 : decode code 660 = .ok (.ireturn, 1) := by decide +kernel
theorem dW_661 : decode code 661 = .ok (.iload 6, 2) := by decide +kernel
theorem dW_663 : decode code 663 = .ok (.ifCond .ne 15, 3) := by decide +kernel
theorem dW_666 : decode code 666 = .ok (.aload_n 3, 1) := by decide +kernel
theorem dW_667 : decode code 667 = .ok (.iconst 0, 1) := by decide +kernel
theorem dW_668 : decode code 668 = .ok (.laload, 1) := by decide +kernel
theorem dW_669 : decode code 669 = .ok (.iload 7, 2) := by decide +kernel
theorem dW_671 : decode code 671 = .ok (.i2l, 1) := by decide +kernel
theorem dW_672 : decode code 672 = .ok (.lcmp, 1) := by decide +kernel
theorem dW_673 : decode code 673 = .ok (.ifCond .eq 5, 3) := by decide +kernel
theorem dW_676 : decode code 676 = .ok (.iconst 0, 1) := by decide +kernel
theorem dW_677 : decode code 677 = .ok (.ireturn, 1) := by decide +kernel
theorem dW_678 : decode code 678 = .ok (.goto 2545, 3) := by decide +kernel
theorem dW_681 : decode code 681 = .ok (.aload_n 1, 1) := by decide +kernel
theorem dW_682 : decode code 682 = .ok (.aload_n 0, 1) := by decide +kernel
theorem dW_683 : decode code 683 = .ok (.iload 5, 2) := by decide +kernel
theorem dW_685 : decode code 685 = .ok (.iconst 1, 1) := by decide +kernel
theorem dW_686 : decode code 686 = .ok (.iadd, 1) := by decide +kernel
theorem dW_687 : decode code 687 = .ok (.iaload, 1) := by decide +kernel
theorem dW_688 : decode code 688 = .ok (.aload_n 0, 1) := by decide +kernel
theorem dW_689 : decode code 689 = .ok (.iload 5, 2) := by decide +kernel
theorem dW_691 : decode code 691 = .ok (.iconst 2, 1) := by decide +kernel
theorem dW_692 : decode code 692 = .ok (.iadd, 1) := by decide +kernel
theorem dW_693 : decode code 693 = .ok (.iaload, 1) := by decide +kernel
theorem dW_694 : decode code 694 = .ok (.aload_n 3, 1) := by decide +kernel
theorem dW_695 : decode code 695 = .ok (.invokestatic 186, 3) := by decide +kernel
theorem dW_698 : decode code 698 = .ok (.istore 6, 2) := by decide +kernel
theorem dW_700 : decode code 700 = .ok (.aload_n 2, 1) := by decide +kernel
theorem dW_701 : decode code 701 = .ok (.aload_n 0, 1) := by decide +kernel
theorem dW_702 : decode code 702 = .ok (.iload 5, 2) := by decide +kernel
theorem dW_704 : decode code 704 = .ok (.iconst 1, 1) := by decide +kernel
theorem dW_705 : decode code 705 = .ok (.iadd, 1) := by decide +kernel
theorem dW_706 : decode code 706 = .ok (.iaload, 1) := by decide +kernel
theorem dW_707 : decode code 707 = .ok (.aload_n 0, 1) := by decide +kernel
theorem dW_708 : decode code 708 = .ok (.iload 5, 2) := by decide +kernel
theorem dW_710 : decode code 710 = .ok (.iconst 2, 1) := by decide +kernel
theorem dW_711 : decode code 711 = .ok (.iadd, 1) := by decide +kernel
theorem dW_712 : decode code 712 = .ok (.iaload, 1) := by decide +kernel
theorem dW_713 : decode code 713 = .ok (.invokevirtual 189, 3) := by decide +kernel
theorem dW_716 : decode code 716 = .ok (.istore 7, 2) := by decide +kernel
theorem dW_718 : decode code 718 = .ok (.aload_n 2, 1) := by decide +kernel
theorem dW_719 : decode code 719 = .ok (.invokevirtual 157, 3) := by decide +kernel
theorem dW_722 : decode code 722 = .ok (.iload 6, 2) := by decide +kernel
theorem dW_724 : decode code 724 = .ok (.if_icmp .eq 5, 3) := by decide +kernel
theorem dW_727 : decode code 727 = .ok (.iconst 0, 1) := by decide +kernel
theorem dW_728 : decode code 728 = .ok (.ireturn, 1) := by decide +kernel
theorem dW_729 : decode code 729 = .ok (.iload 6, 2) := by decide +kernel
theorem dW_731 : decode code 731 = .ok (.ifCond .ne 15, 3) := by decide +kernel
theorem dW_734 : decode code 734 = .ok (.aload_n 3, 1) := by decide +kernel
theorem dW_735 : decode code 735 = .ok (.iconst 0, 1) := by decide +kernel
theorem dW_736 : decode code 736 = .ok (.laload, 1) := by decide +kernel
theorem dW_737 : decode code 737 = .ok (.iload 7, 2) := by decide +kernel
theorem dW_739 : decode code 739 = .ok (.i2l, 1) := by decide +kernel
theorem dW_740 : decode code 740 = .ok (.lcmp, 1) := by decide +kernel
theorem dW_741 : decode code 741 = .ok (.ifCond .eq 5, 3) := by decide +kernel
theorem dW_744 : decode code 744 = .ok (.iconst 0, 1) := by decide +kernel
theorem dW_745 : decode code 745 = .ok (.ireturn, 1) := by decide +kernel
theorem dW_746 : decode code 746 = .ok (.goto 2477, 3) := by decide +kernel
theorem dW_749 : decode code 749 = .ok (.aload_n 1, 1) := by decide +kernel
theorem dW_750 : decode code 750 = .ok (.aload_n 0, 1) := by decide +kernel
theorem dW_751 : decode code 751 = .ok (.iload 5, 2) := by decide +kernel
theorem dW_753 : decode code 753 = .ok (.iconst 1, 1) := by decide +kernel
theorem dW_754 : decode code 754 = .ok (.iadd, 1) := by decide +kernel
theorem dW_755 : decode code 755 = .ok (.iaload, 1) := by decide +kernel
theorem dW_756 : decode code 756 = .ok (.aload_n 0, 1) := by decide +kernel
theorem dW_757 : decode code 757 = .ok (.iload 5, 2) := by decide +kernel
theorem dW_759 : decode code 759 = .ok (.iconst 2, 1) := by decide +kernel
theorem dW_760 : decode code 760 = .ok (.iadd, 1) := by decide +kernel
theorem dW_761 : decode code 761 = .ok (.iaload, 1) := by decide +kernel
theorem dW_762 : decode code 762 = .ok (.aload_n 3, 1) := by decide +kernel
theorem dW_763 : decode code 763 = .ok (.invokestatic 190, 3) := by decide +kernel
theorem dW_766 : decode code 766 = .ok (.istore 6, 2) := by decide +kernel
theorem dW_768 : decode code 768 = .ok (.aload_n 2, 1) := by decide +kernel
theorem dW_769 : decode code 769 = .ok (.aload_n 0, 1) := by decide +kernel
theorem dW_770 : decode code 770 = .ok (.iload 5, 2) := by decide +kernel
theorem dW_772 : decode code 772 = .ok (.iconst 1, 1) := by decide +kernel
theorem dW_773 : decode code 773 = .ok (.iadd, 1) := by decide +kernel
theorem dW_774 : decode code 774 = .ok (.iaload, 1) := by decide +kernel
theorem dW_775 : decode code 775 = .ok (.aload_n 0, 1) := by decide +kernel
theorem dW_776 : decode code 776 = .ok (.iload 5, 2) := by decide +kernel
theorem dW_778 : decode code 778 = .ok (.iconst 2, 1) := by decide +kernel
theorem dW_779 : decode code 779 = .ok (.iadd, 1) := by decide +kernel
theorem dW_780 : decode code 780 = .ok (.iaload, 1) := by decide +kernel
theorem dW_781 : decode code 781 = .ok (.invokevirtual 192, 3) := by decide +kernel
theorem dW_784 : decode code 784 = .ok (.istore 7, 2) := by decide +kernel
theorem dW_786 : decode code 786 = .ok (.aload_n 2, 1) := by decide +kernel
theorem dW_787 : decode code 787 = .ok (.invokevirtual 157, 3) := by decide +kernel
theorem dW_790 : decode code 790 = .ok (.iload 6, 2) := by decide +kernel
theorem dW_792 : decode code 792 = .ok (.if_icmp .eq 5, 3) := by decide +kernel
theorem dW_795 : decode code 795 = .ok (.iconst 0, 1) := by decide +kernel
theorem dW_796 : decode code 796 = .ok (.ireturn, 1) := by decide +kernel
theorem dW_797 : decode code 797 = .ok (.iload 6, 2) := by decide +kernel
theorem dW_799 : decode code 799 = .ok (.ifCond .ne 15, 3) := by decide +kernel
theorem dW_802 : decode code 802 = .ok (.aload_n 3, 1) := by decide +kernel
theorem dW_803 : decode code 803 = .ok (.iconst 0, 1) := by decide +kernel
theorem dW_804 : decode code 804 = .ok (.laload, 1) := by decide +kernel
theorem dW_805 : decode code 805 = .ok (.iload 7, 2) := by decide +kernel
theorem dW_807 : decode code 807 = .ok (.i2l, 1) := by decide +kernel
theorem dW_808 : decode code 808 = .ok (.lcmp, 1) := by decide +kernel
theorem dW_809 : decode code 809 = .ok (.ifCond .eq 5, 3) := by decide +kernel
theorem dW_812 : decode code 812 = .ok (.iconst 0, 1) := by decide +kernel
theorem dW_813 : decode code 813 = .ok (.ireturn, 1) := by decide +kernel
theorem dW_814 : decode code 814 = .ok (.goto 2409, 3) := by decide +kernel
theorem dW_817 : decode code 817 = .ok (.aload_n 1, 1) := by decide +kernel
theorem dW_818 : decode code 818 = .ok (.aload_n 0, 1) := by decide +kernel
theorem dW_819 : decode code 819 = .ok (.iload 5, 2) := by decide +kernel
theorem dW_821 : decode code 821 = .ok (.iconst 1, 1) := by decide +kernel
theorem dW_822 : decode code 822 = .ok (.iadd, 1) := by decide +kernel
theorem dW_823 : decode code 823 = .ok (.iaload, 1) := by decide +kernel
theorem dW_824 : decode code 824 = .ok (.aload_n 3, 1) := by decide +kernel
theorem dW_825 : decode code 825 = .ok (.invokestatic 193, 3) := by decide +kernel
theorem dW_828 : decode code 828 = .ok (.istore 6, 2) := by decide +kernel
theorem dW_830 : decode code 830 = .ok (.aload_n 2, 1) := by decide +kernel
theorem dW_831 : decode code 831 = .ok (.aload_n 0, 1) := by decide +kernel
theorem dW_832 : decode code 832 = .ok (.iload 5, 2) := by decide +kernel
theorem dW_834 : decode code 834 = .ok (.iconst 1, 1) := by decide +kernel
theorem dW_835 : decode code 835 = .ok (.iadd, 1) := by decide +kernel
theorem dW_836 : decode code 836 = .ok (.iaload, 1) := by decide +kernel
theorem dW_837 : decode code 837 = .ok (.invokevirtual 195, 3) := by decide +kernel
theorem dW_840 : decode code 840 = .ok (.istore 7, 2) := by decide +kernel
theorem dW_842 : decode code 842 = .ok (.aload_n 2, 1) := by decide +kernel
theorem dW_843 : decode code 843 = .ok (.invokevirtual 157, 3) := by decide +kernel
theorem dW_846 : decode code 846 = .ok (.iload 6, 2) := by decide +kernel
theorem dW_848 : decode code 848 = .ok (.if_icmp .eq 5, 3) := by decide +kernel
theorem dW_851 : decode code 851 = .ok (.iconst 0, 1) := by decide +kernel
theorem dW_852 : decode code 852 = .ok (.ireturn, 1) := by decide +kernel
theorem dW_853 : decode code 853 = .ok (.iload 6, 2) := by decide +kernel
theorem dW_855 : decode code 855 = .ok (.ifCond .ne 15, 3) := by decide +kernel
theorem dW_858 : decode code 858 = .ok (.aload_n 3, 1) := by decide +kernel
theorem dW_859 : decode code 859 = .ok (.iconst 0, 1) := by decide +kernel
theorem dW_860 : decode code 860 = .ok (.laload, 1) := by decide +kernel
theorem dW_861 : decode code 861 = .ok (.iload 7, 2) := by decide +kernel
theorem dW_863 : decode code 863 = .ok (.i2l, 1) := by decide +kernel
theorem dW_864 : decode code 864 = .ok (.lcmp, 1) := by decide +kernel
theorem dW_865 : decode code 865 = .ok (.ifCond .eq 5, 3) := by decide +kernel
theorem dW_868 : decode code 868 = .ok (.iconst 0, 1) := by decide +kernel
theorem dW_869 : decode code 869 = .ok (.ireturn, 1) := by decide +kernel
theorem dW_870 : decode code 870 = .ok (.goto 2353, 3) := by decide +kernel
theorem dW_873 : decode code 873 = .ok (.aload_n 1, 1) := by decide +kernel
theorem dW_874 : decode code 874 = .ok (.aload_n 3, 1) := by decide +kernel
theorem dW_875 : decode code 875 = .ok (.invokestatic 196, 3) := by decide +kernel
theorem dW_878 : decode code 878 = .ok (.istore 6, 2) := by decide +kernel
theorem dW_880 : decode code 880 = .ok (.aload_n 2, 1) := by decide +kernel
theorem dW_881 : decode code 881 = .ok (.invokevirtual 199, 3) := by decide +kernel
theorem dW_884 : decode code 884 = .ok (.istore 7, 2) := by decide +kernel
theorem dW_886 : decode code 886 = .ok (.aload_n 2, 1) := by decide +kernel
theorem dW_887 : decode code 887 = .ok (.invokevirtual 157, 3) := by decide +kernel
theorem dW_890 : decode code 890 = .ok (.iload 6, 2) := by decide +kernel
theorem dW_892 : decode code 892 = .ok (.if_icmp .eq 5, 3) := by decide +kernel
theorem dW_895 : decode code 895 = .ok (.iconst 0, 1) := by decide +kernel
theorem dW_896 : decode code 896 = .ok (.ireturn, 1) := by decide +kernel
theorem dW_897 : decode code 897 = .ok (.iload 6, 2) := by decide +kernel
theorem dW_899 : decode code 899 = .ok (.ifCond .ne 15, 3) := by decide +kernel
theorem dW_902 : decode code 902 = .ok (.aload_n 3, 1) := by decide +kernel
theorem dW_903 : decode code 903 = .ok (.iconst 0, 1) := by decide +kernel
theorem dW_904 : decode code 904 = .ok (.laload, 1) := by decide +kernel
theorem dW_905 : decode code 905 = .ok (.iload 7, 2) := by decide +kernel
theorem dW_907 : decode code 907 = .ok (.i2l, 1) := by decide +kernel
theorem dW_908 : decode code 908 = .ok (.lcmp, 1) := by decide +kernel
theorem dW_909 : decode code 909 = .ok (.ifCond .eq 5, 3) := by decide +kernel
theorem dW_912 : decode code 912 = .ok (.iconst 0, 1) := by decide +kernel
theorem dW_913 : decode code 913 = .ok (.ireturn, 1) := by decide +kernel
theorem dW_914 : decode code 914 = .ok (.goto 2309, 3) := by decide +kernel
theorem dW_917 : decode code 917 = .ok (.aload_n 1, 1) := by decide +kernel
theorem dW_918 : decode code 918 = .ok (.aload_n 0, 1) := by decide +kernel
theorem dW_919 : decode code 919 = .ok (.iload 5, 2) := by decide +kernel
theorem dW_921 : decode code 921 = .ok (.iconst 1, 1) := by decide +kernel
theorem dW_922 : decode code 922 = .ok (.iadd, 1) := by decide +kernel
theorem dW_923 : decode code 923 = .ok (.iaload, 1) := by decide +kernel
theorem dW_924 : decode code 924 = .ok (.aload_n 3, 1) := by decide +kernel
theorem dW_925 : decode code 925 = .ok (.invokestatic 200, 3) := by decide +kernel
theorem dW_928 : decode code 928 = .ok (.istore 6, 2) := by decide +kernel
theorem dW_930 : decode code 930 = .ok (.aload_n 2, 1) := by decide +kernel
theorem dW_931 : decode code 931 = .ok (.aload_n 0, 1) := by decide +kernel
theorem dW_932 : decode code 932 = .ok (.iload 5, 2) := by decide +kernel
theorem dW_934 : decode code 934 = .ok (.iconst 1, 1) := by decide +kernel
theorem dW_935 : decode code 935 = .ok (.iadd, 1) := by decide +kernel
theorem dW_936 : decode code 936 = .ok (.iaload, 1) := by decide +kernel
theorem dW_937 : decode code 937 = .ok (.invokevirtual 202, 3) := by decide +kernel
theorem dW_940 : decode code 940 = .ok (.istore 7, 2) := by decide +kernel
theorem dW_942 : decode code 942 = .ok (.aload_n 2, 1) := by decide +kernel
theorem dW_943 : decode code 943 = .ok (.invokevirtual 157, 3) := by decide +kernel
theorem dW_946 : decode code 946 = .ok (.iload 6, 2) := by decide +kernel
theorem dW_948 : decode code 948 = .ok (.if_icmp .eq 5, 3) := by decide +kernel
theorem dW_951 : decode code 951 = .ok (.iconst 0, 1) := by decide +kernel
theorem dW_952 : decode code 952 = .ok (.ireturn, 1) := by decide +kernel
theorem dW_953 : decode code 953 = .ok (.iload 6, 2) := by decide +kernel
theorem dW_955 : decode code 955 = .ok (.ifCond .ne 15, 3) := by decide +kernel
theorem dW_958 : decode code 958 = .ok (.aload_n 3, 1) := by decide +kernel
theorem dW_959 : decode code 959 = .ok (.iconst 0, 1) := by decide +kernel
theorem dW_960 : decode code 960 = .ok (.laload, 1) := by decide +kernel
theorem dW_961 : decode code 961 = .ok (.iload 7, 2) := by decide +kernel
theorem dW_963 : decode code 963 = .ok (.i2l, 1) := by decide +kernel
theorem dW_964 : decode code 964 = .ok (.lcmp, 1) := by decide +kernel
theorem dW_965 : decode code 965 = .ok (.ifCond .eq 5, 3) := by decide +kernel
theorem dW_968 : decode code 968 = .ok (.iconst 0, 1) := by decide +kernel
theorem dW_969 : decode code 969 = .ok (.ireturn, 1) := by decide +kernel
theorem dW_970 : decode code 970 = .ok (.goto 2253, 3) := by decide +kernel
theorem dW_973 : decode code 973 = .ok (.aload_n 1, 1) := by decide +kernel
theorem dW_974 : decode code 974 = .ok (.aload_n 0, 1) := by decide +kernel
theorem dW_975 : decode code 975 = .ok (.iload 5, 2) := by decide +kernel
theorem dW_977 : decode code 977 = .ok (.iconst 1, 1) := by decide +kernel
theorem dW_978 : decode code 978 = .ok (.iadd, 1) := by decide +kernel
theorem dW_979 : decode code 979 = .ok (.iaload, 1) := by decide +kernel
theorem dW_980 : decode code 980 = .ok (.aload_n 3, 1) := by decide +kernel
theorem dW_981 : decode code 981 = .ok (.invokestatic 203, 3) := by decide +kernel
theorem dW_984 : decode code 984 = .ok (.istore 6, 2) := by decide +kernel
theorem dW_986 : decode code 986 = .ok (.aload_n 2, 1) := by decide +kernel
theorem dW_987 : decode code 987 = .ok (.aload_n 0, 1) := by decide +kernel
theorem dW_988 : decode code 988 = .ok (.iload 5, 2) := by decide +kernel
theorem dW_990 : decode code 990 = .ok (.iconst 1, 1) := by decide +kernel
theorem dW_991 : decode code 991 = .ok (.iadd, 1) := by decide +kernel
theorem dW_992 : decode code 992 = .ok (.iaload, 1) := by decide +kernel
theorem dW_993 : decode code 993 = .ok (.invokevirtual 205, 3) := by decide +kernel
theorem dW_996 : decode code 996 = .ok (.istore 7, 2) := by decide +kernel
theorem dW_998 : decode code 998 = .ok (.aload_n 2, 1) := by decide +kernel
theorem dW_999 : decode code 999 = .ok (.invokevirtual 157, 3) := by decide +kernel
theorem dW_1002 : decode code 1002 = .ok (.iload 6, 2) := by decide +kernel
theorem dW_1004 : decode code 1004 = .ok (.if_icmp .eq 5, 3) := by decide +kernel
theorem dW_1007 : decode code 1007 = .ok (.iconst 0, 1) := by decide +kernel
theorem dW_1008 : decode code 1008 = .ok (.ireturn, 1) := by decide +kernel
theorem dW_1009 : decode code 1009 = .ok (.iload 6, 2) := by decide +kernel
theorem dW_1011 : decode code 1011 = .ok (.ifCond .ne 15, 3) := by decide +kernel
theorem dW_1014 : decode code 1014 = .ok (.aload_n 3, 1) := by decide +kernel
theorem dW_1015 : decode code 1015 = .ok (.iconst 0, 1) := by decide +kernel
theorem dW_1016 : decode code 1016 = .ok (.laload, 1) := by decide +kernel
theorem dW_1017 : decode code 1017 = .ok (.iload 7, 2) := by decide +kernel
theorem dW_1019 : decode code 1019 = .ok (.i2l, 1) := by decide +kernel
theorem dW_1020 : decode code 1020 = .ok (.lcmp, 1) := by decide +kernel
theorem dW_1021 : decode code 1021 = .ok (.ifCond .eq 5, 3) := by decide +kernel
theorem dW_1024 : decode code 1024 = .ok (.iconst 0, 1) := by decide +kernel
theorem dW_1025 : decode code 1025 = .ok (.ireturn, 1) := by decide +kernel
theorem dW_1026 : decode code 1026 = .ok (.goto 2197, 3) := by decide +kernel
theorem dW_1029 : decode code 1029 = .ok (.aload_n 1, 1) := by decide +kernel
theorem dW_1030 : decode code 1030 = .ok (.invokevirtual 206, 3) := by decide +kernel
theorem dW_1033 : decode code 1033 = .ok (.aload_n 2, 1) := by decide +kernel
theorem dW_1034 : decode code 1034 = .ok (.invokevirtual 209, 3) := by decide +kernel
theorem dW_1037 : decode code 1037 = .ok (.if_icmp .eq 2186, 3) := by decide +kernel
theorem dW_1040 : decode code 1040 = .ok (.iconst 0, 1) := by decide +kernel
theorem dW_1041 : decode code 1041 = .ok (.ireturn, 1) := by decide +kernel
theorem dW_1042 : decode code 1042 = .ok (.aload_n 1, 1) := by decide +kernel
theorem dW_1043 : decode code 1043 = .ok (.invokevirtual 210, 3) := by decide +kernel
theorem dW_1046 : decode code 1046 = .ok (.aload_n 2, 1) := by decide +kernel
theorem dW_1047 : decode code 1047 = .ok (.invokevirtual 213, 3) := by decide +kernel
theorem dW_1050 : decode code 1050 = .ok (.if_icmp .eq 2173, 3) := by decide +kernel
theorem dW_1053 : decode code 1053 = .ok (.iconst 0, 1) := by decide +kernel
theorem dW_1054 : decode code 1054 = .ok (.ireturn, 1) := by decide +kernel
theorem dW_1055 : decode code 1055 = .ok (.aload_n 1, 1) := by decide +kernel
theorem dW_1056 : decode code 1056 = .ok (.invokevirtual 214, 3) := by decide +kernel
theorem dW_1059 : decode code 1059 = .ok (.aload_n 2, 1) := by decide +kernel
theorem dW_1060 : decode code 1060 = .ok (.invokevirtual 217, 3) := by decide +kernel
theorem dW_1063 : decode code 1063 = .ok (.if_icmp .eq 2160, 3) := by decide +kernel
theorem dW_1066 : decode code 1066 = .ok (.iconst 0, 1) := by decide +kernel
theorem dW_1067 : decode code 1067 = .ok (.ireturn, 1) := by decide +kernel
theorem dW_1068 : decode code 1068 = .ok (.aload_n 1, 1) := by decide +kernel
theorem dW_1069 : decode code 1069 = .ok (.invokevirtual 218, 3) := by decide +kernel
theorem dW_1072 : decode code 1072 = .ok (.aload_n 2, 1) := by decide +kernel
theorem dW_1073 : decode code 1073 = .ok (.invokevirtual 221, 3) := by decide +kernel
theorem dW_1076 : decode code 1076 = .ok (.if_icmp .eq 2147, 3) := by decide +kernel
theorem dW_1079 : decode code 1079 = .ok (.iconst 0, 1) := by decide +kernel
theorem dW_1080 : decode code 1080 = .ok (.ireturn, 1) := by decide +kernel
theorem dW_1081 : decode code 1081 = .ok (.aload_n 1, 1) := by decide +kernel
theorem dW_1082 : decode code 1082 = .ok (.invokevirtual 222, 3) := by decide +kernel
theorem dW_1085 : decode code 1085 = .ok (.aload_n 2, 1) := by decide +kernel
theorem dW_1086 : decode code 1086 = .ok (.invokevirtual 225, 3) := by decide +kernel
theorem dW_1089 : decode code 1089 = .ok (.if_icmp .eq 2134, 3) := by decide +kernel
theorem dW_1092 : decode code 1092 = .ok (.iconst 0, 1) := by decide +kernel
theorem dW_1093 : decode code 1093 = .ok (.ireturn, 1) := by decide +kernel
theorem dW_1094 : decode code 1094 = .ok (.aload_n 1, 1) := by decide +kernel
theorem dW_1095 : decode code 1095 = .ok (.aload_n 0, 1) := by decide +kernel
theorem dW_1096 : decode code 1096 = .ok (.iload 5, 2) := by decide +kernel
theorem dW_1098 : decode code 1098 = .ok (.iconst 1, 1) := by decide +kernel
theorem dW_1099 : decode code 1099 = .ok (.iadd, 1) := by decide +kernel
theorem dW_1100 : decode code 1100 = .ok (.iaload, 1) := by decide +kernel
theorem dW_1101 : decode code 1101 = .ok (.aload_n 3, 1) := by decide +kernel
theorem dW_1102 : decode code 1102 = .ok (.invokestatic 226, 3) := by decide +kernel
theorem dW_1105 : decode code 1105 = .ok (.istore 6, 2) := by decide +kernel
theorem dW_1107 : decode code 1107 = .ok (.aload_n 2, 1) := by decide +kernel
theorem dW_1108 : decode code 1108 = .ok (.aload_n 0, 1) := by decide +kernel
theorem dW_1109 : decode code 1109 = .ok (.iload 5, 2) := by decide +kernel
theorem dW_1111 : decode code 1111 = .ok (.iconst 1, 1) := by decide +kernel
theorem dW_1112 : decode code 1112 = .ok (.iadd, 1) := by decide +kernel
theorem dW_1113 : decode code 1113 = .ok (.iaload, 1) := by decide +kernel
theorem dW_1114 : decode code 1114 = .ok (.invokevirtual 228, 3) := by decide +kernel
theorem dW_1117 : decode code 1117 = .ok (.istore 7, 2) := by decide +kernel
theorem dW_1119 : decode code 1119 = .ok (.aload_n 2, 1) := by decide +kernel
theorem dW_1120 : decode code 1120 = .ok (.invokevirtual 157, 3) := by decide +kernel
theorem dW_1123 : decode code 1123 = .ok (.iload 6, 2) := by decide +kernel
theorem dW_1125 : decode code 1125 = .ok (.if_icmp .eq 5, 3) := by decide +kernel
theorem dW_1128 : decode code 1128 = .ok (.iconst 0, 1) := by decide +kernel
theorem dW_1129 : decode code 1129 = .ok (.ireturn, 1) := by decide +kernel
theorem dW_1130 : decode code 1130 = .ok (.iload 6, 2) := by decide +kernel
theorem dW_1132 : decode code 1132 = .ok (.ifCond .ne 15, 3) := by decide +kernel
theorem dW_1135 : decode code 1135 = .ok (.aload_n 3, 1) := by decide +kernel
theorem dW_1136 : decode code 1136 = .ok (.iconst 0, 1) := by decide +kernel
theorem dW_1137 : decode code 1137 = .ok (.laload, 1) := by decide +kernel
theorem dW_1138 : decode code 1138 = .ok (.iload 7, 2) := by decide +kernel
theorem dW_1140 : decode code 1140 = .ok (.i2l, 1) := by decide +kernel
theorem dW_1141 : decode code 1141 = .ok (.lcmp, 1) := by decide +kernel
theorem dW_1142 : decode code 1142 = .ok (.ifCond .eq 5, 3) := by decide +kernel
theorem dW_1145 : decode code 1145 = .ok (.iconst 0, 1) := by decide +kernel
theorem dW_1146 : decode code 1146 = .ok (.ireturn, 1) := by decide +kernel
theorem dW_1147 : decode code 1147 = .ok (.goto 2076, 3) := by decide +kernel
theorem dW_1150 : decode code 1150 = .ok (.aload_n 1, 1) := by decide +kernel
theorem dW_1151 : decode code 1151 = .ok (.aload_n 0, 1) := by decide +kernel
theorem dW_1152 : decode code 1152 = .ok (.iload 5, 2) := by decide +kernel
theorem dW_1154 : decode code 1154 = .ok (.iconst 1, 1) := by decide +kernel
theorem dW_1155 : decode code 1155 = .ok (.iadd, 1) := by decide +kernel
theorem dW_1156 : decode code 1156 = .ok (.iaload, 1) := by decide +kernel
theorem dW_1157 : decode code 1157 = .ok (.aload_n 0, 1) := by decide +kernel
theorem dW_1158 : decode code 1158 = .ok (.iload 5, 2) := by decide +kernel
theorem dW_1160 : decode code 1160 = .ok (.iconst 2, 1) := by decide +kernel
theorem dW_1161 : decode code 1161 = .ok (.iadd, 1) := by decide +kernel
theorem dW_1162 : decode code 1162 = .ok (.iaload, 1) := by decide +kernel
theorem dW_1163 : decode code 1163 = .ok (.aload_n 3, 1) := by decide +kernel
theorem dW_1164 : decode code 1164 = .ok (.invokestatic 229, 3) := by decide +kernel
theorem dW_1167 : decode code 1167 = .ok (.istore 6, 2) := by decide +kernel
theorem dW_1169 : decode code 1169 = .ok (.aload_n 2, 1) := by decide +kernel
theorem dW_1170 : decode code 1170 = .ok (.aload_n 0, 1) := by decide +kernel
theorem dW_1171 : decode code 1171 = .ok (.iload 5, 2) := by decide +kernel
theorem dW_1173 : decode code 1173 = .ok (.iconst 1, 1) := by decide +kernel
theorem dW_1174 : decode code 1174 = .ok (.iadd, 1) := by decide +kernel
theorem dW_1175 : decode code 1175 = .ok (.iaload, 1) := by decide +kernel
theorem dW_1176 : decode code 1176 = .ok (.aload_n 0, 1) := by decide +kernel
theorem dW_1177 : decode code 1177 = .ok (.iload 5, 2) := by decide +kernel
theorem dW_1179 : decode code 1179 = .ok (.iconst 2, 1) := by decide +kernel
theorem dW_1180 : decode code 1180 = .ok (.iadd, 1) := by decide +kernel
theorem dW_1181 : decode code 1181 = .ok (.iaload, 1) := by decide +kernel
theorem dW_1182 : decode code 1182 = .ok (.invokevirtual 231, 3) := by decide +kernel
theorem dW_1185 : decode code 1185 = .ok (.istore 7, 2) := by decide +kernel
theorem dW_1187 : decode code 1187 = .ok (.aload_n 2, 1) := by decide +kernel
theorem dW_1188 : decode code 1188 = .ok (.invokevirtual 157, 3) := by decide +kernel
theorem dW_1191 : decode code 1191 = .ok (.iload 6, 2) := by decide +kernel
theorem dW_1193 : decode code 1193 = .ok (.if_icmp .eq 5, 3) := by decide +kernel
theorem dW_1196 : decode code 1196 = .ok (.iconst 0, 1) := by decide +kernel
theorem dW_1197 : decode code 1197 = .ok (.ireturn, 1) := by decide +kernel
theorem dW_1198 : decode code 1198 = .ok (.iload 6, 2) := by decide +kernel
theorem dW_1200 : decode code 1200 = .ok (.ifCond .ne 22, 3) := by decide +kernel
theorem dW_1203 : decode code 1203 = .ok (.aload_n 3, 1) := by decide +kernel
theorem dW_1204 : decode code 1204 = .ok (.iconst 0, 1) := by decide +kernel
theorem dW_1205 : decode code 1205 = .ok (.laload, 1) := by decide +kernel
theorem dW_1206 : decode code 1206 = .ok (.iload 7, 2) := by decide +kernel
theorem dW_1208 : decode code 1208 = .ok (.ifCond .eq 7, 3) := by decide +kernel
theorem dW_1211 : decode code 1211 = .ok (.lconst 1, 1) := by decide +kernel
theorem dW_1212 : decode code 1212 = .ok (.goto 4, 3) := by decide +kernel
theorem dW_1215 : decode code 1215 = .ok (.lconst 0, 1) := by decide +kernel
theorem dW_1216 : decode code 1216 = .ok (.lcmp, 1) := by decide +kernel
theorem dW_1217 : decode code 1217 = .ok (.ifCond .eq 5, 3) := by decide +kernel
theorem dW_1220 : decode code 1220 = .ok (.iconst 0, 1) := by decide +kernel
theorem dW_1221 : decode code 1221 = .ok (.ireturn, 1) := by decide +kernel
theorem dW_1222 : decode code 1222 = .ok (.goto 2001, 3) := by decide +kernel
theorem dW_1225 : decode code 1225 = .ok (.aload_n 1, 1) := by decide +kernel
theorem dW_1226 : decode code 1226 = .ok (.aload_n 0, 1) := by decide +kernel
theorem dW_1227 : decode code 1227 = .ok (.iload 5, 2) := by decide +kernel
theorem dW_1229 : decode code 1229 = .ok (.iconst 1, 1) := by decide +kernel
theorem dW_1230 : decode code 1230 = .ok (.iadd, 1) := by decide +kernel
theorem dW_1231 : decode code 1231 = .ok (.iaload, 1) := by decide +kernel
theorem dW_1232 : decode code 1232 = .ok (.aload_n 3, 1) := by decide +kernel
theorem dW_1233 : decode code 1233 = .ok (.invokestatic 232, 3) := by decide +kernel
theorem dW_1236 : decode code 1236 = .ok (.istore 6, 2) := by decide +kernel
theorem dW_1238 : decode code 1238 = .ok (.aload_n 2, 1) := by decide +kernel
theorem dW_1239 : decode code 1239 = .ok (.aload_n 0, 1) := by decide +kernel
theorem dW_1240 : decode code 1240 = .ok (.iload 5, 2) := by decide +kernel
theorem dW_1242 : decode code 1242 = .ok (.iconst 1, 1) := by decide +kernel
theorem dW_1243 : decode code 1243 = .ok (.iadd, 1) := by decide +kernel
theorem dW_1244 : decode code 1244 = .ok (.iaload, 1) := by decide +kernel
theorem dW_1245 : decode code 1245 = .ok (.invokevirtual 234, 3) := by decide +kernel
theorem dW_1248 : decode code 1248 = .ok (.istore 7, 2) := by decide +kernel
theorem dW_1250 : decode code 1250 = .ok (.aload_n 2, 1) := by decide +kernel
theorem dW_1251 : decode code 1251 = .ok (.invokevirtual 157, 3) := by decide +kernel
theorem dW_1254 : decode code 1254 = .ok (.iload 6, 2) := by decide +kernel
theorem dW_1256 : decode code 1256 = .ok (.if_icmp .eq 5, 3) := by decide +kernel
theorem dW_1259 : decode code 1259 = .ok (.iconst 0, 1) := by decide +kernel
theorem dW_1260 : decode code 1260 = .ok (.ireturn, 1) := by decide +kernel
theorem dW_1261 : decode code 1261 = .ok (.iload 6, 2) := by decide +kernel
theorem dW_1263 : decode code 1263 = .ok (.ifCond .ne 15, 3) := by decide +kernel
theorem dW_1266 : decode code 1266 = .ok (.aload_n 3, 1) := by decide +kernel
theorem dW_1267 : decode code 1267 = .ok (.iconst 0, 1) := by decide +kernel
theorem dW_1268 : decode code 1268 = .ok (.laload, 1) := by decide +kernel
theorem dW_1269 : decode code 1269 = .ok (.iload 7, 2) := by decide +kernel
theorem dW_1271 : decode code 1271 = .ok (.i2l, 1) := by decide +kernel
theorem dW_1272 : decode code 1272 = .ok (.lcmp, 1) := by decide +kernel
theorem dW_1273 : decode code 1273 = .ok (.ifCond .eq 5, 3) := by decide +kernel
theorem dW_1276 : decode code 1276 = .ok (.iconst 0, 1) := by decide +kernel
theorem dW_1277 : decode code 1277 = .ok (.ireturn, 1) := by decide +kernel
theorem dW_1278 : decode code 1278 = .ok (.goto 1945, 3) := by decide +kernel
theorem dW_1281 : decode code 1281 = .ok (.aload_n 1, 1) := by decide +kernel
theorem dW_1282 : decode code 1282 = .ok (.aload_n 0, 1) := by decide +kernel
theorem dW_1283 : decode code 1283 = .ok (.iload 5, 2) := by decide +kernel
theorem dW_1285 : decode code 1285 = .ok (.iconst 1, 1) := by decide +kernel
theorem dW_1286 : decode code 1286 = .ok (.iadd, 1) := by decide +kernel
theorem dW_1287 : decode code 1287 = .ok (.iaload, 1) := by decide +kernel
theorem dW_1288 : decode code 1288 = .ok (.aload_n 0, 1) := by decide +kernel
theorem dW_1289 : decode code 1289 = .ok (.iload 5, 2) := by decide +kernel
theorem dW_1291 : decode code 1291 = .ok (.iconst 2, 1) := by decide +kernel
theorem dW_1292 : decode code 1292 = .ok (.iadd, 1) := by decide +kernel
theorem dW_1293 : decode code 1293 = .ok (.iaload, 1) := by decide +kernel
theorem dW_1294 : decode code 1294 = .ok (.aload_n 3, 1) := by decide +kernel
theorem dW_1295 : decode code 1295 = .ok (.invokestatic 235, 3) := by decide +kernel
theorem dW_1298 : decode code 1298 = .ok (.istore 6, 2) := by decide +kernel
theorem dW_1300 : decode code 1300 = .ok (.aload_n 2, 1) := by decide +kernel
theorem dW_1301 : decode code 1301 = .ok (.aload_n 0, 1) := by decide +kernel
theorem dW_1302 : decode code 1302 = .ok (.iload 5, 2) := by decide +kernel
theorem dW_1304 : decode code 1304 = .ok (.iconst 1, 1) := by decide +kernel
theorem dW_1305 : decode code 1305 = .ok (.iadd, 1) := by decide +kernel
theorem dW_1306 : decode code 1306 = .ok (.iaload, 1) := by decide +kernel
theorem dW_1307 : decode code 1307 = .ok (.aload_n 0, 1) := by decide +kernel
theorem dW_1308 : decode code 1308 = .ok (.iload 5, 2) := by decide +kernel
theorem dW_1310 : decode code 1310 = .ok (.iconst 2, 1) := by decide +kernel
theorem dW_1311 : decode code 1311 = .ok (.iadd, 1) := by decide +kernel
theorem dW_1312 : decode code 1312 = .ok (.iaload, 1) := by decide +kernel
theorem dW_1313 : decode code 1313 = .ok (.invokevirtual 237, 3) := by decide +kernel
theorem dW_1316 : decode code 1316 = .ok (.istore 7, 2) := by decide +kernel
theorem dW_1318 : decode code 1318 = .ok (.aload_n 2, 1) := by decide +kernel
theorem dW_1319 : decode code 1319 = .ok (.invokevirtual 157, 3) := by decide +kernel
theorem dW_1322 : decode code 1322 = .ok (.iload 6, 2) := by decide +kernel
theorem dW_1324 : decode code 1324 = .ok (.if_icmp .eq 5, 3) := by decide +kernel
theorem dW_1327 : decode code 1327 = .ok (.iconst 0, 1) := by decide +kernel
theorem dW_1328 : decode code 1328 = .ok (.ireturn, 1) := by decide +kernel
theorem dW_1329 : decode code 1329 = .ok (.iload 6, 2) := by decide +kernel
theorem dW_1331 : decode code 1331 = .ok (.ifCond .ne 15, 3) := by decide +kernel
theorem dW_1334 : decode code 1334 = .ok (.aload_n 3, 1) := by decide +kernel
theorem dW_1335 : decode code 1335 = .ok (.iconst 0, 1) := by decide +kernel
theorem dW_1336 : decode code 1336 = .ok (.laload, 1) := by decide +kernel
theorem dW_1337 : decode code 1337 = .ok (.iload 7, 2) := by decide +kernel
theorem dW_1339 : decode code 1339 = .ok (.i2l, 1) := by decide +kernel
theorem dW_1340 : decode code 1340 = .ok (.lcmp, 1) := by decide +kernel
theorem dW_1341 : decode code 1341 = .ok (.ifCond .eq 5, 3) := by decide +kernel
theorem dW_1344 : decode code 1344 = .ok (.iconst 0, 1) := by decide +kernel
theorem dW_1345 : decode code 1345 = .ok (.ireturn, 1) := by decide +kernel
theorem dW_1346 : decode code 1346 = .ok (.goto 1877, 3) := by decide +kernel
theorem dW_1349 : decode code 1349 = .ok (.aload_n 1, 1) := by decide +kernel
theorem dW_1350 : decode code 1350 = .ok (.aload_n 0, 1) := by decide +kernel
theorem dW_1351 : decode code 1351 = .ok (.iload 5, 2) := by decide +kernel
theorem dW_1353 : decode code 1353 = .ok (.iconst 1, 1) := by decide +kernel
theorem dW_1354 : decode code 1354 = .ok (.iadd, 1) := by decide +kernel
theorem dW_1355 : decode code 1355 = .ok (.iaload, 1) := by decide +kernel
theorem dW_1356 : decode code 1356 = .ok (.aload_n 3, 1) := by decide +kernel
theorem dW_1357 : decode code 1357 = .ok (.invokestatic 238, 3) := by decide +kernel
theorem dW_1360 : decode code 1360 = .ok (.istore 6, 2) := by decide +kernel
theorem dW_1362 : decode code 1362 = .ok (.aload_n 2, 1) := by decide +kernel
theorem dW_1363 : decode code 1363 = .ok (.aload_n 0, 1) := by decide +kernel
theorem dW_1364 : decode code 1364 = .ok (.iload 5, 2) := by decide +kernel
theorem dW_1366 : decode code 1366 = .ok (.iconst 1, 1) := by decide +kernel
theorem dW_1367 : decode code 1367 = .ok (.iadd, 1) := by decide +kernel
theorem dW_1368 : decode code 1368 = .ok (.iaload, 1) := by decide +kernel
theorem dW_1369 : decode code 1369 = .ok (.invokevirtual 240, 3) := by decide +kernel
theorem dW_1372 : decode code 1372 = .ok (.istore 7, 2) := by decide +kernel
theorem dW_1374 : decode code 1374 = .ok (.aload_n 2, 1) := by decide +kernel
theorem dW_1375 : decode code 1375 = .ok (.invokevirtual 157, 3) := by decide +kernel
theorem dW_1378 : decode code 1378 = .ok (.iload 6, 2) := by decide +kernel
theorem dW_1380 : decode code 1380 = .ok (.if_icmp .eq 5, 3) := by decide +kernel
theorem dW_1383 : decode code 1383 = .ok (.iconst 0, 1) := by decide +kernel
theorem dW_1384 : decode code 1384 = .ok (.ireturn, 1) := by decide +kernel
theorem dW_1385 : decode code 1385 = .ok (.iload 6, 2) := by decide +kernel
theorem dW_1387 : decode code 1387 = .ok (.ifCond .ne 15, 3) := by decide +kernel
theorem dW_1390 : decode code 1390 = .ok (.aload_n 3, 1) := by decide +kernel
theorem dW_1391 : decode code 1391 = .ok (.iconst 0, 1) := by decide +kernel
theorem dW_1392 : decode code 1392 = .ok (.laload, 1) := by decide +kernel
theorem dW_1393 : decode code 1393 = .ok (.iload 7, 2) := by decide +kernel
theorem dW_1395 : decode code 1395 = .ok (.i2l, 1) := by decide +kernel
theorem dW_1396 : decode code 1396 = .ok (.lcmp, 1) := by decide +kernel
theorem dW_1397 : decode code 1397 = .ok (.ifCond .eq 5, 3) := by decide +kernel
theorem dW_1400 : decode code 1400 = .ok (.iconst 0, 1) := by decide +kernel
theorem dW_1401 : decode code 1401 = .ok (.ireturn, 1) := by decide +kernel
theorem dW_1402 : decode code 1402 = .ok (.goto 1821, 3) := by decide +kernel
theorem dW_1405 : decode code 1405 = .ok (.aload_n 1, 1) := by decide +kernel
theorem dW_1406 : decode code 1406 = .ok (.aload_n 0, 1) := by decide +kernel
theorem dW_1407 : decode code 1407 = .ok (.iload 5, 2) := by decide +kernel
theorem dW_1409 : decode code 1409 = .ok (.iconst 1, 1) := by decide +kernel
theorem dW_1410 : decode code 1410 = .ok (.iadd, 1) := by decide +kernel
theorem dW_1411 : decode code 1411 = .ok (.iaload, 1) := by decide +kernel
theorem dW_1412 : decode code 1412 = .ok (.aload_n 3, 1) := by decide +kernel
theorem dW_1413 : decode code 1413 = .ok (.invokestatic 241, 3) := by decide +kernel
theorem dW_1416 : decode code 1416 = .ok (.istore 6, 2) := by decide +kernel
theorem dW_1418 : decode code 1418 = .ok (.aload_n 2, 1) := by decide +kernel
theorem dW_1419 : decode code 1419 = .ok (.aload_n 0, 1) := by decide +kernel
theorem dW_1420 : decode code 1420 = .ok (.iload 5, 2) := by decide +kernel
theorem dW_1422 : decode code 1422 = .ok (.iconst 1, 1) := by decide +kernel
theorem dW_1423 : decode code 1423 = .ok (.iadd, 1) := by decide +kernel
theorem dW_1424 : decode code 1424 = .ok (.iaload, 1) := by decide +kernel
theorem dW_1425 : decode code 1425 = .ok (.invokevirtual 243, 3) := by decide +kernel
theorem dW_1428 : decode code 1428 = .ok (.istore 7, 2) := by decide +kernel
theorem dW_1430 : decode code 1430 = .ok (.aload_n 2, 1) := by decide +kernel
theorem dW_1431 : decode code 1431 = .ok (.invokevirtual 157, 3) := by decide +kernel
theorem dW_1434 : decode code 1434 = .ok (.iload 6, 2) := by decide +kernel
theorem dW_1436 : decode code 1436 = .ok (.if_icmp .eq 5, 3) := by decide +kernel
theorem dW_1439 : decode code 1439 = .ok (.iconst 0, 1) := by decide +kernel
theorem dW_1440 : decode code 1440 = .ok (.ireturn, 1) := by decide +kernel
theorem dW_1441 : decode code 1441 = .ok (.iload 6, 2) := by decide +kernel
theorem dW_1443 : decode code 1443 = .ok (.ifCond .ne 22, 3) := by decide +kernel
theorem dW_1446 : decode code 1446 = .ok (.aload_n 3, 1) := by decide +kernel
theorem dW_1447 : decode code 1447 = .ok (.iconst 0, 1) := by decide +kernel
theorem dW_1448 : decode code 1448 = .ok (.laload, 1) := by decide +kernel
theorem dW_1449 : decode code 1449 = .ok (.iload 7, 2) := by decide +kernel
theorem dW_1451 : decode code 1451 = .ok (.ifCond .eq 7, 3) := by decide +kernel
theorem dW_1454 : decode code 1454 = .ok (.lconst 1, 1) := by decide +kernel
theorem dW_1455 : decode code 1455 = .ok (.goto 4, 3) := by decide +kernel
theorem dW_1458 : decode code 1458 = .ok (.lconst 0, 1) := by decide +kernel
theorem dW_1459 : decode code 1459 = .ok (.lcmp, 1) := by decide +kernel
theorem dW_1460 : decode code 1460 = .ok (.ifCond .eq 5, 3) := by decide +kernel
theorem dW_1463 : decode code 1463 = .ok (.iconst 0, 1) := by decide +kernel
theorem dW_1464 : decode code 1464 = .ok (.ireturn, 1) := by decide +kernel
theorem dW_1465 : decode code 1465 = .ok (.goto 1758, 3) := by decide +kernel
theorem dW_1468 : decode code 1468 = .ok (.aload_n 1, 1) := by decide +kernel
theorem dW_1469 : decode code 1469 = .ok (.aload_n 0, 1) := by decide +kernel
theorem dW_1470 : decode code 1470 = .ok (.iload 5, 2) := by decide +kernel
theorem dW_1472 : decode code 1472 = .ok (.iconst 1, 1) := by decide +kernel
theorem dW_1473 : decode code 1473 = .ok (.iadd, 1) := by decide +kernel
theorem dW_1474 : decode code 1474 = .ok (.iaload, 1) := by decide +kernel
theorem dW_1475 : decode code 1475 = .ok (.aload_n 3, 1) := by decide +kernel
theorem dW_1476 : decode code 1476 = .ok (.invokestatic 244, 3) := by decide +kernel
theorem dW_1479 : decode code 1479 = .ok (.istore 6, 2) := by decide +kernel
theorem dW_1481 : decode code 1481 = .ok (.aload_n 2, 1) := by decide +kernel
theorem dW_1482 : decode code 1482 = .ok (.aload_n 0, 1) := by decide +kernel
theorem dW_1483 : decode code 1483 = .ok (.iload 5, 2) := by decide +kernel
theorem dW_1485 : decode code 1485 = .ok (.iconst 1, 1) := by decide +kernel
theorem dW_1486 : decode code 1486 = .ok (.iadd, 1) := by decide +kernel
theorem dW_1487 : decode code 1487 = .ok (.iaload, 1) := by decide +kernel
theorem dW_1488 : decode code 1488 = .ok (.invokevirtual 246, 3) := by decide +kernel
theorem dW_1491 : decode code 1491 = .ok (.istore 7, 2) := by decide +kernel
theorem dW_1493 : decode code 1493 = .ok (.aload_n 2, 1) := by decide +kernel
theorem dW_1494 : decode code 1494 = .ok (.invokevirtual 157, 3) := by decide +kernel
theorem dW_1497 : decode code 1497 = .ok (.iload 6, 2) := by decide +kernel
theorem dW_1499 : decode code 1499 = .ok (.if_icmp .eq 5, 3) := by decide +kernel
theorem dW_1502 : decode code 1502 = .ok (.iconst 0, 1) := by decide +kernel
theorem dW_1503 : decode code 1503 = .ok (.ireturn, 1) := by decide +kernel
theorem dW_1504 : decode code 1504 = .ok (.iload 6, 2) := by decide +kernel
theorem dW_1506 : decode code 1506 = .ok (.ifCond .ne 15, 3) := by decide +kernel
theorem dW_1509 : decode code 1509 = .ok (.aload_n 3, 1) := by decide +kernel
theorem dW_1510 : decode code 1510 = .ok (.iconst 0, 1) := by decide +kernel
theorem dW_1511 : decode code 1511 = .ok (.laload, 1) := by decide +kernel
theorem dW_1512 : decode code 1512 = .ok (.iload 7, 2) := by decide +kernel
theorem dW_1514 : decode code 1514 = .ok (.i2l, 1) := by decide +kernel
theorem dW_1515 : decode code 1515 = .ok (.lcmp, 1) := by decide +kernel
theorem dW_1516 : decode code 1516 = .ok (.ifCond .eq 5, 3) := by decide +kernel
theorem dW_1519 : decode code 1519 = .ok (.iconst 0, 1) := by decide +kernel
theorem dW_1520 : decode code 1520 = .ok (.ireturn, 1) := by decide +kernel
theorem dW_1521 : decode code 1521 = .ok (.goto 1702, 3) := by decide +kernel
theorem dW_1524 : decode code 1524 = .ok (.aload_n 1, 1) := by decide +kernel
theorem dW_1525 : decode code 1525 = .ok (.aload_n 0, 1) := by decide +kernel
theorem dW_1526 : decode code 1526 = .ok (.iload 5, 2) := by decide +kernel
theorem dW_1528 : decode code 1528 = .ok (.iconst 1, 1) := by decide +kernel
theorem dW_1529 : decode code 1529 = .ok (.iadd, 1) := by decide +kernel
theorem dW_1530 : decode code 1530 = .ok (.iaload, 1) := by decide +kernel
theorem dW_1531 : decode code 1531 = .ok (.aload_n 0, 1) := by decide +kernel
theorem dW_1532 : decode code 1532 = .ok (.iload 5, 2) := by decide +kernel
theorem dW_1534 : decode code 1534 = .ok (.iconst 2, 1) := by decide +kernel
theorem dW_1535 : decode code 1535 = .ok (.iadd, 1) := by decide +kernel
theorem dW_1536 : decode code 1536 = .ok (.iaload, 1) := by decide +kernel
theorem dW_1537 : decode code 1537 = .ok (.aload_n 3, 1) := by decide +kernel
theorem dW_1538 : decode code 1538 = .ok (.invokestatic 247, 3) := by decide +kernel
theorem dW_1541 : decode code 1541 = .ok (.istore 6, 2) := by decide +kernel
theorem dW_1543 : decode code 1543 = .ok (.aload_n 2, 1) := by decide +kernel
theorem dW_1544 : decode code 1544 = .ok (.aload_n 0, 1) := by decide +kernel
theorem dW_1545 : decode code 1545 = .ok (.iload 5, 2) := by decide +kernel
theorem dW_1547 : decode code 1547 = .ok (.iconst 1, 1) := by decide +kernel
theorem dW_1548 : decode code 1548 = .ok (.iadd, 1) := by decide +kernel
theorem dW_1549 : decode code 1549 = .ok (.iaload, 1) := by decide +kernel
theorem dW_1550 : decode code 1550 = .ok (.aload_n 0, 1) := by decide +kernel
theorem dW_1551 : decode code 1551 = .ok (.iload 5, 2) := by decide +kernel
theorem dW_1553 : decode code 1553 = .ok (.iconst 2, 1) := by decide +kernel
theorem dW_1554 : decode code 1554 = .ok (.iadd, 1) := by decide +kernel
theorem dW_1555 : decode code 1555 = .ok (.iaload, 1) := by decide +kernel
theorem dW_1556 : decode code 1556 = .ok (.invokevirtual 249, 3) := by decide +kernel
theorem dW_1559 : decode code 1559 = .ok (.istore 7, 2) := by decide +kernel
theorem dW_1561 : decode code 1561 = .ok (.aload_n 2, 1) := by decide +kernel
theorem dW_1562 : decode code 1562 = .ok (.invokevirtual 157, 3) := by decide +kernel
theorem dW_1565 : decode code 1565 = .ok (.iload 6, 2) := by decide +kernel
theorem dW_1567 : decode code 1567 = .ok (.if_icmp .eq 5, 3) := by decide +kernel
theorem dW_1570 : decode code 1570 = .ok (.iconst 0, 1) := by decide +kernel
theorem dW_1571 : decode code 1571 = .ok (.ireturn, 1) := by decide +kernel
theorem dW_1572 : decode code 1572 = .ok (.iload 6, 2) := by decide +kernel
theorem dW_1574 : decode code 1574 = .ok (.ifCond .ne 15, 3) := by decide +kernel
theorem dW_1577 : decode code 1577 = .ok (.aload_n 3, 1) := by decide +kernel
theorem dW_1578 : decode code 1578 = .ok (.iconst 0, 1) := by decide +kernel
theorem dW_1579 : decode code 1579 = .ok (.laload, 1) := by decide +kernel
theorem dW_1580 : decode code 1580 = .ok (.iload 7, 2) := by decide +kernel
theorem dW_1582 : decode code 1582 = .ok (.i2l, 1) := by decide +kernel
theorem dW_1583 : decode code 1583 = .ok (.lcmp, 1) := by decide +kernel
theorem dW_1584 : decode code 1584 = .ok (.ifCond .eq 5, 3) := by decide +kernel
theorem dW_1587 : decode code 1587 = .ok (.iconst 0, 1) := by decide +kernel
theorem dW_1588 : decode code 1588 = .ok (.ireturn, 1) := by decide +kernel
theorem dW_1589 : decode code 1589 = .ok (.goto 1634, 3) := by decide +kernel
theorem dW_1592 : decode code 1592 = .ok (.aload_n 1, 1) := by decide +kernel
theorem dW_1593 : decode code 1593 = .ok (.aload_n 0, 1) := by decide +kernel
theorem dW_1594 : decode code 1594 = .ok (.iload 5, 2) := by decide +kernel
theorem dW_1596 : decode code 1596 = .ok (.iconst 1, 1) := by decide +kernel
theorem dW_1597 : decode code 1597 = .ok (.iadd, 1) := by decide +kernel
theorem dW_1598 : decode code 1598 = .ok (.iaload, 1) := by decide +kernel
theorem dW_1599 : decode code 1599 = .ok (.aload_n 0, 1) := by decide +kernel
theorem dW_1600 : decode code 1600 = .ok (.iload 5, 2) := by decide +kernel
theorem dW_1602 : decode code 1602 = .ok (.iconst 2, 1) := by decide +kernel
theorem dW_1603 : decode code 1603 = .ok (.iadd, 1) := by decide +kernel
theorem dW_1604 : decode code 1604 = .ok (.iaload, 1) := by decide +kernel
theorem dW_1605 : decode code 1605 = .ok (.aload_n 3, 1) := by decide +kernel
theorem dW_1606 : decode code 1606 = .ok (.invokestatic 250, 3) := by decide +kernel
theorem dW_1609 : decode code 1609 = .ok (.istore 6, 2) := by decide +kernel
theorem dW_1611 : decode code 1611 = .ok (.aload_n 2, 1) := by decide +kernel
theorem dW_1612 : decode code 1612 = .ok (.aload_n 0, 1) := by decide +kernel
theorem dW_1613 : decode code 1613 = .ok (.iload 5, 2) := by decide +kernel
theorem dW_1615 : decode code 1615 = .ok (.iconst 1, 1) := by decide +kernel
theorem dW_1616 : decode code 1616 = .ok (.iadd, 1) := by decide +kernel
theorem dW_1617 : decode code 1617 = .ok (.iaload, 1) := by decide +kernel
theorem dW_1618 : decode code 1618 = .ok (.aload_n 0, 1) := by decide +kernel
theorem dW_1619 : decode code 1619 = .ok (.iload 5, 2) := by decide +kernel
theorem dW_1621 : decode code 1621 = .ok (.iconst 2, 1) := by decide +kernel
theorem dW_1622 : decode code 1622 = .ok (.iadd, 1) := by decide +kernel
theorem dW_1623 : decode code 1623 = .ok (.iaload, 1) := by decide +kernel
theorem dW_1624 : decode code 1624 = .ok (.invokevirtual 252, 3) := by decide +kernel
theorem dW_1627 : decode code 1627 = .ok (.istore 7, 2) := by decide +kernel
theorem dW_1629 : decode code 1629 = .ok (.aload_n 2, 1) := by decide +kernel
theorem dW_1630 : decode code 1630 = .ok (.invokevirtual 157, 3) := by decide +kernel
theorem dW_1633 : decode code 1633 = .ok (.iload 6, 2) := by decide +kernel
theorem dW_1635 : decode code 1635 = .ok (.if_icmp .eq 5, 3) := by decide +kernel
theorem dW_1638 : decode code 1638 = .ok (.iconst 0, 1) := by decide +kernel
theorem dW_1639 : decode code 1639 = .ok (.ireturn, 1) := by decide +kernel
theorem dW_1640 : decode code 1640 = .ok (.iload 6, 2) := by decide +kernel
theorem dW_1642 : decode code 1642 = .ok (.ifCond .ne 15, 3) := by decide +kernel
theorem dW_1645 : decode code 1645 = .ok (.aload_n 3, 1) := by decide +kernel
theorem dW_1646 : decode code 1646 = .ok (.iconst 0, 1) := by decide +kernel
theorem dW_1647 : decode code 1647 = .ok (.laload, 1) := by decide +kernel
theorem dW_1648 : decode code 1648 = .ok (.iload 7, 2) := by decide +kernel
theorem dW_1650 : decode code 1650 = .ok (.i2l, 1) := by decide +kernel
theorem dW_1651 : decode code 1651 = .ok (.lcmp, 1) := by decide +kernel
theorem dW_1652 : decode code 1652 = .ok (.ifCond .eq 5, 3) := by decide +kernel
theorem dW_1655 : decode code 1655 = .ok (.iconst 0, 1) := by decide +kernel
theorem dW_1656 : decode code 1656 = .ok (.ireturn, 1) := by decide +kernel
theorem dW_1657 : decode code 1657 = .ok (.goto 1566, 3) := by decide +kernel
theorem dW_1660 : decode code 1660 = .ok (.aload_n 1, 1) := by decide +kernel
theorem dW_1661 : decode code 1661 = .ok (.aload_n 0, 1) := by decide +kernel
theorem dW_1662 : decode code 1662 = .ok (.iload 5, 2) := by decide +kernel
theorem dW_1664 : decode code 1664 = .ok (.iconst 1, 1) := by decide +kernel
theorem dW_1665 : decode code 1665 = .ok (.iadd, 1) := by decide +kernel
theorem dW_1666 : decode code 1666 = .ok (.iaload, 1) := by decide +kernel
theorem dW_1667 : decode code 1667 = .ok (.aload_n 0, 1) := by decide +kernel
theorem dW_1668 : decode code 1668 = .ok (.iload 5, 2) := by decide +kernel
theorem dW_1670 : decode code 1670 = .ok (.iconst 2, 1) := by decide +kernel
theorem dW_1671 : decode code 1671 = .ok (.iadd, 1) := by decide +kernel
theorem dW_1672 : decode code 1672 = .ok (.iaload, 1) := by decide +kernel
theorem dW_1673 : decode code 1673 = .ok (.aload_n 3, 1) := by decide +kernel
theorem dW_1674 : decode code 1674 = .ok (.invokestatic 253, 3) := by decide +kernel
theorem dW_1677 : decode code 1677 = .ok (.istore 6, 2) := by decide +kernel
theorem dW_1679 : decode code 1679 = .ok (.aload_n 2, 1) := by decide +kernel
theorem dW_1680 : decode code 1680 = .ok (.aload_n 0, 1) := by decide +kernel
theorem dW_1681 : decode code 1681 = .ok (.iload 5, 2) := by decide +kernel
theorem dW_1683 : decode code 1683 = .ok (.iconst 1, 1) := by decide +kernel
theorem dW_1684 : decode code 1684 = .ok (.iadd, 1) := by decide +kernel
theorem dW_1685 : decode code 1685 = .ok (.iaload, 1) := by decide +kernel
theorem dW_1686 : decode code 1686 = .ok (.aload_n 0, 1) := by decide +kernel
theorem dW_1687 : decode code 1687 = .ok (.iload 5, 2) := by decide +kernel
theorem dW_1689 : decode code 1689 = .ok (.iconst 2, 1) := by decide +kernel
theorem dW_1690 : decode code 1690 = .ok (.iadd, 1) := by decide +kernel
theorem dW_1691 : decode code 1691 = .ok (.iaload, 1) := by decide +kernel
theorem dW_1692 : decode code 1692 = .ok (.invokevirtual 255, 3) := by decide +kernel
theorem dW_1695 : decode code 1695 = .ok (.istore 7, 2) := by decide +kernel
theorem dW_1697 : decode code 1697 = .ok (.aload_n 2, 1) := by decide +kernel
theorem dW_1698 : decode code 1698 = .ok (.invokevirtual 157, 3) := by decide +kernel
