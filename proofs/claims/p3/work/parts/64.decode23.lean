/-! decode rows, by program -/
theorem zd_545_346 : decode prog_14_method_146_code 346 = .ok (.invokestatic 1293, 3) := by decide +kernel
theorem zd_545_349 : decode prog_14_method_146_code 349 = .ok (.aload_n 0, 1) := by decide +kernel
theorem zd_545_350 : decode prog_14_method_146_code 350 = .ok (.getfield 1306, 3) := by decide +kernel
theorem zd_545_353 : decode prog_14_method_146_code 353 = .ok (.iconst 1, 1) := by decide +kernel
theorem zd_545_354 : decode prog_14_method_146_code 354 = .ok (.invokevirtual 1362, 3) := by decide +kernel
theorem zd_545_357 : decode prog_14_method_146_code 357 = .ok (.goto 306, 3) := by decide +kernel
theorem zd_545_360 : decode prog_14_method_146_code 360 = .ok (.aload_n 0, 1) := by decide +kernel
theorem zd_545_361 : decode prog_14_method_146_code 361 = .ok (.iconst 0, 1) := by decide +kernel
theorem zd_545_362 : decode prog_14_method_146_code 362 = .ok (.aload_n 0, 1) := by decide +kernel
theorem zd_545_363 : decode prog_14_method_146_code 363 = .ok (.getfield 1309, 3) := by decide +kernel
theorem zd_545_366 : decode prog_14_method_146_code 366 = .ok (.aload_n 0, 1) := by decide +kernel
theorem zd_545_367 : decode prog_14_method_146_code 367 = .ok (.getfield 1306, 3) := by decide +kernel
theorem zd_545_370 : decode prog_14_method_146_code 370 = .ok (.iconst 0, 1) := by decide +kernel
theorem zd_545_371 : decode prog_14_method_146_code 371 = .ok (.aload_n 0, 1) := by decide +kernel
theorem zd_545_372 : decode prog_14_method_146_code 372 = .ok (.getfield 289, 3) := by decide +kernel
theorem zd_545_375 : decode prog_14_method_146_code 375 = .ok (.iconst 1, 1) := by decide +kernel
theorem zd_545_376 : decode prog_14_method_146_code 376 = .ok (.iaload, 1) := by decide +kernel
theorem zd_545_377 : decode prog_14_method_146_code 377 = .ok (.invokestatic 1354, 3) := by decide +kernel
theorem zd_545_380 : decode prog_14_method_146_code 380 = .ok (.aload_n 0, 1) := by decide +kernel
theorem zd_545_381 : decode prog_14_method_146_code 381 = .ok (.getfield 1309, 3) := by decide +kernel
theorem zd_545_384 : decode prog_14_method_146_code 384 = .ok (.invokestatic 1293, 3) := by decide +kernel
theorem zd_545_387 : decode prog_14_method_146_code 387 = .ok (.aload_n 0, 1) := by decide +kernel
theorem zd_545_388 : decode prog_14_method_146_code 388 = .ok (.getfield 1306, 3) := by decide +kernel
theorem zd_545_391 : decode prog_14_method_146_code 391 = .ok (.iconst 1, 1) := by decide +kernel
theorem zd_545_392 : decode prog_14_method_146_code 392 = .ok (.invokevirtual 1362, 3) := by decide +kernel
theorem zd_545_395 : decode prog_14_method_146_code 395 = .ok (.goto 268, 3) := by decide +kernel
theorem zd_545_398 : decode prog_14_method_146_code 398 = .ok (.aload_n 0, 1) := by decide +kernel
theorem zd_545_399 : decode prog_14_method_146_code 399 = .ok (.invokevirtual 1373, 3) := by decide +kernel
theorem zd_545_402 : decode prog_14_method_146_code 402 = .ok (.goto 261, 3) := by decide +kernel
theorem zd_545_405 : decode prog_14_method_146_code 405 = .ok (.aload_n 0, 1) := by decide +kernel
theorem zd_545_406 : decode prog_14_method_146_code 406 = .ok (.iconst 0, 1) := by decide +kernel
theorem zd_545_407 : decode prog_14_method_146_code 407 = .ok (.iconst 1, 1) := by decide +kernel
theorem zd_545_408 : decode prog_14_method_146_code 408 = .ok (.aload_n 0, 1) := by decide +kernel
theorem zd_545_409 : decode prog_14_method_146_code 409 = .ok (.invokevirtual 1290, 3) := by decide +kernel
theorem zd_545_412 : decode prog_14_method_146_code 412 = .ok (.invokevirtual 1296, 3) := by decide +kernel
theorem zd_545_415 : decode prog_14_method_146_code 415 = .ok (.aload_n 0, 1) := by decide +kernel
theorem zd_545_416 : decode prog_14_method_146_code 416 = .ok (.aload_n 0, 1) := by decide +kernel
theorem zd_545_417 : decode prog_14_method_146_code 417 = .ok (.getfield 289, 3) := by decide +kernel
theorem zd_545_420 : decode prog_14_method_146_code 420 = .ok (.bipush 32, 2) := by decide +kernel
theorem zd_545_422 : decode prog_14_method_146_code 422 = .ok (.iaload, 1) := by decide +kernel
theorem zd_545_423 : decode prog_14_method_146_code 423 = .ok (.iconst 0, 1) := by decide +kernel
theorem zd_545_424 : decode prog_14_method_146_code 424 = .ok (.aload_n 0, 1) := by decide +kernel
theorem zd_545_425 : decode prog_14_method_146_code 425 = .ok (.getfield 1312, 3) := by decide +kernel
theorem zd_545_428 : decode prog_14_method_146_code 428 = .ok (.iconst 0, 1) := by decide +kernel
theorem zd_545_429 : decode prog_14_method_146_code 429 = .ok (.invokestatic 1366, 3) := by decide +kernel
theorem zd_545_432 : decode prog_14_method_146_code 432 = .ok (.iconst 0, 1) := by decide +kernel
theorem zd_545_433 : decode prog_14_method_146_code 433 = .ok (.aload_n 0, 1) := by decide +kernel
theorem zd_545_434 : decode prog_14_method_146_code 434 = .ok (.getfield 1312, 3) := by decide +kernel
theorem zd_545_437 : decode prog_14_method_146_code 437 = .ok (.iconst 1, 1) := by decide +kernel
theorem zd_545_438 : decode prog_14_method_146_code 438 = .ok (.invokevirtual 1362, 3) := by decide +kernel
theorem zd_545_441 : decode prog_14_method_146_code 441 = .ok (.aload_n 0, 1) := by decide +kernel
theorem zd_545_442 : decode prog_14_method_146_code 442 = .ok (.iconst 0, 1) := by decide +kernel
theorem zd_545_443 : decode prog_14_method_146_code 443 = .ok (.iconst 2, 1) := by decide +kernel
theorem zd_545_444 : decode prog_14_method_146_code 444 = .ok (.aload_n 0, 1) := by decide +kernel
theorem zd_545_445 : decode prog_14_method_146_code 445 = .ok (.invokevirtual 1290, 3) := by decide +kernel
theorem zd_545_448 : decode prog_14_method_146_code 448 = .ok (.invokevirtual 1296, 3) := by decide +kernel
theorem zd_545_451 : decode prog_14_method_146_code 451 = .ok (.aload_n 0, 1) := by decide +kernel
theorem zd_545_452 : decode prog_14_method_146_code 452 = .ok (.aload_n 0, 1) := by decide +kernel
theorem zd_545_453 : decode prog_14_method_146_code 453 = .ok (.getfield 289, 3) := by decide +kernel
theorem zd_545_456 : decode prog_14_method_146_code 456 = .ok (.bipush 26, 2) := by decide +kernel
theorem zd_545_458 : decode prog_14_method_146_code 458 = .ok (.iaload, 1) := by decide +kernel
theorem zd_545_459 : decode prog_14_method_146_code 459 = .ok (.aload_n 0, 1) := by decide +kernel
theorem zd_545_460 : decode prog_14_method_146_code 460 = .ok (.getfield 1312, 3) := by decide +kernel
theorem zd_545_463 : decode prog_14_method_146_code 463 = .ok (.aload_n 0, 1) := by decide +kernel
theorem zd_545_464 : decode prog_14_method_146_code 464 = .ok (.getfield 1312, 3) := by decide +kernel
theorem zd_545_467 : decode prog_14_method_146_code 467 = .ok (.iconst 0, 1) := by decide +kernel
theorem zd_545_468 : decode prog_14_method_146_code 468 = .ok (.invokestatic 1366, 3) := by decide +kernel
theorem zd_545_471 : decode prog_14_method_146_code 471 = .ok (.aload_n 0, 1) := by decide +kernel
theorem zd_545_472 : decode prog_14_method_146_code 472 = .ok (.getfield 1312, 3) := by decide +kernel
theorem zd_545_475 : decode prog_14_method_146_code 475 = .ok (.invokestatic 1293, 3) := by decide +kernel
theorem zd_545_478 : decode prog_14_method_146_code 478 = .ok (.aload_n 0, 1) := by decide +kernel
theorem zd_545_479 : decode prog_14_method_146_code 479 = .ok (.getfield 1312, 3) := by decide +kernel
theorem zd_545_482 : decode prog_14_method_146_code 482 = .ok (.iconst 1, 1) := by decide +kernel
theorem zd_545_483 : decode prog_14_method_146_code 483 = .ok (.invokevirtual 1362, 3) := by decide +kernel
theorem zd_545_486 : decode prog_14_method_146_code 486 = .ok (.goto 177, 3) := by decide +kernel
theorem zd_545_489 : decode prog_14_method_146_code 489 = .ok (.aload_n 0, 1) := by decide +kernel
theorem zd_545_490 : decode prog_14_method_146_code 490 = .ok (.aload_n 0, 1) := by decide +kernel
theorem zd_545_491 : decode prog_14_method_146_code 491 = .ok (.getfield 289, 3) := by decide +kernel
theorem zd_545_494 : decode prog_14_method_146_code 494 = .ok (.bipush 41, 2) := by decide +kernel
theorem zd_545_496 : decode prog_14_method_146_code 496 = .ok (.iaload, 1) := by decide +kernel
theorem zd_545_497 : decode prog_14_method_146_code 497 = .ok (.iconst 0, 1) := by decide +kernel
theorem zd_545_498 : decode prog_14_method_146_code 498 = .ok (.iconst 0, 1) := by decide +kernel
theorem zd_545_499 : decode prog_14_method_146_code 499 = .ok (.iconst 0, 1) := by decide +kernel
theorem zd_545_500 : decode prog_14_method_146_code 500 = .ok (.invokestatic 1366, 3) := by decide +kernel
theorem zd_545_503 : decode prog_14_method_146_code 503 = .ok (.iconst 0, 1) := by decide +kernel
theorem zd_545_504 : decode prog_14_method_146_code 504 = .ok (.iconst 0, 1) := by decide +kernel
theorem zd_545_505 : decode prog_14_method_146_code 505 = .ok (.iconst 0, 1) := by decide +kernel
theorem zd_545_506 : decode prog_14_method_146_code 506 = .ok (.iconst 4, 1) := by decide +kernel
theorem zd_545_507 : decode prog_14_method_146_code 507 = .ok (.invokevirtual 1358, 3) := by decide +kernel
theorem zd_545_510 : decode prog_14_method_146_code 510 = .ok (.goto 153, 3) := by decide +kernel
theorem zd_545_513 : decode prog_14_method_146_code 513 = .ok (.aload_n 0, 1) := by decide +kernel
theorem zd_545_514 : decode prog_14_method_146_code 514 = .ok (.aload_n 0, 1) := by decide +kernel
theorem zd_545_515 : decode prog_14_method_146_code 515 = .ok (.getfield 289, 3) := by decide +kernel
theorem zd_545_518 : decode prog_14_method_146_code 518 = .ok (.iload_n 1, 1) := by decide +kernel
theorem zd_545_519 : decode prog_14_method_146_code 519 = .ok (.bipush 58, 2) := by decide +kernel
theorem zd_545_521 : decode prog_14_method_146_code 521 = .ok (.if_icmp .ne 8, 3) := by decide +kernel
theorem zd_545_524 : decode prog_14_method_146_code 524 = .ok (.bipush 41, 2) := by decide +kernel
theorem zd_545_526 : decode prog_14_method_146_code 526 = .ok (.goto 5, 3) := by decide +kernel
theorem zd_545_529 : decode prog_14_method_146_code 529 = .ok (.bipush 42, 2) := by decide +kernel
theorem zd_545_531 : decode prog_14_method_146_code 531 = .ok (.iaload, 1) := by decide +kernel
theorem zd_545_532 : decode prog_14_method_146_code 532 = .ok (.aload_n 0, 1) := by decide +kernel
theorem zd_545_533 : decode prog_14_method_146_code 533 = .ok (.getfield 1309, 3) := by decide +kernel
theorem zd_545_536 : decode prog_14_method_146_code 536 = .ok (.iconst 0, 1) := by decide +kernel
theorem zd_545_537 : decode prog_14_method_146_code 537 = .ok (.iconst 0, 1) := by decide +kernel
theorem zd_545_538 : decode prog_14_method_146_code 538 = .ok (.invokestatic 1366, 3) := by decide +kernel
theorem zd_545_541 : decode prog_14_method_146_code 541 = .ok (.aload_n 0, 1) := by decide +kernel
theorem zd_545_542 : decode prog_14_method_146_code 542 = .ok (.getfield 1309, 3) := by decide +kernel
theorem zd_545_545 : decode prog_14_method_146_code 545 = .ok (.invokestatic 1293, 3) := by decide +kernel
theorem zd_545_548 : decode prog_14_method_146_code 548 = .ok (.iconst 0, 1) := by decide +kernel
theorem zd_545_549 : decode prog_14_method_146_code 549 = .ok (.iconst 0, 1) := by decide +kernel
theorem zd_545_550 : decode prog_14_method_146_code 550 = .ok (.iconst 4, 1) := by decide +kernel
theorem zd_545_551 : decode prog_14_method_146_code 551 = .ok (.invokevirtual 1358, 3) := by decide +kernel
theorem zd_545_554 : decode prog_14_method_146_code 554 = .ok (.goto 109, 3) := by decide +kernel
theorem zd_545_557 : decode prog_14_method_146_code 557 = .ok (.iload_n 1, 1) := by decide +kernel
theorem zd_545_558 : decode prog_14_method_146_code 558 = .ok (.bipush 62, 2) := by decide +kernel
theorem zd_545_560 : decode prog_14_method_146_code 560 = .ok (.if_icmp .eq 9, 3) := by decide +kernel
theorem zd_545_563 : decode prog_14_method_146_code 563 = .ok (.iload_n 1, 1) := by decide +kernel
theorem zd_545_564 : decode prog_14_method_146_code 564 = .ok (.bipush 63, 2) := by decide +kernel
theorem zd_545_566 : decode prog_14_method_146_code 566 = .ok (.if_icmp .ne 7, 3) := by decide +kernel
theorem zd_545_569 : decode prog_14_method_146_code 569 = .ok (.iconst 1, 1) := by decide +kernel
theorem zd_545_570 : decode prog_14_method_146_code 570 = .ok (.goto 4, 3) := by decide +kernel
theorem zd_545_573 : decode prog_14_method_146_code 573 = .ok (.iconst 0, 1) := by decide +kernel
theorem zd_545_574 : decode prog_14_method_146_code 574 = .ok (.istore_n 2, 1) := by decide +kernel
theorem zd_545_575 : decode prog_14_method_146_code 575 = .ok (.aload_n 0, 1) := by decide +kernel
theorem zd_545_576 : decode prog_14_method_146_code 576 = .ok (.iload_n 2, 1) := by decide +kernel
theorem zd_545_577 : decode prog_14_method_146_code 577 = .ok (.ifCond .eq 10, 3) := by decide +kernel
theorem zd_545_580 : decode prog_14_method_146_code 580 = .ok (.aload_n 0, 1) := by decide +kernel
theorem zd_545_581 : decode prog_14_method_146_code 581 = .ok (.getfield 1312, 3) := by decide +kernel
theorem zd_545_584 : decode prog_14_method_146_code 584 = .ok (.goto 7, 3) := by decide +kernel
theorem zd_545_587 : decode prog_14_method_146_code 587 = .ok (.aload_n 0, 1) := by decide +kernel
theorem zd_545_588 : decode prog_14_method_146_code 588 = .ok (.getfield 1309, 3) := by decide +kernel
theorem zd_545_591 : decode prog_14_method_146_code 591 = .ok (.iload_n 2, 1) := by decide +kernel
theorem zd_545_592 : decode prog_14_method_146_code 592 = .ok (.ifCond .eq 10, 3) := by decide +kernel
theorem zd_545_595 : decode prog_14_method_146_code 595 = .ok (.aload_n 0, 1) := by decide +kernel
theorem zd_545_596 : decode prog_14_method_146_code 596 = .ok (.getfield 1309, 3) := by decide +kernel
theorem zd_545_599 : decode prog_14_method_146_code 599 = .ok (.goto 7, 3) := by decide +kernel
theorem zd_545_602 : decode prog_14_method_146_code 602 = .ok (.aload_n 0, 1) := by decide +kernel
theorem zd_545_603 : decode prog_14_method_146_code 603 = .ok (.getfield 1312, 3) := by decide +kernel
theorem zd_545_606 : decode prog_14_method_146_code 606 = .ok (.invokevirtual 1376, 3) := by decide +kernel
theorem zd_545_609 : decode prog_14_method_146_code 609 = .ok (.iload_n 1, 1) := by decide +kernel
theorem zd_545_610 : decode prog_14_method_146_code 610 = .ok (.bipush 60, 2) := by decide +kernel
theorem zd_545_612 : decode prog_14_method_146_code 612 = .ok (.if_icmp .eq 9, 3) := by decide +kernel
theorem zd_545_615 : decode prog_14_method_146_code 615 = .ok (.iload_n 1, 1) := by decide +kernel
theorem zd_545_616 : decode prog_14_method_146_code 616 = .ok (.bipush 62, 2) := by decide +kernel
theorem zd_545_618 : decode prog_14_method_146_code 618 = .ok (.if_icmp .ne 7, 3) := by decide +kernel
theorem zd_545_621 : decode prog_14_method_146_code 621 = .ok (.iconst 1, 1) := by decide +kernel
theorem zd_545_622 : decode prog_14_method_146_code 622 = .ok (.goto 4, 3) := by decide +kernel
theorem zd_545_625 : decode prog_14_method_146_code 625 = .ok (.iconst 0, 1) := by decide +kernel
theorem zd_545_626 : decode prog_14_method_146_code 626 = .ok (.istore_n 3, 1) := by decide +kernel
theorem zd_545_627 : decode prog_14_method_146_code 627 = .ok (.aload_n 0, 1) := by decide +kernel
theorem zd_545_628 : decode prog_14_method_146_code 628 = .ok (.aload_n 0, 1) := by decide +kernel
theorem zd_545_629 : decode prog_14_method_146_code 629 = .ok (.getfield 289, 3) := by decide +kernel
theorem zd_545_632 : decode prog_14_method_146_code 632 = .ok (.iload_n 3, 1) := by decide +kernel
theorem zd_545_633 : decode prog_14_method_146_code 633 = .ok (.ifCond .eq 8, 3) := by decide +kernel
theorem zd_545_636 : decode prog_14_method_146_code 636 = .ok (.bipush 42, 2) := by decide +kernel
theorem zd_545_638 : decode prog_14_method_146_code 638 = .ok (.goto 5, 3) := by decide +kernel
theorem zd_545_641 : decode prog_14_method_146_code 641 = .ok (.bipush 41, 2) := by decide +kernel
theorem zd_545_643 : decode prog_14_method_146_code 643 = .ok (.iaload, 1) := by decide +kernel
theorem zd_545_644 : decode prog_14_method_146_code 644 = .ok (.iconst 1, 1) := by decide +kernel
theorem zd_545_645 : decode prog_14_method_146_code 645 = .ok (.iconst 0, 1) := by decide +kernel
theorem zd_545_646 : decode prog_14_method_146_code 646 = .ok (.iconst 0, 1) := by decide +kernel
theorem zd_545_647 : decode prog_14_method_146_code 647 = .ok (.invokestatic 1366, 3) := by decide +kernel
theorem zd_545_650 : decode prog_14_method_146_code 650 = .ok (.iconst 1, 1) := by decide +kernel
theorem zd_545_651 : decode prog_14_method_146_code 651 = .ok (.invokestatic 1293, 3) := by decide +kernel
theorem zd_545_654 : decode prog_14_method_146_code 654 = .ok (.iconst 0, 1) := by decide +kernel
theorem zd_545_655 : decode prog_14_method_146_code 655 = .ok (.iconst 0, 1) := by decide +kernel
theorem zd_545_656 : decode prog_14_method_146_code 656 = .ok (.iconst 4, 1) := by decide +kernel
theorem zd_545_657 : decode prog_14_method_146_code 657 = .ok (.invokevirtual 1358, 3) := by decide +kernel
theorem zd_545_660 : decode prog_14_method_146_code 660 = .ok (.goto 3, 3) := by decide +kernel
theorem zd_546_0 : decode prog_14_method_150_code 0 = .ok (.aload_n 0, 1) := by decide +kernel
theorem zd_546_1 : decode prog_14_method_150_code 1 = .ok (.invokevirtual 1225, 3) := by decide +kernel
theorem zd_546_4 : decode prog_14_method_150_code 4 = .ok (.aload_n 0, 1) := by decide +kernel
theorem zd_546_5 : decode prog_14_method_150_code 5 = .ok (.getfield 1219, 3) := by decide +kernel
theorem zd_546_8 : decode prog_14_method_150_code 8 = .ok (.aload_n 0, 1) := by decide +kernel
theorem zd_546_9 : decode prog_14_method_150_code 9 = .ok (.getfield 1204, 3) := by decide +kernel
theorem zd_546_12 : decode prog_14_method_150_code 12 = .ok (.if_icmp .ge 10, 3) := by decide +kernel
theorem zd_546_15 : decode prog_14_method_150_code 15 = .ok (.aload_n 0, 1) := by decide +kernel
theorem zd_546_16 : decode prog_14_method_150_code 16 = .ok (.invokevirtual 1254, 3) := by decide +kernel
theorem zd_546_19 : decode prog_14_method_150_code 19 = .ok (.goto 21, 3) := by decide +kernel
theorem zd_546_22 : decode prog_14_method_150_code 22 = .ok (.aload_n 0, 1) := by decide +kernel
theorem zd_546_23 : decode prog_14_method_150_code 23 = .ok (.iload_n 1, 1) := by decide +kernel
theorem zd_546_24 : decode prog_14_method_150_code 24 = .ok (.ifCond .eq 9, 3) := by decide +kernel
theorem zd_546_27 : decode prog_14_method_150_code 27 = .ok (.ldc2_w 1379, 3) := by decide +kernel
theorem zd_546_30 : decode prog_14_method_150_code 30 = .ok (.goto 6, 3) := by decide +kernel
theorem zd_546_33 : decode prog_14_method_150_code 33 = .ok (.ldc2_w 1381, 3) := by decide +kernel
theorem zd_546_36 : decode prog_14_method_150_code 36 = .ok (.lconst 0, 1) := by decide +kernel
theorem zd_546_37 : decode prog_14_method_150_code 37 = .ok (.invokevirtual 536, 3) := by decide +kernel
theorem zd_546_40 : decode prog_14_method_150_code 40 = .ok (.istore_n 2, 1) := by decide +kernel
theorem zd_546_41 : decode prog_14_method_150_code 41 = .ok (.aload_n 0, 1) := by decide +kernel
theorem zd_546_42 : decode prog_14_method_150_code 42 = .ok (.invokevirtual 1336, 3) := by decide +kernel
theorem zd_546_45 : decode prog_14_method_150_code 45 = .ok (.aload_n 0, 1) := by decide +kernel
theorem zd_546_46 : decode prog_14_method_150_code 46 = .ok (.getfield 1228, 3) := by decide +kernel
theorem zd_546_49 : decode prog_14_method_150_code 49 = .ok (.ifCond .ne 9, 3) := by decide +kernel
theorem zd_546_52 : decode prog_14_method_150_code 52 = .ok (.aload_n 0, 1) := by decide +kernel
theorem zd_546_53 : decode prog_14_method_150_code 53 = .ok (.iconst 1, 1) := by decide +kernel
theorem zd_546_54 : decode prog_14_method_150_code 54 = .ok (.invokevirtual 1216, 3) := by decide +kernel
theorem zd_546_58 : decode prog_14_method_150_code 58 = .ok (.aload_n 0, 1) := by decide +kernel
theorem zd_546_59 : decode prog_14_method_150_code 59 = .ok (.iload_n 2, 1) := by decide +kernel
theorem zd_546_60 : decode prog_14_method_150_code 60 = .ok (.invokevirtual 1383, 3) := by decide +kernel
theorem zd_546_63 : decode prog_14_method_150_code 63 = .ok (.istore_n 3, 1) := by decide +kernel
theorem zd_546_64 : decode prog_14_method_150_code 64 = .ok (.iload_n 3, 1) := by decide +kernel
theorem zd_546_65 : decode prog_14_method_150_code 65 = .ok (.ifCond .lt 29, 3) := by decide +kernel
theorem zd_546_68 : decode prog_14_method_150_code 68 = .ok (.aload_n 0, 1) := by decide +kernel
theorem zd_546_69 : decode prog_14_method_150_code 69 = .ok (.getfield 50, 3) := by decide +kernel
theorem zd_546_72 : decode prog_14_method_150_code 72 = .ok (.bipush 64, 2) := by decide +kernel
theorem zd_546_74 : decode prog_14_method_150_code 74 = .ok (.aload_n 0, 1) := by decide +kernel
theorem zd_546_75 : decode prog_14_method_150_code 75 = .ok (.getfield 1174, 3) := by decide +kernel
theorem zd_546_78 : decode prog_14_method_150_code 78 = .ok (.imul, 1) := by decide +kernel
theorem zd_546_79 : decode prog_14_method_150_code 79 = .ok (.iload_n 3, 1) := by decide +kernel
theorem zd_546_80 : decode prog_14_method_150_code 80 = .ok (.iadd, 1) := by decide +kernel
theorem zd_546_81 : decode prog_14_method_150_code 81 = .ok (.baload, 1) := by decide +kernel
theorem zd_546_82 : decode prog_14_method_150_code 82 = .ok (.iload_n 1, 1) := by decide +kernel
theorem zd_546_83 : decode prog_14_method_150_code 83 = .ok (.if_icmp .eq 11, 3) := by decide +kernel
theorem zd_546_86 : decode prog_14_method_150_code 86 = .ok (.aload_n 0, 1) := by decide +kernel
theorem zd_546_87 : decode prog_14_method_150_code 87 = .ok (.iconst 2, 1) := by decide +kernel
theorem zd_546_88 : decode prog_14_method_150_code 88 = .ok (.invokevirtual 1216, 3) := by decide +kernel
theorem zd_546_91 : decode prog_14_method_150_code 91 = .ok (.goto 44, 3) := by decide +kernel
theorem zd_546_94 : decode prog_14_method_150_code 94 = .ok (.iload_n 3, 1) := by decide +kernel
theorem zd_546_95 : decode prog_14_method_150_code 95 = .ok (.ifCond .lt 11, 3) := by decide +kernel
theorem zd_546_98 : decode prog_14_method_150_code 98 = .ok (.aload_n 0, 1) := by decide +kernel
theorem zd_546_99 : decode prog_14_method_150_code 99 = .ok (.iload_n 3, 1) := by decide +kernel
theorem zd_546_100 : decode prog_14_method_150_code 100 = .ok (.putfield 1272, 3) := by decide +kernel
theorem zd_546_103 : decode prog_14_method_150_code 103 = .ok (.goto 32, 3) := by decide +kernel
theorem zd_546_106 : decode prog_14_method_150_code 106 = .ok (.aload_n 0, 1) := by decide +kernel
theorem zd_546_107 : decode prog_14_method_150_code 107 = .ok (.getfield 44, 3) := by decide +kernel
theorem zd_546_110 : decode prog_14_method_150_code 110 = .ok (.aload_n 0, 1) := by decide +kernel
theorem zd_546_111 : decode prog_14_method_150_code 111 = .ok (.getfield 1174, 3) := by decide +kernel
theorem zd_546_114 : decode prog_14_method_150_code 114 = .ok (.iaload, 1) := by decide +kernel
theorem zd_546_115 : decode prog_14_method_150_code 115 = .ok (.bipush 64, 2) := by decide +kernel
theorem zd_546_117 : decode prog_14_method_150_code 117 = .ok (.if_icmp .ne 12, 3) := by decide +kernel
theorem zd_546_120 : decode prog_14_method_150_code 120 = .ok (.aload_n 0, 1) := by decide +kernel
theorem zd_546_121 : decode prog_14_method_150_code 121 = .ok (.bipush 6, 2) := by decide +kernel
theorem zd_546_123 : decode prog_14_method_150_code 123 = .ok (.invokevirtual 1216, 3) := by decide +kernel
theorem zd_546_126 : decode prog_14_method_150_code 126 = .ok (.goto 9, 3) := by decide +kernel
theorem zd_546_129 : decode prog_14_method_150_code 129 = .ok (.aload_n 0, 1) := by decide +kernel
theorem zd_546_130 : decode prog_14_method_150_code 130 = .ok (.iload_n 2, 1) := by decide +kernel
theorem zd_546_131 : decode prog_14_method_150_code 131 = .ok (.iload_n 1, 1) := by decide +kernel
theorem zd_546_132 : decode prog_14_method_150_code 132 = .ok (.invokevirtual 1386, 3) := by decide +kernel
theorem zd_547_0 : decode prog_14_method_154_code 0 = .ok (.aload_n 0, 1) := by decide +kernel
theorem zd_547_1 : decode prog_14_method_154_code 1 = .ok (.invokevirtual 1254, 3) := by decide +kernel
theorem zd_547_4 : decode prog_14_method_154_code 4 = .ok (.istore_n 2, 1) := by decide +kernel
theorem zd_547_5 : decode prog_14_method_154_code 5 = .ok (.iload_n 1, 1) := by decide +kernel
theorem zd_547_6 : decode prog_14_method_154_code 6 = .ok (.bipush 66, 2) := by decide +kernel
theorem zd_547_8 : decode prog_14_method_154_code 8 = .ok (.if_icmp .eq 14, 3) := by decide +kernel
theorem zd_547_11 : decode prog_14_method_154_code 11 = .ok (.aload_n 0, 1) := by decide +kernel
theorem zd_547_12 : decode prog_14_method_154_code 12 = .ok (.bipush 44, 2) := by decide +kernel
theorem zd_547_14 : decode prog_14_method_154_code 14 = .ok (.invokevirtual 1269, 3) := by decide +kernel
theorem zd_547_17 : decode prog_14_method_154_code 17 = .ok (.aload_n 0, 1) := by decide +kernel
theorem zd_547_18 : decode prog_14_method_154_code 18 = .ok (.iconst 1, 1) := by decide +kernel
theorem zd_547_19 : decode prog_14_method_154_code 19 = .ok (.invokevirtual 1315, 3) := by decide +kernel
theorem zd_547_22 : decode prog_14_method_154_code 22 = .ok (.aload_n 0, 1) := by decide +kernel
theorem zd_547_23 : decode prog_14_method_154_code 23 = .ok (.invokevirtual 1336, 3) := by decide +kernel
theorem zd_547_26 : decode prog_14_method_154_code 26 = .ok (.aload_n 0, 1) := by decide +kernel
theorem zd_547_27 : decode prog_14_method_154_code 27 = .ok (.getfield 1228, 3) := by decide +kernel
theorem zd_547_30 : decode prog_14_method_154_code 30 = .ok (.ifCond .ne 11, 3) := by decide +kernel
theorem zd_547_33 : decode prog_14_method_154_code 33 = .ok (.aload_n 0, 1) := by decide +kernel
theorem zd_547_34 : decode prog_14_method_154_code 34 = .ok (.iconst 1, 1) := by decide +kernel
theorem zd_547_35 : decode prog_14_method_154_code 35 = .ok (.invokevirtual 1216, 3) := by decide +kernel
theorem zd_547_38 : decode prog_14_method_154_code 38 = .ok (.goto 247, 3) := by decide +kernel
theorem zd_547_41 : decode prog_14_method_154_code 41 = .ok (.iload_n 1, 1) := by decide +kernel
theorem zd_547_42 : decode prog_14_method_154_code 42 = .ok (.bipush 74, 2) := by decide +kernel
theorem zd_547_44 : decode prog_14_method_154_code 44 = .ok (.if_icmp .ne 11, 3) := by decide +kernel
theorem zd_547_47 : decode prog_14_method_154_code 47 = .ok (.aload_n 0, 1) := by decide +kernel
theorem zd_547_48 : decode prog_14_method_154_code 48 = .ok (.iload_n 2, 1) := by decide +kernel
theorem zd_547_49 : decode prog_14_method_154_code 49 = .ok (.invokevirtual 1404, 3) := by decide +kernel
theorem zd_547_52 : decode prog_14_method_154_code 52 = .ok (.goto 233, 3) := by decide +kernel
theorem zd_547_55 : decode prog_14_method_154_code 55 = .ok (.iload_n 1, 1) := by decide +kernel
theorem zd_547_56 : decode prog_14_method_154_code 56 = .ok (.bipush 66, 2) := by decide +kernel
theorem zd_547_58 : decode prog_14_method_154_code 58 = .ok (.if_icmp .ne 42, 3) := by decide +kernel
theorem zd_547_61 : decode prog_14_method_154_code 61 = .ok (.aload_n 0, 1) := by decide +kernel
theorem zd_547_62 : decode prog_14_method_154_code 62 = .ok (.iload_n 2, 1) := by decide +kernel
theorem zd_547_63 : decode prog_14_method_154_code 63 = .ok (.invokevirtual 1407, 3) := by decide +kernel
theorem zd_547_66 : decode prog_14_method_154_code 66 = .ok (.ifCond .eq 219, 3) := by decide +kernel
theorem zd_547_69 : decode prog_14_method_154_code 69 = .ok (.aload_n 0, 1) := by decide +kernel
theorem zd_547_70 : decode prog_14_method_154_code 70 = .ok (.iload_n 2, 1) := by decide +kernel
theorem zd_547_71 : decode prog_14_method_154_code 71 = .ok (.invokevirtual 1395, 3) := by decide +kernel
theorem zd_547_74 : decode prog_14_method_154_code 74 = .ok (.ifCond .ne 211, 3) := by decide +kernel
theorem zd_547_77 : decode prog_14_method_154_code 77 = .ok (.aload_n 0, 1) := by decide +kernel
theorem zd_547_78 : decode prog_14_method_154_code 78 = .ok (.getfield 368, 3) := by decide +kernel
theorem zd_547_81 : decode prog_14_method_154_code 81 = .ok (.aload_n 0, 1) := by decide +kernel
theorem zd_547_82 : decode prog_14_method_154_code 82 = .ok (.getfield 1392, 3) := by decide +kernel
theorem zd_547_85 : decode prog_14_method_154_code 85 = .ok (.iload_n 2, 1) := by decide +kernel
theorem zd_547_86 : decode prog_14_method_154_code 86 = .ok (.iastore, 1) := by decide +kernel
theorem zd_547_87 : decode prog_14_method_154_code 87 = .ok (.aload_n 0, 1) := by decide +kernel
theorem zd_547_88 : decode prog_14_method_154_code 88 = .ok (.dup, 1) := by decide +kernel
theorem zd_547_89 : decode prog_14_method_154_code 89 = .ok (.getfield 1392, 3) := by decide +kernel
theorem zd_547_92 : decode prog_14_method_154_code 92 = .ok (.iconst 1, 1) := by decide +kernel
theorem zd_547_93 : decode prog_14_method_154_code 93 = .ok (.iadd, 1) := by decide +kernel
theorem zd_547_94 : decode prog_14_method_154_code 94 = .ok (.putfield 1392, 3) := by decide +kernel
theorem zd_547_97 : decode prog_14_method_154_code 97 = .ok (.goto 188, 3) := by decide +kernel
theorem zd_547_100 : decode prog_14_method_154_code 100 = .ok (.aload_n 0, 1) := by decide +kernel
theorem zd_547_101 : decode prog_14_method_154_code 101 = .ok (.getfield 431, 3) := by decide +kernel
theorem zd_547_104 : decode prog_14_method_154_code 104 = .ok (.iconst 0, 1) := by decide +kernel
theorem zd_547_105 : decode prog_14_method_154_code 105 = .ok (.iaload, 1) := by decide +kernel
theorem zd_547_106 : decode prog_14_method_154_code 106 = .ok (.iconst 0, 1) := by decide +kernel
theorem zd_547_107 : decode prog_14_method_154_code 107 = .ok (.bipush 15, 2) := by decide +kernel
theorem zd_547_109 : decode prog_14_method_154_code 109 = .ok (.invokestatic 504, 3) := by decide +kernel
theorem zd_547_112 : decode prog_14_method_154_code 112 = .ok (.ifCond .ne 11, 3) := by decide +kernel
theorem zd_547_115 : decode prog_14_method_154_code 115 = .ok (.aload_n 0, 1) := by decide +kernel
theorem zd_547_116 : decode prog_14_method_154_code 116 = .ok (.iconst 3, 1) := by decide +kernel
theorem zd_547_117 : decode prog_14_method_154_code 117 = .ok (.invokevirtual 1216, 3) := by decide +kernel
theorem zd_547_120 : decode prog_14_method_154_code 120 = .ok (.goto 165, 3) := by decide +kernel
theorem zd_547_123 : decode prog_14_method_154_code 123 = .ok (.iload_n 1, 1) := by decide +kernel
theorem zd_547_124 : decode prog_14_method_154_code 124 = .ok (.bipush 67, 2) := by decide +kernel
theorem zd_547_126 : decode prog_14_method_154_code 126 = .ok (.if_icmp .ne 74, 3) := by decide +kernel
theorem zd_547_129 : decode prog_14_method_154_code 129 = .ok (.aload_n 0, 1) := by decide +kernel
theorem zd_547_130 : decode prog_14_method_154_code 130 = .ok (.iload_n 2, 1) := by decide +kernel
theorem zd_547_131 : decode prog_14_method_154_code 131 = .ok (.invokevirtual 1398, 3) := by decide +kernel
theorem zd_547_134 : decode prog_14_method_154_code 134 = .ok (.istore_n 3, 1) := by decide +kernel
theorem zd_547_135 : decode prog_14_method_154_code 135 = .ok (.iload_n 3, 1) := by decide +kernel
theorem zd_547_136 : decode prog_14_method_154_code 136 = .ok (.ifCond .lt 18, 3) := by decide +kernel
theorem zd_547_139 : decode prog_14_method_154_code 139 = .ok (.aload_n 0, 1) := by decide +kernel
theorem zd_547_140 : decode prog_14_method_154_code 140 = .ok (.getfield 374, 3) := by decide +kernel
theorem zd_547_143 : decode prog_14_method_154_code 143 = .ok (.iload_n 3, 1) := by decide +kernel
theorem zd_547_144 : decode prog_14_method_154_code 144 = .ok (.aload_n 0, 1) := by decide +kernel
theorem zd_547_145 : decode prog_14_method_154_code 145 = .ok (.getfield 431, 3) := by decide +kernel
theorem zd_547_148 : decode prog_14_method_154_code 148 = .ok (.iconst 0, 1) := by decide +kernel
theorem zd_547_149 : decode prog_14_method_154_code 149 = .ok (.iaload, 1) := by decide +kernel
theorem zd_547_150 : decode prog_14_method_154_code 150 = .ok (.iastore, 1) := by decide +kernel
theorem zd_547_151 : decode prog_14_method_154_code 151 = .ok (.goto 46, 3) := by decide +kernel
theorem zd_547_154 : decode prog_14_method_154_code 154 = .ok (.aload_n 0, 1) := by decide +kernel
theorem zd_547_155 : decode prog_14_method_154_code 155 = .ok (.iload_n 2, 1) := by decide +kernel
theorem zd_547_156 : decode prog_14_method_154_code 156 = .ok (.invokevirtual 1407, 3) := by decide +kernel
theorem zd_547_159 : decode prog_14_method_154_code 159 = .ok (.ifCond .eq 38, 3) := by decide +kernel
theorem zd_547_162 : decode prog_14_method_154_code 162 = .ok (.aload_n 0, 1) := by decide +kernel
theorem zd_547_163 : decode prog_14_method_154_code 163 = .ok (.getfield 371, 3) := by decide +kernel
theorem zd_547_166 : decode prog_14_method_154_code 166 = .ok (.aload_n 0, 1) := by decide +kernel
theorem zd_547_167 : decode prog_14_method_154_code 167 = .ok (.getfield 1389, 3) := by decide +kernel
theorem zd_547_170 : decode prog_14_method_154_code 170 = .ok (.iload_n 2, 1) := by decide +kernel
theorem zd_547_171 : decode prog_14_method_154_code 171 = .ok (.iastore, 1) := by decide +kernel
theorem zd_547_172 : decode prog_14_method_154_code 172 = .ok (.aload_n 0, 1) := by decide +kernel
theorem zd_547_173 : decode prog_14_method_154_code 173 = .ok (.getfield 374, 3) := by decide +kernel
theorem zd_547_176 : decode prog_14_method_154_code 176 = .ok (.aload_n 0, 1) := by decide +kernel
theorem zd_547_177 : decode prog_14_method_154_code 177 = .ok (.getfield 1389, 3) := by decide +kernel
theorem zd_547_180 : decode prog_14_method_154_code 180 = .ok (.aload_n 0, 1) := by decide +kernel
theorem zd_547_181 : decode prog_14_method_154_code 181 = .ok (.getfield 431, 3) := by decide +kernel
theorem zd_547_184 : decode prog_14_method_154_code 184 = .ok (.iconst 0, 1) := by decide +kernel
theorem zd_547_185 : decode prog_14_method_154_code 185 = .ok (.iaload, 1) := by decide +kernel
theorem zd_547_186 : decode prog_14_method_154_code 186 = .ok (.iastore, 1) := by decide +kernel
theorem zd_547_187 : decode prog_14_method_154_code 187 = .ok (.aload_n 0, 1) := by decide +kernel
theorem zd_547_188 : decode prog_14_method_154_code 188 = .ok (.dup, 1) := by decide +kernel
theorem zd_547_189 : decode prog_14_method_154_code 189 = .ok (.getfield 1389, 3) := by decide +kernel
theorem zd_547_192 : decode prog_14_method_154_code 192 = .ok (.iconst 1, 1) := by decide +kernel
theorem zd_547_193 : decode prog_14_method_154_code 193 = .ok (.iadd, 1) := by decide +kernel
theorem zd_547_194 : decode prog_14_method_154_code 194 = .ok (.putfield 1389, 3) := by decide +kernel
theorem zd_547_197 : decode prog_14_method_154_code 197 = .ok (.goto 88, 3) := by decide +kernel
theorem zd_547_200 : decode prog_14_method_154_code 200 = .ok (.aload_n 0, 1) := by decide +kernel
theorem zd_547_201 : decode prog_14_method_154_code 201 = .ok (.getfield 117, 3) := by decide +kernel
theorem zd_547_204 : decode prog_14_method_154_code 204 = .ok (.aload_n 0, 1) := by decide +kernel
theorem zd_547_205 : decode prog_14_method_154_code 205 = .ok (.getfield 1174, 3) := by decide +kernel
theorem zd_547_208 : decode prog_14_method_154_code 208 = .ok (.iaload, 1) := by decide +kernel
theorem zd_547_209 : decode prog_14_method_154_code 209 = .ok (.sipush 600, 3) := by decide +kernel
theorem zd_547_212 : decode prog_14_method_154_code 212 = .ok (.if_icmp .ne 12, 3) := by decide +kernel
theorem zd_547_215 : decode prog_14_method_154_code 215 = .ok (.aload_n 0, 1) := by decide +kernel
theorem zd_547_216 : decode prog_14_method_154_code 216 = .ok (.bipush 6, 2) := by decide +kernel
theorem zd_547_218 : decode prog_14_method_154_code 218 = .ok (.invokevirtual 1216, 3) := by decide +kernel
theorem zd_547_221 : decode prog_14_method_154_code 221 = .ok (.goto 64, 3) := by decide +kernel
theorem zd_547_224 : decode prog_14_method_154_code 224 = .ok (.sipush 600, 3) := by decide +kernel
theorem zd_547_227 : decode prog_14_method_154_code 227 = .ok (.aload_n 0, 1) := by decide +kernel
theorem zd_547_228 : decode prog_14_method_154_code 228 = .ok (.getfield 1174, 3) := by decide +kernel
theorem zd_547_231 : decode prog_14_method_154_code 231 = .ok (.imul, 1) := by decide +kernel
theorem zd_547_232 : decode prog_14_method_154_code 232 = .ok (.aload_n 0, 1) := by decide +kernel
theorem zd_547_233 : decode prog_14_method_154_code 233 = .ok (.getfield 117, 3) := by decide +kernel
theorem zd_547_236 : decode prog_14_method_154_code 236 = .ok (.aload_n 0, 1) := by decide +kernel
theorem zd_547_237 : decode prog_14_method_154_code 237 = .ok (.getfield 1174, 3) := by decide +kernel
theorem zd_547_240 : decode prog_14_method_154_code 240 = .ok (.iaload, 1) := by decide +kernel
theorem zd_547_241 : decode prog_14_method_154_code 241 = .ok (.iadd, 1) := by decide +kernel
theorem zd_547_242 : decode prog_14_method_154_code 242 = .ok (.istore_n 3, 1) := by decide +kernel
theorem zd_547_243 : decode prog_14_method_154_code 243 = .ok (.aload_n 0, 1) := by decide +kernel
theorem zd_547_244 : decode prog_14_method_154_code 244 = .ok (.getfield 120, 3) := by decide +kernel
theorem zd_547_247 : decode prog_14_method_154_code 247 = .ok (.iload_n 3, 1) := by decide +kernel
theorem zd_547_248 : decode prog_14_method_154_code 248 = .ok (.iload_n 2, 1) := by decide +kernel
theorem zd_547_249 : decode prog_14_method_154_code 249 = .ok (.iastore, 1) := by decide +kernel
theorem zd_547_250 : decode prog_14_method_154_code 250 = .ok (.aload_n 0, 1) := by decide +kernel
theorem zd_547_251 : decode prog_14_method_154_code 251 = .ok (.getfield 123, 3) := by decide +kernel
theorem zd_547_254 : decode prog_14_method_154_code 254 = .ok (.iload_n 3, 1) := by decide +kernel
theorem zd_547_255 : decode prog_14_method_154_code 255 = .ok (.aload_n 0, 1) := by decide +kernel
theorem zd_547_256 : decode prog_14_method_154_code 256 = .ok (.getfield 431, 3) := by decide +kernel
theorem zd_547_259 : decode prog_14_method_154_code 259 = .ok (.iconst 0, 1) := by decide +kernel
theorem zd_547_260 : decode prog_14_method_154_code 260 = .ok (.iaload, 1) := by decide +kernel
theorem zd_547_261 : decode prog_14_method_154_code 261 = .ok (.iastore, 1) := by decide +kernel
theorem zd_547_262 : decode prog_14_method_154_code 262 = .ok (.aload_n 0, 1) := by decide +kernel
theorem zd_547_263 : decode prog_14_method_154_code 263 = .ok (.getfield 126, 3) := by decide +kernel
theorem zd_547_266 : decode prog_14_method_154_code 266 = .ok (.iload_n 3, 1) := by decide +kernel
theorem zd_547_267 : decode prog_14_method_154_code 267 = .ok (.aload_n 0, 1) := by decide +kernel
theorem zd_547_268 : decode prog_14_method_154_code 268 = .ok (.getfield 1177, 3) := by decide +kernel
theorem zd_547_271 : decode prog_14_method_154_code 271 = .ok (.iastore, 1) := by decide +kernel
theorem zd_547_272 : decode prog_14_method_154_code 272 = .ok (.aload_n 0, 1) := by decide +kernel
theorem zd_547_273 : decode prog_14_method_154_code 273 = .ok (.getfield 117, 3) := by decide +kernel
theorem zd_547_276 : decode prog_14_method_154_code 276 = .ok (.aload_n 0, 1) := by decide +kernel
theorem zd_547_277 : decode prog_14_method_154_code 277 = .ok (.getfield 1174, 3) := by decide +kernel
theorem zd_547_280 : decode prog_14_method_154_code 280 = .ok (.dup2, 1) := by decide +kernel
theorem zd_547_281 : decode prog_14_method_154_code 281 = .ok (.iaload, 1) := by decide +kernel
theorem zd_547_282 : decode prog_14_method_154_code 282 = .ok (.iconst 1, 1) := by decide +kernel
theorem zd_547_283 : decode prog_14_method_154_code 283 = .ok (.iadd, 1) := by decide +kernel
theorem zd_547_284 : decode prog_14_method_154_code 284 = .ok (.iastore, 1) := by decide +kernel
theorem zd_548_0 : decode prog_14_method_156_code 0 = .ok (.iconst 1, 1) := by decide +kernel
theorem zd_548_1 : decode prog_14_method_156_code 1 = .ok (.istore_n 2, 1) := by decide +kernel
theorem zd_548_2 : decode prog_14_method_156_code 2 = .ok (.iload_n 2, 1) := by decide +kernel
theorem zd_548_3 : decode prog_14_method_156_code 3 = .ok (.ifCond .eq 56, 3) := by decide +kernel
theorem zd_548_6 : decode prog_14_method_156_code 6 = .ok (.aload_n 0, 1) := by decide +kernel
theorem zd_548_7 : decode prog_14_method_156_code 7 = .ok (.getfield 1228, 3) := by decide +kernel
theorem zd_548_10 : decode prog_14_method_156_code 10 = .ok (.ifCond .eq 49, 3) := by decide +kernel
theorem zd_548_13 : decode prog_14_method_156_code 13 = .ok (.aload_n 0, 1) := by decide +kernel
theorem zd_548_14 : decode prog_14_method_156_code 14 = .ok (.iload_n 1, 1) := by decide +kernel
theorem zd_548_15 : decode prog_14_method_156_code 15 = .ok (.bipush 69, 2) := by decide +kernel
theorem zd_548_17 : decode prog_14_method_156_code 17 = .ok (.if_icmp .ne 7, 3) := by decide +kernel
theorem zd_548_20 : decode prog_14_method_156_code 20 = .ok (.iconst 0, 1) := by decide +kernel
theorem zd_548_21 : decode prog_14_method_156_code 21 = .ok (.goto 4, 3) := by decide +kernel
theorem zd_548_24 : decode prog_14_method_156_code 24 = .ok (.iconst 1, 1) := by decide +kernel
theorem zd_548_25 : decode prog_14_method_156_code 25 = .ok (.invokevirtual 1315, 3) := by decide +kernel
theorem zd_548_28 : decode prog_14_method_156_code 28 = .ok (.aload_n 0, 1) := by decide +kernel
theorem zd_548_29 : decode prog_14_method_156_code 29 = .ok (.bipush 44, 2) := by decide +kernel
theorem zd_548_31 : decode prog_14_method_156_code 31 = .ok (.invokevirtual 1330, 3) := by decide +kernel
theorem zd_548_34 : decode prog_14_method_156_code 34 = .ok (.istore_n 2, 1) := by decide +kernel
theorem zd_548_35 : decode prog_14_method_156_code 35 = .ok (.aload_n 0, 1) := by decide +kernel
theorem zd_548_36 : decode prog_14_method_156_code 36 = .ok (.iload_n 2, 1) := by decide +kernel
theorem zd_548_37 : decode prog_14_method_156_code 37 = .ok (.ifCond .eq 12, 3) := by decide +kernel
theorem zd_548_40 : decode prog_14_method_156_code 40 = .ok (.aload_n 0, 1) := by decide +kernel
theorem zd_548_41 : decode prog_14_method_156_code 41 = .ok (.getfield 1219, 3) := by decide +kernel
theorem zd_548_44 : decode prog_14_method_156_code 44 = .ok (.iconst 1, 1) := by decide +kernel
theorem zd_548_45 : decode prog_14_method_156_code 45 = .ok (.iadd, 1) := by decide +kernel
theorem zd_548_46 : decode prog_14_method_156_code 46 = .ok (.goto 7, 3) := by decide +kernel
theorem zd_548_49 : decode prog_14_method_156_code 49 = .ok (.aload_n 0, 1) := by decide +kernel
theorem zd_548_50 : decode prog_14_method_156_code 50 = .ok (.getfield 1219, 3) := by decide +kernel
theorem zd_548_53 : decode prog_14_method_156_code 53 = .ok (.putfield 1219, 3) := by decide +kernel
theorem zd_548_56 : decode prog_14_method_156_code 56 = .ok (.goto (-54), 3) := by decide +kernel
theorem zd_548_59 : decode prog_14_method_156_code 59 = .ok (.aload_n 0, 1) := by decide +kernel
theorem zd_548_60 : decode prog_14_method_156_code 60 = .ok (.invokevirtual 1336, 3) := by decide +kernel
theorem zd_548_63 : decode prog_14_method_156_code 63 = .ok (.aload_n 0, 1) := by decide +kernel
theorem zd_548_64 : decode prog_14_method_156_code 64 = .ok (.getfield 1228, 3) := by decide +kernel
theorem zd_548_67 : decode prog_14_method_156_code 67 = .ok (.ifCond .ne 9, 3) := by decide +kernel
theorem zd_548_70 : decode prog_14_method_156_code 70 = .ok (.aload_n 0, 1) := by decide +kernel
theorem zd_548_71 : decode prog_14_method_156_code 71 = .ok (.iconst 1, 1) := by decide +kernel
theorem zd_548_72 : decode prog_14_method_156_code 72 = .ok (.invokevirtual 1216, 3) := by decide +kernel
theorem zd_548_76 : decode prog_14_method_156_code 76 = .ok (.iload_n 1, 1) := by decide +kernel
theorem zd_548_77 : decode prog_14_method_156_code 77 = .ok (.bipush 70, 2) := by decide +kernel
theorem zd_548_79 : decode prog_14_method_156_code 79 = .ok (.if_icmp .ne 9, 3) := by decide +kernel
theorem zd_548_82 : decode prog_14_method_156_code 82 = .ok (.sipush (-32768), 3) := by decide +kernel
theorem zd_548_85 : decode prog_14_method_156_code 85 = .ok (.goto 5, 3) := by decide +kernel
theorem zd_548_88 : decode prog_14_method_156_code 88 = .ok (.bipush (-128), 2) := by decide +kernel
theorem zd_548_90 : decode prog_14_method_156_code 90 = .ok (.istore_n 3, 1) := by decide +kernel
theorem zd_548_91 : decode prog_14_method_156_code 91 = .ok (.iload_n 1, 1) := by decide +kernel
theorem zd_548_92 : decode prog_14_method_156_code 92 = .ok (.bipush 70, 2) := by decide +kernel
theorem zd_548_94 : decode prog_14_method_156_code 94 = .ok (.if_icmp .ne 9, 3) := by decide +kernel
theorem zd_548_97 : decode prog_14_method_156_code 97 = .ok (.ldc_w 1302, 3) := by decide +kernel
theorem zd_548_100 : decode prog_14_method_156_code 100 = .ok (.goto 6, 3) := by decide +kernel
theorem zd_548_103 : decode prog_14_method_156_code 103 = .ok (.sipush 255, 3) := by decide +kernel
theorem zd_548_106 : decode prog_14_method_156_code 106 = .ok (.istore 4, 2) := by decide +kernel
theorem zd_548_108 : decode prog_14_method_156_code 108 = .ok (.iconst 1, 1) := by decide +kernel
theorem zd_548_109 : decode prog_14_method_156_code 109 = .ok (.istore 5, 2) := by decide +kernel
theorem zd_548_111 : decode prog_14_method_156_code 111 = .ok (.iconst 0, 1) := by decide +kernel
theorem zd_548_112 : decode prog_14_method_156_code 112 = .ok (.istore 6, 2) := by decide +kernel
theorem zd_548_114 : decode prog_14_method_156_code 114 = .ok (.iload 6, 2) := by decide +kernel
theorem zd_548_116 : decode prog_14_method_156_code 116 = .ok (.aload_n 0, 1) := by decide +kernel
theorem zd_548_117 : decode prog_14_method_156_code 117 = .ok (.getfield 1260, 3) := by decide +kernel
theorem zd_548_120 : decode prog_14_method_156_code 120 = .ok (.if_icmp .ge 43, 3) := by decide +kernel
theorem zd_548_123 : decode prog_14_method_156_code 123 = .ok (.iload_n 1, 1) := by decide +kernel
theorem zd_548_124 : decode prog_14_method_156_code 124 = .ok (.bipush 69, 2) := by decide +kernel
theorem zd_548_126 : decode prog_14_method_156_code 126 = .ok (.if_icmp .eq 37, 3) := by decide +kernel
theorem zd_548_129 : decode prog_14_method_156_code 129 = .ok (.iload 5, 2) := by decide +kernel
theorem zd_548_131 : decode prog_14_method_156_code 131 = .ok (.ifCond .eq 23, 3) := by decide +kernel
theorem zd_548_134 : decode prog_14_method_156_code 134 = .ok (.aload_n 0, 1) := by decide +kernel
theorem zd_548_135 : decode prog_14_method_156_code 135 = .ok (.getfield 431, 3) := by decide +kernel
theorem zd_548_138 : decode prog_14_method_156_code 138 = .ok (.iload 6, 2) := by decide +kernel
theorem zd_548_140 : decode prog_14_method_156_code 140 = .ok (.iaload, 1) := by decide +kernel
theorem zd_548_141 : decode prog_14_method_156_code 141 = .ok (.iload_n 3, 1) := by decide +kernel
theorem zd_548_142 : decode prog_14_method_156_code 142 = .ok (.iload 4, 2) := by decide +kernel
theorem zd_548_144 : decode prog_14_method_156_code 144 = .ok (.invokestatic 504, 3) := by decide +kernel
theorem zd_548_147 : decode prog_14_method_156_code 147 = .ok (.ifCond .eq 7, 3) := by decide +kernel
theorem zd_548_150 : decode prog_14_method_156_code 150 = .ok (.iconst 1, 1) := by decide +kernel
theorem zd_548_151 : decode prog_14_method_156_code 151 = .ok (.goto 4, 3) := by decide +kernel
theorem zd_548_154 : decode prog_14_method_156_code 154 = .ok (.iconst 0, 1) := by decide +kernel
theorem zd_548_155 : decode prog_14_method_156_code 155 = .ok (.istore 5, 2) := by decide +kernel
theorem zd_548_157 : decode prog_14_method_156_code 157 = .ok (.iinc 6 1, 3) := by decide +kernel
theorem zd_548_160 : decode prog_14_method_156_code 160 = .ok (.goto (-46), 3) := by decide +kernel
theorem zd_548_163 : decode prog_14_method_156_code 163 = .ok (.iload_n 1, 1) := by decide +kernel
theorem zd_548_164 : decode prog_14_method_156_code 164 = .ok (.bipush 69, 2) := by decide +kernel
theorem zd_548_166 : decode prog_14_method_156_code 166 = .ok (.if_icmp .ne 7, 3) := by decide +kernel
theorem zd_548_169 : decode prog_14_method_156_code 169 = .ok (.iconst 4, 1) := by decide +kernel
theorem zd_548_170 : decode prog_14_method_156_code 170 = .ok (.goto 14, 3) := by decide +kernel
theorem zd_548_173 : decode prog_14_method_156_code 173 = .ok (.iload_n 1, 1) := by decide +kernel
theorem zd_548_174 : decode prog_14_method_156_code 174 = .ok (.bipush 70, 2) := by decide +kernel
theorem zd_548_176 : decode prog_14_method_156_code 176 = .ok (.if_icmp .ne 7, 3) := by decide +kernel
theorem zd_548_179 : decode prog_14_method_156_code 179 = .ok (.iconst 2, 1) := by decide +kernel
theorem zd_548_180 : decode prog_14_method_156_code 180 = .ok (.goto 4, 3) := by decide +kernel
theorem zd_548_183 : decode prog_14_method_156_code 183 = .ok (.iconst 1, 1) := by decide +kernel
theorem zd_548_184 : decode prog_14_method_156_code 184 = .ok (.istore 6, 2) := by decide +kernel
theorem zd_548_186 : decode prog_14_method_156_code 186 = .ok (.iload 5, 2) := by decide +kernel
theorem zd_548_188 : decode prog_14_method_156_code 188 = .ok (.ifCond .eq 13, 3) := by decide +kernel
theorem zd_548_191 : decode prog_14_method_156_code 191 = .ok (.aload_n 0, 1) := by decide +kernel
theorem zd_548_192 : decode prog_14_method_156_code 192 = .ok (.invokevirtual 1290, 3) := by decide +kernel
theorem zd_548_195 : decode prog_14_method_156_code 195 = .ok (.iload 6, 2) := by decide +kernel
theorem zd_548_197 : decode prog_14_method_156_code 197 = .ok (.irem, 1) := by decide +kernel
theorem zd_548_198 : decode prog_14_method_156_code 198 = .ok (.ifCond .eq 9, 3) := by decide +kernel
theorem zd_548_201 : decode prog_14_method_156_code 201 = .ok (.aload_n 0, 1) := by decide +kernel
theorem zd_548_202 : decode prog_14_method_156_code 202 = .ok (.iconst 3, 1) := by decide +kernel
theorem zd_548_203 : decode prog_14_method_156_code 203 = .ok (.invokevirtual 1216, 3) := by decide +kernel
theorem zd_548_207 : decode prog_14_method_156_code 207 = .ok (.aload_n 0, 1) := by decide +kernel
theorem zd_548_208 : decode prog_14_method_156_code 208 = .ok (.invokevirtual 1342, 3) := by decide +kernel
theorem zd_548_211 : decode prog_14_method_156_code 211 = .ok (.ifCond .ne 9, 3) := by decide +kernel
theorem zd_548_214 : decode prog_14_method_156_code 214 = .ok (.aload_n 0, 1) := by decide +kernel
theorem zd_548_215 : decode prog_14_method_156_code 215 = .ok (.iconst 4, 1) := by decide +kernel
theorem zd_548_216 : decode prog_14_method_156_code 216 = .ok (.invokevirtual 1216, 3) := by decide +kernel
theorem zd_548_220 : decode prog_14_method_156_code 220 = .ok (.aload_n 0, 1) := by decide +kernel
theorem zd_548_221 : decode prog_14_method_156_code 221 = .ok (.invokevirtual 1410, 3) := by decide +kernel
theorem zd_548_224 : decode prog_14_method_156_code 224 = .ok (.iconst 0, 1) := by decide +kernel
theorem zd_548_225 : decode prog_14_method_156_code 225 = .ok (.istore 7, 2) := by decide +kernel
theorem zd_548_227 : decode prog_14_method_156_code 227 = .ok (.iload 7, 2) := by decide +kernel
theorem zd_548_229 : decode prog_14_method_156_code 229 = .ok (.aload_n 0, 1) := by decide +kernel
theorem zd_548_230 : decode prog_14_method_156_code 230 = .ok (.getfield 1260, 3) := by decide +kernel
theorem zd_548_233 : decode prog_14_method_156_code 233 = .ok (.if_icmp .ge 78, 3) := by decide +kernel
theorem zd_548_236 : decode prog_14_method_156_code 236 = .ok (.aload_n 0, 1) := by decide +kernel
theorem zd_548_237 : decode prog_14_method_156_code 237 = .ok (.getfield 1183, 3) := by decide +kernel
theorem zd_548_240 : decode prog_14_method_156_code 240 = .ok (.ifCond .ne 71, 3) := by decide +kernel
theorem zd_548_243 : decode prog_14_method_156_code 243 = .ok (.aload_n 0, 1) := by decide +kernel
theorem zd_548_244 : decode prog_14_method_156_code 244 = .ok (.iload 7, 2) := by decide +kernel
theorem zd_548_246 : decode prog_14_method_156_code 246 = .ok (.iconst 0, 1) := by decide +kernel
theorem zd_548_247 : decode prog_14_method_156_code 247 = .ok (.aload_n 0, 1) := by decide +kernel
theorem zd_548_248 : decode prog_14_method_156_code 248 = .ok (.invokevirtual 1290, 3) := by decide +kernel
theorem zd_548_251 : decode prog_14_method_156_code 251 = .ok (.invokevirtual 1296, 3) := by decide +kernel
theorem zd_548_254 : decode prog_14_method_156_code 254 = .ok (.aload_n 0, 1) := by decide +kernel
theorem zd_548_255 : decode prog_14_method_156_code 255 = .ok (.getfield 434, 3) := by decide +kernel
theorem zd_548_258 : decode prog_14_method_156_code 258 = .ok (.iload 7, 2) := by decide +kernel
theorem zd_548_260 : decode prog_14_method_156_code 260 = .ok (.iaload, 1) := by decide +kernel
theorem zd_548_261 : decode prog_14_method_156_code 261 = .ok (.ifCond .le 7, 3) := by decide +kernel
theorem zd_548_264 : decode prog_14_method_156_code 264 = .ok (.iconst 0, 1) := by decide +kernel
theorem zd_548_265 : decode prog_14_method_156_code 265 = .ok (.goto 10, 3) := by decide +kernel
theorem zd_548_268 : decode prog_14_method_156_code 268 = .ok (.aload_n 0, 1) := by decide +kernel
theorem zd_548_269 : decode prog_14_method_156_code 269 = .ok (.getfield 431, 3) := by decide +kernel
theorem zd_548_272 : decode prog_14_method_156_code 272 = .ok (.iload 7, 2) := by decide +kernel
theorem zd_548_274 : decode prog_14_method_156_code 274 = .ok (.iaload, 1) := by decide +kernel
theorem zd_548_275 : decode prog_14_method_156_code 275 = .ok (.istore 8, 2) := by decide +kernel
theorem zd_548_277 : decode prog_14_method_156_code 277 = .ok (.iconst 0, 1) := by decide +kernel
theorem zd_548_278 : decode prog_14_method_156_code 278 = .ok (.istore 9, 2) := by decide +kernel
theorem zd_548_280 : decode prog_14_method_156_code 280 = .ok (.iload 9, 2) := by decide +kernel
theorem zd_548_282 : decode prog_14_method_156_code 282 = .ok (.iload 6, 2) := by decide +kernel
theorem zd_548_284 : decode prog_14_method_156_code 284 = .ok (.if_icmp .ge 21, 3) := by decide +kernel
theorem zd_548_287 : decode prog_14_method_156_code 287 = .ok (.aload_n 0, 1) := by decide +kernel
theorem zd_548_288 : decode prog_14_method_156_code 288 = .ok (.iload 8, 2) := by decide +kernel
theorem zd_548_290 : decode prog_14_method_156_code 290 = .ok (.bipush 8, 2) := by decide +kernel
theorem zd_548_292 : decode prog_14_method_156_code 292 = .ok (.iload 9, 2) := by decide +kernel
theorem zd_548_294 : decode prog_14_method_156_code 294 = .ok (.imul, 1) := by decide +kernel
theorem zd_548_295 : decode prog_14_method_156_code 295 = .ok (.ishr, 1) := by decide +kernel
theorem zd_548_296 : decode prog_14_method_156_code 296 = .ok (.invokevirtual 1278, 3) := by decide +kernel
theorem zd_548_299 : decode prog_14_method_156_code 299 = .ok (.iinc 9 1, 3) := by decide +kernel
theorem zd_548_302 : decode prog_14_method_156_code 302 = .ok (.goto (-22), 3) := by decide +kernel
theorem zd_548_305 : decode prog_14_method_156_code 305 = .ok (.iinc 7 1, 3) := by decide +kernel
theorem zd_548_308 : decode prog_14_method_156_code 308 = .ok (.goto (-81), 3) := by decide +kernel
theorem zd_549_0 : decode prog_14_method_157_code 0 = .ok (.aload_n 0, 1) := by decide +kernel
theorem zd_549_1 : decode prog_14_method_157_code 1 = .ok (.iconst 1, 1) := by decide +kernel
theorem zd_549_2 : decode prog_14_method_157_code 2 = .ok (.invokevirtual 1315, 3) := by decide +kernel
theorem zd_549_5 : decode prog_14_method_157_code 5 = .ok (.aload_n 0, 1) := by decide +kernel
theorem zd_549_6 : decode prog_14_method_157_code 6 = .ok (.invokevirtual 1336, 3) := by decide +kernel
theorem zd_549_9 : decode prog_14_method_157_code 9 = .ok (.aload_n 0, 1) := by decide +kernel
theorem zd_549_10 : decode prog_14_method_157_code 10 = .ok (.getfield 1228, 3) := by decide +kernel
theorem zd_549_13 : decode prog_14_method_157_code 13 = .ok (.ifCond .ne 9, 3) := by decide +kernel
theorem zd_549_16 : decode prog_14_method_157_code 16 = .ok (.aload_n 0, 1) := by decide +kernel
theorem zd_549_17 : decode prog_14_method_157_code 17 = .ok (.iconst 1, 1) := by decide +kernel
theorem zd_549_18 : decode prog_14_method_157_code 18 = .ok (.invokevirtual 1216, 3) := by decide +kernel
theorem zd_549_22 : decode prog_14_method_157_code 22 = .ok (.aload_n 0, 1) := by decide +kernel
theorem zd_549_23 : decode prog_14_method_157_code 23 = .ok (.getfield 431, 3) := by decide +kernel
theorem zd_549_26 : decode prog_14_method_157_code 26 = .ok (.iconst 0, 1) := by decide +kernel
theorem zd_549_27 : decode prog_14_method_157_code 27 = .ok (.iaload, 1) := by decide +kernel
theorem zd_549_28 : decode prog_14_method_157_code 28 = .ok (.istore_n 2, 1) := by decide +kernel
theorem zd_549_29 : decode prog_14_method_157_code 29 = .ok (.iload_n 2, 1) := by decide +kernel
theorem zd_549_30 : decode prog_14_method_157_code 30 = .ok (.iconst 0, 1) := by decide +kernel
theorem zd_549_31 : decode prog_14_method_157_code 31 = .ok (.iload_n 1, 1) := by decide +kernel
theorem zd_549_32 : decode prog_14_method_157_code 32 = .ok (.bipush 72, 2) := by decide +kernel
theorem zd_549_34 : decode prog_14_method_157_code 34 = .ok (.if_icmp .ne 9, 3) := by decide +kernel
theorem zd_549_37 : decode prog_14_method_157_code 37 = .ok (.sipush 4096, 3) := by decide +kernel
theorem zd_549_40 : decode prog_14_method_157_code 40 = .ok (.goto 4, 3) := by decide +kernel
theorem zd_549_43 : decode prog_14_method_157_code 43 = .ok (.iconst 4, 1) := by decide +kernel
theorem zd_549_44 : decode prog_14_method_157_code 44 = .ok (.invokestatic 504, 3) := by decide +kernel
theorem zd_549_47 : decode prog_14_method_157_code 47 = .ok (.ifCond .ne 9, 3) := by decide +kernel
theorem zd_549_50 : decode prog_14_method_157_code 50 = .ok (.aload_n 0, 1) := by decide +kernel
theorem zd_549_51 : decode prog_14_method_157_code 51 = .ok (.iconst 3, 1) := by decide +kernel
theorem zd_549_52 : decode prog_14_method_157_code 52 = .ok (.invokevirtual 1216, 3) := by decide +kernel
theorem zd_549_56 : decode prog_14_method_157_code 56 = .ok (.aload_n 0, 1) := by decide +kernel
theorem zd_549_57 : decode prog_14_method_157_code 57 = .ok (.invokevirtual 1410, 3) := by decide +kernel
theorem zd_549_60 : decode prog_14_method_157_code 60 = .ok (.iload_n 1, 1) := by decide +kernel
theorem zd_549_61 : decode prog_14_method_157_code 61 = .ok (.bipush 72, 2) := by decide +kernel
theorem zd_549_63 : decode prog_14_method_157_code 63 = .ok (.if_icmp .ne 29, 3) := by decide +kernel
theorem zd_549_66 : decode prog_14_method_157_code 66 = .ok (.iconst 0, 1) := by decide +kernel
theorem zd_549_67 : decode prog_14_method_157_code 67 = .ok (.istore_n 3, 1) := by decide +kernel
theorem zd_549_68 : decode prog_14_method_157_code 68 = .ok (.iload_n 3, 1) := by decide +kernel
theorem zd_549_69 : decode prog_14_method_157_code 69 = .ok (.iload_n 2, 1) := by decide +kernel
theorem zd_549_70 : decode prog_14_method_157_code 70 = .ok (.if_icmp .ge 21, 3) := by decide +kernel
theorem zd_549_73 : decode prog_14_method_157_code 73 = .ok (.aload_n 0, 1) := by decide +kernel
theorem zd_549_74 : decode prog_14_method_157_code 74 = .ok (.getfield 1183, 3) := by decide +kernel
theorem zd_549_77 : decode prog_14_method_157_code 77 = .ok (.ifCond .ne 14, 3) := by decide +kernel
theorem zd_549_80 : decode prog_14_method_157_code 80 = .ok (.aload_n 0, 1) := by decide +kernel
theorem zd_549_81 : decode prog_14_method_157_code 81 = .ok (.iconst 0, 1) := by decide +kernel
theorem zd_549_82 : decode prog_14_method_157_code 82 = .ok (.invokevirtual 1278, 3) := by decide +kernel
theorem zd_549_85 : decode prog_14_method_157_code 85 = .ok (.iinc 3 1, 3) := by decide +kernel
theorem zd_549_88 : decode prog_14_method_157_code 88 = .ok (.goto (-20), 3) := by decide +kernel
theorem zd_549_92 : decode prog_14_method_157_code 92 = .ok (.bipush 64, 2) := by decide +kernel
theorem zd_549_94 : decode prog_14_method_157_code 94 = .ok (.aload_n 0, 1) := by decide +kernel
theorem zd_549_95 : decode prog_14_method_157_code 95 = .ok (.getfield 1174, 3) := by decide +kernel
theorem zd_549_98 : decode prog_14_method_157_code 98 = .ok (.imul, 1) := by decide +kernel
theorem zd_549_99 : decode prog_14_method_157_code 99 = .ok (.aload_n 0, 1) := by decide +kernel
theorem zd_549_100 : decode prog_14_method_157_code 100 = .ok (.getfield 1272, 3) := by decide +kernel
theorem zd_549_103 : decode prog_14_method_157_code 103 = .ok (.iadd, 1) := by decide +kernel
theorem zd_549_104 : decode prog_14_method_157_code 104 = .ok (.istore_n 3, 1) := by decide +kernel
theorem zd_549_105 : decode prog_14_method_157_code 105 = .ok (.aload_n 0, 1) := by decide +kernel
theorem zd_549_106 : decode prog_14_method_157_code 106 = .ok (.getfield 56, 3) := by decide +kernel
theorem zd_549_109 : decode prog_14_method_157_code 109 = .ok (.iload_n 3, 1) := by decide +kernel
theorem zd_549_110 : decode prog_14_method_157_code 110 = .ok (.iconst 1, 1) := by decide +kernel
theorem zd_549_111 : decode prog_14_method_157_code 111 = .ok (.iload_n 2, 1) := by decide +kernel
theorem zd_549_112 : decode prog_14_method_157_code 112 = .ok (.ishl, 1) := by decide +kernel
theorem zd_549_113 : decode prog_14_method_157_code 113 = .ok (.aload_n 0, 1) := by decide +kernel
theorem zd_549_114 : decode prog_14_method_157_code 114 = .ok (.getfield 56, 3) := by decide +kernel
theorem zd_549_117 : decode prog_14_method_157_code 117 = .ok (.iload_n 3, 1) := by decide +kernel
theorem zd_549_118 : decode prog_14_method_157_code 118 = .ok (.iaload, 1) := by decide +kernel
theorem zd_549_119 : decode prog_14_method_157_code 119 = .ok (.if_icmp .le 9, 3) := by decide +kernel
theorem zd_549_122 : decode prog_14_method_157_code 122 = .ok (.iconst 1, 1) := by decide +kernel
theorem zd_549_123 : decode prog_14_method_157_code 123 = .ok (.iload_n 2, 1) := by decide +kernel
theorem zd_549_124 : decode prog_14_method_157_code 124 = .ok (.ishl, 1) := by decide +kernel
theorem zd_549_125 : decode prog_14_method_157_code 125 = .ok (.goto 9, 3) := by decide +kernel
theorem zd_549_128 : decode prog_14_method_157_code 128 = .ok (.aload_n 0, 1) := by decide +kernel
theorem zd_549_129 : decode prog_14_method_157_code 129 = .ok (.getfield 56, 3) := by decide +kernel
theorem zd_549_132 : decode prog_14_method_157_code 132 = .ok (.iload_n 3, 1) := by decide +kernel
theorem zd_549_133 : decode prog_14_method_157_code 133 = .ok (.iaload, 1) := by decide +kernel
theorem zd_549_134 : decode prog_14_method_157_code 134 = .ok (.iastore, 1) := by decide +kernel
theorem zd_549_135 : decode prog_14_method_157_code 135 = .ok (.aload_n 0, 1) := by decide +kernel
theorem zd_549_136 : decode prog_14_method_157_code 136 = .ok (.invokevirtual 1290, 3) := by decide +kernel
theorem zd_549_139 : decode prog_14_method_157_code 139 = .ok (.iconst 1, 1) := by decide +kernel
theorem zd_549_140 : decode prog_14_method_157_code 140 = .ok (.iload_n 2, 1) := by decide +kernel
theorem zd_549_141 : decode prog_14_method_157_code 141 = .ok (.ishl, 1) := by decide +kernel
theorem zd_549_142 : decode prog_14_method_157_code 142 = .ok (.irem, 1) := by decide +kernel
theorem zd_549_143 : decode prog_14_method_157_code 143 = .ok (.ifCond .eq 18, 3) := by decide +kernel
theorem zd_549_146 : decode prog_14_method_157_code 146 = .ok (.aload_n 0, 1) := by decide +kernel
theorem zd_549_147 : decode prog_14_method_157_code 147 = .ok (.getfield 1183, 3) := by decide +kernel
theorem zd_549_150 : decode prog_14_method_157_code 150 = .ok (.ifCond .ne 11, 3) := by decide +kernel
theorem zd_549_153 : decode prog_14_method_157_code 153 = .ok (.aload_n 0, 1) := by decide +kernel
theorem zd_549_154 : decode prog_14_method_157_code 154 = .ok (.iconst 0, 1) := by decide +kernel
theorem zd_549_155 : decode prog_14_method_157_code 155 = .ok (.invokevirtual 1278, 3) := by decide +kernel
theorem zd_549_158 : decode prog_14_method_157_code 158 = .ok (.goto (-23), 3) := by decide +kernel
theorem zd_550_0 : decode prog_14_method_159_code 0 = .ok (.iload_n 1, 1) := by decide +kernel
theorem zd_550_1 : decode prog_14_method_159_code 1 = .ok (.tableswitch 133 77 83 #[43, 87, 94, 94, 119, 133, 126], 43) := by decide +kernel
theorem zd_550_44 : decode prog_14_method_159_code 44 = .ok (.aload_n 0, 1) := by decide +kernel
theorem zd_550_45 : decode prog_14_method_159_code 45 = .ok (.iconst 1, 1) := by decide +kernel
theorem zd_550_46 : decode prog_14_method_159_code 46 = .ok (.invokevirtual 1315, 3) := by decide +kernel
theorem zd_550_49 : decode prog_14_method_159_code 49 = .ok (.aload_n 0, 1) := by decide +kernel
theorem zd_550_50 : decode prog_14_method_159_code 50 = .ok (.invokevirtual 1336, 3) := by decide +kernel
theorem zd_550_53 : decode prog_14_method_159_code 53 = .ok (.aload_n 0, 1) := by decide +kernel
theorem zd_550_54 : decode prog_14_method_159_code 54 = .ok (.getfield 1228, 3) := by decide +kernel
theorem zd_550_57 : decode prog_14_method_159_code 57 = .ok (.ifCond .ne 9, 3) := by decide +kernel
theorem zd_550_60 : decode prog_14_method_159_code 60 = .ok (.aload_n 0, 1) := by decide +kernel
theorem zd_550_61 : decode prog_14_method_159_code 61 = .ok (.iconst 1, 1) := by decide +kernel
theorem zd_550_62 : decode prog_14_method_159_code 62 = .ok (.invokevirtual 1216, 3) := by decide +kernel
theorem zd_550_66 : decode prog_14_method_159_code 66 = .ok (.aload_n 0, 1) := by decide +kernel
theorem zd_550_67 : decode prog_14_method_159_code 67 = .ok (.aload_n 0, 1) := by decide +kernel
theorem zd_550_68 : decode prog_14_method_159_code 68 = .ok (.getfield 431, 3) := by decide +kernel
theorem zd_550_71 : decode prog_14_method_159_code 71 = .ok (.iconst 0, 1) := by decide +kernel
theorem zd_550_72 : decode prog_14_method_159_code 72 = .ok (.iaload, 1) := by decide +kernel
theorem zd_550_73 : decode prog_14_method_159_code 73 = .ok (.ifCond .eq 7, 3) := by decide +kernel
theorem zd_550_76 : decode prog_14_method_159_code 76 = .ok (.iconst 1, 1) := by decide +kernel
theorem zd_550_77 : decode prog_14_method_159_code 77 = .ok (.goto 4, 3) := by decide +kernel
theorem zd_550_80 : decode prog_14_method_159_code 80 = .ok (.iconst 0, 1) := by decide +kernel
theorem zd_550_81 : decode prog_14_method_159_code 81 = .ok (.iconst 0, 1) := by decide +kernel
theorem zd_550_82 : decode prog_14_method_159_code 82 = .ok (.invokevirtual 1428, 3) := by decide +kernel
theorem zd_550_85 : decode prog_14_method_159_code 85 = .ok (.goto 54, 3) := by decide +kernel
theorem zd_550_88 : decode prog_14_method_159_code 88 = .ok (.aload_n 0, 1) := by decide +kernel
theorem zd_550_89 : decode prog_14_method_159_code 89 = .ok (.invokevirtual 1432, 3) := by decide +kernel
theorem zd_550_92 : decode prog_14_method_159_code 92 = .ok (.goto 47, 3) := by decide +kernel
theorem zd_550_95 : decode prog_14_method_159_code 95 = .ok (.aload_n 0, 1) := by decide +kernel
theorem zd_550_96 : decode prog_14_method_159_code 96 = .ok (.invokevirtual 1336, 3) := by decide +kernel
theorem zd_550_99 : decode prog_14_method_159_code 99 = .ok (.aload_n 0, 1) := by decide +kernel
theorem zd_550_100 : decode prog_14_method_159_code 100 = .ok (.getfield 1228, 3) := by decide +kernel
theorem zd_550_103 : decode prog_14_method_159_code 103 = .ok (.ifCond .ne 9, 3) := by decide +kernel
theorem zd_550_106 : decode prog_14_method_159_code 106 = .ok (.aload_n 0, 1) := by decide +kernel
theorem zd_550_107 : decode prog_14_method_159_code 107 = .ok (.iconst 1, 1) := by decide +kernel
theorem zd_550_108 : decode prog_14_method_159_code 108 = .ok (.invokevirtual 1216, 3) := by decide +kernel
theorem zd_550_112 : decode prog_14_method_159_code 112 = .ok (.aload_n 0, 1) := by decide +kernel
theorem zd_550_113 : decode prog_14_method_159_code 113 = .ok (.iload_n 1, 1) := by decide +kernel
theorem zd_550_114 : decode prog_14_method_159_code 114 = .ok (.invokevirtual 1435, 3) := by decide +kernel
theorem zd_550_117 : decode prog_14_method_159_code 117 = .ok (.goto 22, 3) := by decide +kernel
theorem zd_550_120 : decode prog_14_method_159_code 120 = .ok (.aload_n 0, 1) := by decide +kernel
theorem zd_550_121 : decode prog_14_method_159_code 121 = .ok (.invokevirtual 1438, 3) := by decide +kernel
theorem zd_550_124 : decode prog_14_method_159_code 124 = .ok (.goto 15, 3) := by decide +kernel
theorem zd_550_127 : decode prog_14_method_159_code 127 = .ok (.aload_n 0, 1) := by decide +kernel
theorem zd_550_128 : decode prog_14_method_159_code 128 = .ok (.invokevirtual 1441, 3) := by decide +kernel
theorem zd_550_131 : decode prog_14_method_159_code 131 = .ok (.goto 8, 3) := by decide +kernel
theorem zd_550_134 : decode prog_14_method_159_code 134 = .ok (.aload_n 0, 1) := by decide +kernel
theorem zd_550_135 : decode prog_14_method_159_code 135 = .ok (.iconst 5, 1) := by decide +kernel
theorem zd_550_136 : decode prog_14_method_159_code 136 = .ok (.invokevirtual 1216, 3) := by decide +kernel
theorem zd_551_0 : decode prog_29_method_4_code 0 = .ok (.iload_n 0, 1) := by decide +kernel
theorem zd_551_1 : decode prog_29_method_4_code 1 = .ok (.ifCond .lt 14, 3) := by decide +kernel
theorem zd_551_4 : decode prog_29_method_4_code 4 = .ok (.iload_n 0, 1) := by decide +kernel
theorem zd_551_5 : decode prog_29_method_4_code 5 = .ok (.sipush 255, 3) := by decide +kernel
theorem zd_551_8 : decode prog_29_method_4_code 8 = .ok (.if_icmp .gt 7, 3) := by decide +kernel
theorem zd_551_11 : decode prog_29_method_4_code 11 = .ok (.iconst 1, 1) := by decide +kernel
theorem zd_551_12 : decode prog_29_method_4_code 12 = .ok (.goto 4, 3) := by decide +kernel
theorem zd_551_15 : decode prog_29_method_4_code 15 = .ok (.iconst 0, 1) := by decide +kernel
theorem zd_552_0 : decode prog_29_method_23_code 0 = .ok (.iload_n 1, 1) := by decide +kernel
theorem zd_552_1 : decode prog_29_method_23_code 1 = .ok (.i2b, 1) := by decide +kernel
theorem zd_552_2 : decode prog_29_method_23_code 2 = .ok (.istore 4, 2) := by decide +kernel
theorem zd_552_4 : decode prog_29_method_23_code 4 = .ok (.iload_n 2, 1) := by decide +kernel
theorem zd_552_5 : decode prog_29_method_23_code 5 = .ok (.istore 5, 2) := by decide +kernel
theorem zd_552_7 : decode prog_29_method_23_code 7 = .ok (.iload 5, 2) := by decide +kernel
theorem zd_552_9 : decode prog_29_method_23_code 9 = .ok (.iload_n 3, 1) := by decide +kernel
theorem zd_552_10 : decode prog_29_method_23_code 10 = .ok (.if_icmp .ge 21, 3) := by decide +kernel
theorem zd_552_13 : decode prog_29_method_23_code 13 = .ok (.aload_n 0, 1) := by decide +kernel
theorem zd_552_14 : decode prog_29_method_23_code 14 = .ok (.iload 5, 2) := by decide +kernel
theorem zd_552_16 : decode prog_29_method_23_code 16 = .ok (.baload, 1) := by decide +kernel
theorem zd_552_17 : decode prog_29_method_23_code 17 = .ok (.iload 4, 2) := by decide +kernel
theorem zd_552_19 : decode prog_29_method_23_code 19 = .ok (.if_icmp .ne 6, 3) := by decide +kernel
theorem zd_552_22 : decode prog_29_method_23_code 22 = .ok (.iload 5, 2) := by decide +kernel
theorem zd_552_25 : decode prog_29_method_23_code 25 = .ok (.iinc 5 1, 3) := by decide +kernel
theorem zd_552_28 : decode prog_29_method_23_code 28 = .ok (.goto (-21), 3) := by decide +kernel
theorem zd_552_31 : decode prog_29_method_23_code 31 = .ok (.iconst (-1), 1) := by decide +kernel
theorem zd_553_0 : decode prog_30_method_47_code 0 = .ok (.iload_n 2, 1) := by decide +kernel
theorem zd_553_1 : decode prog_30_method_47_code 1 = .ok (.iload_n 3, 1) := by decide +kernel
theorem zd_553_2 : decode prog_30_method_47_code 2 = .ok (.aload_n 0, 1) := by decide +kernel
theorem zd_553_3 : decode prog_30_method_47_code 3 = .ok (.invokestatic 96, 3) := by decide +kernel
theorem zd_553_6 : decode prog_30_method_47_code 6 = .ok (.aload_n 0, 1) := by decide +kernel
theorem zd_553_7 : decode prog_30_method_47_code 7 = .ok (.iload_n 1, 1) := by decide +kernel
theorem zd_553_8 : decode prog_30_method_47_code 8 = .ok (.iload_n 2, 1) := by decide +kernel
theorem zd_553_9 : decode prog_30_method_47_code 9 = .ok (.iload_n 3, 1) := by decide +kernel
theorem zd_553_10 : decode prog_30_method_47_code 10 = .ok (.invokestatic 244, 3) := by decide +kernel
theorem zd_554_0 : decode prog_30_method_49_code 0 = .ok (.iload_n 1, 1) := by decide +kernel
theorem zd_554_1 : decode prog_30_method_49_code 1 = .ok (.invokestatic 164, 3) := by decide +kernel
theorem zd_554_4 : decode prog_30_method_49_code 4 = .ok (.ifCond .eq 65, 3) := by decide +kernel
theorem zd_554_7 : decode prog_30_method_49_code 7 = .ok (.iload_n 1, 1) := by decide +kernel
theorem zd_554_8 : decode prog_30_method_49_code 8 = .ok (.invokestatic 157, 3) := by decide +kernel
theorem zd_554_11 : decode prog_30_method_49_code 11 = .ok (.istore 4, 2) := by decide +kernel
theorem zd_554_13 : decode prog_30_method_49_code 13 = .ok (.iload_n 1, 1) := by decide +kernel
theorem zd_554_14 : decode prog_30_method_49_code 14 = .ok (.invokestatic 161, 3) := by decide +kernel
theorem zd_554_17 : decode prog_30_method_49_code 17 = .ok (.istore 5, 2) := by decide +kernel
theorem zd_554_19 : decode prog_30_method_49_code 19 = .ok (.iload_n 2, 1) := by decide +kernel
theorem zd_554_20 : decode prog_30_method_49_code 20 = .ok (.iload_n 3, 1) := by decide +kernel
theorem zd_554_21 : decode prog_30_method_49_code 21 = .ok (.aload_n 0, 1) := by decide +kernel
theorem zd_554_22 : decode prog_30_method_49_code 22 = .ok (.invokestatic 96, 3) := by decide +kernel
theorem zd_554_25 : decode prog_30_method_49_code 25 = .ok (.iload_n 2, 1) := by decide +kernel
theorem zd_554_26 : decode prog_30_method_49_code 26 = .ok (.istore 6, 2) := by decide +kernel
theorem zd_554_28 : decode prog_30_method_49_code 28 = .ok (.iload 6, 2) := by decide +kernel
theorem zd_554_30 : decode prog_30_method_49_code 30 = .ok (.iload_n 3, 1) := by decide +kernel
theorem zd_554_31 : decode prog_30_method_49_code 31 = .ok (.iconst 1, 1) := by decide +kernel
theorem zd_554_32 : decode prog_30_method_49_code 32 = .ok (.isub, 1) := by decide +kernel
theorem zd_554_33 : decode prog_30_method_49_code 33 = .ok (.if_icmp .ge 36, 3) := by decide +kernel
theorem zd_554_36 : decode prog_30_method_49_code 36 = .ok (.aload_n 0, 1) := by decide +kernel
theorem zd_554_37 : decode prog_30_method_49_code 37 = .ok (.iload 6, 2) := by decide +kernel
theorem zd_554_39 : decode prog_30_method_49_code 39 = .ok (.invokestatic 71, 3) := by decide +kernel
theorem zd_554_42 : decode prog_30_method_49_code 42 = .ok (.iload 4, 2) := by decide +kernel
theorem zd_554_44 : decode prog_30_method_49_code 44 = .ok (.if_icmp .ne 19, 3) := by decide +kernel
theorem zd_554_47 : decode prog_30_method_49_code 47 = .ok (.aload_n 0, 1) := by decide +kernel
theorem zd_554_48 : decode prog_30_method_49_code 48 = .ok (.iload 6, 2) := by decide +kernel
theorem zd_554_50 : decode prog_30_method_49_code 50 = .ok (.iconst 1, 1) := by decide +kernel
theorem zd_554_51 : decode prog_30_method_49_code 51 = .ok (.iadd, 1) := by decide +kernel
theorem zd_554_52 : decode prog_30_method_49_code 52 = .ok (.invokestatic 71, 3) := by decide +kernel
theorem zd_554_55 : decode prog_30_method_49_code 55 = .ok (.iload 5, 2) := by decide +kernel
theorem zd_554_57 : decode prog_30_method_49_code 57 = .ok (.if_icmp .ne 6, 3) := by decide +kernel
theorem zd_554_60 : decode prog_30_method_49_code 60 = .ok (.iload 6, 2) := by decide +kernel
theorem zd_554_63 : decode prog_30_method_49_code 63 = .ok (.iinc 6 1, 3) := by decide +kernel
theorem zd_554_66 : decode prog_30_method_49_code 66 = .ok (.goto (-38), 3) := by decide +kernel
theorem zd_554_69 : decode prog_30_method_49_code 69 = .ok (.iconst (-1), 1) := by decide +kernel
theorem zd_555_0 : decode prog_10_method_37_code 0 = .ok (.aload_n 0, 1) := by decide +kernel
theorem zd_555_1 : decode prog_10_method_37_code 1 = .ok (.iload_n 1, 1) := by decide +kernel
theorem zd_555_2 : decode prog_10_method_37_code 2 = .ok (.invokevirtual 270, 3) := by decide +kernel
theorem zd_555_5 : decode prog_10_method_37_code 5 = .ok (.iconst 0, 1) := by decide +kernel
theorem zd_555_6 : decode prog_10_method_37_code 6 = .ok (.istore_n 2, 1) := by decide +kernel
theorem zd_555_7 : decode prog_10_method_37_code 7 = .ok (.iload_n 2, 1) := by decide +kernel
theorem zd_555_8 : decode prog_10_method_37_code 8 = .ok (.sipush 3000, 3) := by decide +kernel
theorem zd_555_11 : decode prog_10_method_37_code 11 = .ok (.if_icmp .gt 51, 3) := by decide +kernel
theorem zd_555_14 : decode prog_10_method_37_code 14 = .ok (.aload_n 0, 1) := by decide +kernel
theorem zd_555_15 : decode prog_10_method_37_code 15 = .ok (.invokevirtual 69, 3) := by decide +kernel
theorem zd_555_18 : decode prog_10_method_37_code 18 = .ok (.invokestatic 264, 3) := by decide +kernel
theorem zd_555_21 : decode prog_10_method_37_code 21 = .ok (.istore_n 3, 1) := by decide +kernel
theorem zd_555_22 : decode prog_10_method_37_code 22 = .ok (.iload_n 3, 1) := by decide +kernel
theorem zd_555_23 : decode prog_10_method_37_code 23 = .ok (.bipush 19, 2) := by decide +kernel
theorem zd_555_25 : decode prog_10_method_37_code 25 = .ok (.if_icmp .lt 9, 3) := by decide +kernel
theorem zd_555_28 : decode prog_10_method_37_code 28 = .ok (.iload_n 3, 1) := by decide +kernel
theorem zd_555_29 : decode prog_10_method_37_code 29 = .ok (.bipush 24, 2) := by decide +kernel
theorem zd_555_31 : decode prog_10_method_37_code 31 = .ok (.if_icmp .le 4, 3) := by decide +kernel
theorem zd_555_35 : decode prog_10_method_37_code 35 = .ok (.aload_n 0, 1) := by decide +kernel
theorem zd_555_36 : decode prog_10_method_37_code 36 = .ok (.invokevirtual 73, 3) := by decide +kernel
theorem zd_555_39 : decode prog_10_method_37_code 39 = .ok (.aload_n 0, 1) := by decide +kernel
theorem zd_555_40 : decode prog_10_method_37_code 40 = .ok (.iload_n 1, 1) := by decide +kernel
theorem zd_555_41 : decode prog_10_method_37_code 41 = .ok (.iconst 1, 1) := by decide +kernel
theorem zd_555_42 : decode prog_10_method_37_code 42 = .ok (.iadd, 1) := by decide +kernel
theorem zd_555_43 : decode prog_10_method_37_code 43 = .ok (.invokevirtual 270, 3) := by decide +kernel
theorem zd_555_46 : decode prog_10_method_37_code 46 = .ok (.aload_n 0, 1) := by decide +kernel
theorem zd_555_47 : decode prog_10_method_37_code 47 = .ok (.getfield 36, 3) := by decide +kernel
theorem zd_555_50 : decode prog_10_method_37_code 50 = .ok (.iload_n 3, 1) := by decide +kernel
theorem zd_555_51 : decode prog_10_method_37_code 51 = .ok (.iload_n 1, 1) := by decide +kernel
theorem zd_555_52 : decode prog_10_method_37_code 52 = .ok (.iconst 0, 1) := by decide +kernel
theorem zd_555_53 : decode prog_10_method_37_code 53 = .ok (.invokevirtual 169, 3) := by decide +kernel
theorem zd_555_56 : decode prog_10_method_37_code 56 = .ok (.iinc 2 1, 3) := by decide +kernel
theorem zd_555_59 : decode prog_10_method_37_code 59 = .ok (.goto (-52), 3) := by decide +kernel
theorem zd_556_0 : decode prog_36_method_28_code 0 = .ok (.iload_n 0, 1) := by decide +kernel
theorem zd_556_1 : decode prog_36_method_28_code 1 = .ok (.iload_n 1, 1) := by decide +kernel
theorem zd_556_2 : decode prog_36_method_28_code 2 = .ok (.iadd, 1) := by decide +kernel
theorem zd_556_3 : decode prog_36_method_28_code 3 = .ok (.istore_n 2, 1) := by decide +kernel
theorem zd_556_4 : decode prog_36_method_28_code 4 = .ok (.iload_n 2, 1) := by decide +kernel
theorem zd_556_5 : decode prog_36_method_28_code 5 = .ok (.ifCond .ge 44, 3) := by decide +kernel
theorem zd_556_49 : decode prog_36_method_28_code 49 = .ok (.iload_n 2, 1) := by decide +kernel
theorem zd_556_50 : decode prog_36_method_28_code 50 = .ok (.ldc 200, 2) := by decide +kernel
theorem zd_556_52 : decode prog_36_method_28_code 52 = .ok (.if_icmp .gt 6, 3) := by decide +kernel
theorem zd_556_55 : decode prog_36_method_28_code 55 = .ok (.ldc 200, 2) := by decide +kernel
theorem zd_556_58 : decode prog_36_method_28_code 58 = .ok (.iload_n 2, 1) := by decide +kernel
theorem zd_557_0 : decode prog_37_method_12_code 0 = .ok (.iload_n 0, 1) := by decide +kernel
theorem zd_557_1 : decode prog_37_method_12_code 1 = .ok (.ifCond .lt 13, 3) := by decide +kernel
theorem zd_557_4 : decode prog_37_method_12_code 4 = .ok (.iload_n 0, 1) := by decide +kernel
theorem zd_557_5 : decode prog_37_method_12_code 5 = .ok (.iload_n 1, 1) := by decide +kernel
theorem zd_557_6 : decode prog_37_method_12_code 6 = .ok (.if_icmp .gt 8, 3) := by decide +kernel
theorem zd_557_9 : decode prog_37_method_12_code 9 = .ok (.iload_n 1, 1) := by decide +kernel
theorem zd_557_10 : decode prog_37_method_12_code 10 = .ok (.iload_n 2, 1) := by decide +kernel
theorem zd_557_11 : decode prog_37_method_12_code 11 = .ok (.if_icmp .le 11, 3) := by decide +kernel
theorem zd_557_14 : decode prog_37_method_12_code 14 = .ok (.aload_n 3, 1) := by decide +kernel
theorem zd_557_15 : decode prog_37_method_12_code 15 = .ok (.iload_n 0, 1) := by decide +kernel
theorem zd_557_16 : decode prog_37_method_12_code 16 = .ok (.iload_n 1, 1) := by decide +kernel
theorem zd_557_17 : decode prog_37_method_12_code 17 = .ok (.iload_n 2, 1) := by decide +kernel
theorem zd_557_22 : decode prog_37_method_12_code 22 = .ok (.iload_n 0, 1) := by decide +kernel
theorem zd_558_0 : decode prog_30_method_94_code 0 = .ok (.iload_n 0, 1) := by decide +kernel
theorem zd_558_1 : decode prog_30_method_94_code 1 = .ok (.iload_n 1, 1) := by decide +kernel
theorem zd_558_2 : decode prog_30_method_94_code 2 = .ok (.aload_n 2, 1) := by decide +kernel
theorem zd_558_3 : decode prog_30_method_94_code 3 = .ok (.invokestatic 48, 3) := by decide +kernel
theorem zd_558_6 : decode prog_30_method_94_code 6 = .ok (.invokestatic 419, 3) := by decide +kernel
theorem zd_558_9 : decode prog_30_method_94_code 9 = .ok (.pop, 1) := by decide +kernel
theorem zd_559_0 : decode prog_14_method_32_code 0 = .ok (.aload_n 0, 1) := by decide +kernel
theorem zd_559_1 : decode prog_14_method_32_code 1 = .ok (.getfield 604, 3) := by decide +kernel
theorem zd_559_4 : decode prog_14_method_32_code 4 = .ok (.iconst 1, 1) := by decide +kernel
theorem zd_559_5 : decode prog_14_method_32_code 5 = .ok (.isub, 1) := by decide +kernel
theorem zd_559_6 : decode prog_14_method_32_code 6 = .ok (.istore_n 1, 1) := by decide +kernel
theorem zd_559_7 : decode prog_14_method_32_code 7 = .ok (.aload_n 0, 1) := by decide +kernel
theorem zd_559_8 : decode prog_14_method_32_code 8 = .ok (.getfield 244, 3) := by decide +kernel
theorem zd_559_11 : decode prog_14_method_32_code 11 = .ok (.iload_n 1, 1) := by decide +kernel
theorem zd_559_12 : decode prog_14_method_32_code 12 = .ok (.iaload, 1) := by decide +kernel
theorem zd_559_13 : decode prog_14_method_32_code 13 = .ok (.ifCond .le 14, 3) := by decide +kernel
theorem zd_559_16 : decode prog_14_method_32_code 16 = .ok (.aload_n 0, 1) := by decide +kernel
theorem zd_559_17 : decode prog_14_method_32_code 17 = .ok (.getfield 235, 3) := by decide +kernel
theorem zd_559_20 : decode prog_14_method_32_code 20 = .ok (.iload_n 1, 1) := by decide +kernel
theorem zd_559_21 : decode prog_14_method_32_code 21 = .ok (.iaload, 1) := by decide +kernel
theorem zd_559_22 : decode prog_14_method_32_code 22 = .ok (.iconst 1, 1) := by decide +kernel
theorem zd_559_23 : decode prog_14_method_32_code 23 = .ok (.iadd, 1) := by decide +kernel
theorem zd_559_24 : decode prog_14_method_32_code 24 = .ok (.goto 9, 3) := by decide +kernel
theorem zd_559_27 : decode prog_14_method_32_code 27 = .ok (.aload_n 0, 1) := by decide +kernel
theorem zd_559_28 : decode prog_14_method_32_code 28 = .ok (.getfield 235, 3) := by decide +kernel
theorem zd_559_31 : decode prog_14_method_32_code 31 = .ok (.iload_n 1, 1) := by decide +kernel
theorem zd_559_32 : decode prog_14_method_32_code 32 = .ok (.iaload, 1) := by decide +kernel
theorem zd_560_0 : decode prog_14_method_36_code 0 = .ok (.iload_n 0, 1) := by decide +kernel
theorem zd_560_1 : decode prog_14_method_36_code 1 = .ok (.bipush 42, 2) := by decide +kernel
theorem zd_560_3 : decode prog_14_method_36_code 3 = .ok (.if_icmp .eq 35, 3) := by decide +kernel
theorem zd_560_6 : decode prog_14_method_36_code 6 = .ok (.iload_n 0, 1) := by decide +kernel
theorem zd_560_7 : decode prog_14_method_36_code 7 = .ok (.bipush 47, 2) := by decide +kernel
theorem zd_560_9 : decode prog_14_method_36_code 9 = .ok (.if_icmp .eq 29, 3) := by decide +kernel
theorem zd_560_12 : decode prog_14_method_36_code 12 = .ok (.iload_n 0, 1) := by decide +kernel
theorem zd_560_13 : decode prog_14_method_36_code 13 = .ok (.bipush 37, 2) := by decide +kernel
theorem zd_560_15 : decode prog_14_method_36_code 15 = .ok (.if_icmp .eq 23, 3) := by decide +kernel
theorem zd_560_18 : decode prog_14_method_36_code 18 = .ok (.iload_n 0, 1) := by decide +kernel
theorem zd_560_19 : decode prog_14_method_36_code 19 = .ok (.bipush 38, 2) := by decide +kernel
theorem zd_560_21 : decode prog_14_method_36_code 21 = .ok (.if_icmp .eq 17, 3) := by decide +kernel
theorem zd_560_24 : decode prog_14_method_36_code 24 = .ok (.iload_n 0, 1) := by decide +kernel
theorem zd_560_25 : decode prog_14_method_36_code 25 = .ok (.sipush 131, 3) := by decide +kernel
theorem zd_560_28 : decode prog_14_method_36_code 28 = .ok (.if_icmp .eq 10, 3) := by decide +kernel
theorem zd_560_31 : decode prog_14_method_36_code 31 = .ok (.iload_n 0, 1) := by decide +kernel
theorem zd_560_32 : decode prog_14_method_36_code 32 = .ok (.sipush 132, 3) := by decide +kernel
theorem zd_560_35 : decode prog_14_method_36_code 35 = .ok (.if_icmp .ne 7, 3) := by decide +kernel
theorem zd_560_38 : decode prog_14_method_36_code 38 = .ok (.iconst 1, 1) := by decide +kernel
theorem zd_560_39 : decode prog_14_method_36_code 39 = .ok (.goto 4, 3) := by decide +kernel
theorem zd_560_42 : decode prog_14_method_36_code 42 = .ok (.iconst 0, 1) := by decide +kernel
theorem zd_561_0 : decode prog_14_method_37_code 0 = .ok (.iload_n 0, 1) := by decide +kernel
theorem zd_561_1 : decode prog_14_method_37_code 1 = .ok (.bipush 43, 2) := by decide +kernel
theorem zd_561_3 : decode prog_14_method_37_code 3 = .ok (.if_icmp .eq 21, 3) := by decide +kernel
theorem zd_561_6 : decode prog_14_method_37_code 6 = .ok (.iload_n 0, 1) := by decide +kernel
theorem zd_561_7 : decode prog_14_method_37_code 7 = .ok (.bipush 45, 2) := by decide +kernel
theorem zd_561_9 : decode prog_14_method_37_code 9 = .ok (.if_icmp .eq 15, 3) := by decide +kernel
theorem zd_561_12 : decode prog_14_method_37_code 12 = .ok (.iload_n 0, 1) := by decide +kernel
theorem zd_561_13 : decode prog_14_method_37_code 13 = .ok (.bipush 124, 2) := by decide +kernel
theorem zd_561_15 : decode prog_14_method_37_code 15 = .ok (.if_icmp .eq 9, 3) := by decide +kernel
theorem zd_561_18 : decode prog_14_method_37_code 18 = .ok (.iload_n 0, 1) := by decide +kernel
theorem zd_561_19 : decode prog_14_method_37_code 19 = .ok (.bipush 94, 2) := by decide +kernel
theorem zd_561_21 : decode prog_14_method_37_code 21 = .ok (.if_icmp .ne 7, 3) := by decide +kernel
theorem zd_561_24 : decode prog_14_method_37_code 24 = .ok (.iconst 1, 1) := by decide +kernel
theorem zd_561_25 : decode prog_14_method_37_code 25 = .ok (.goto 4, 3) := by decide +kernel
theorem zd_561_28 : decode prog_14_method_37_code 28 = .ok (.iconst 0, 1) := by decide +kernel
theorem zd_562_0 : decode prog_14_method_38_code 0 = .ok (.iload_n 0, 1) := by decide +kernel
theorem zd_562_1 : decode prog_14_method_38_code 1 = .ok (.sipush 128, 3) := by decide +kernel
theorem zd_562_4 : decode prog_14_method_38_code 4 = .ok (.if_icmp .eq 23, 3) := by decide +kernel
theorem zd_562_7 : decode prog_14_method_38_code 7 = .ok (.iload_n 0, 1) := by decide +kernel
theorem zd_562_8 : decode prog_14_method_38_code 8 = .ok (.sipush 129, 3) := by decide +kernel
theorem zd_562_11 : decode prog_14_method_38_code 11 = .ok (.if_icmp .eq 16, 3) := by decide +kernel
theorem zd_562_14 : decode prog_14_method_38_code 14 = .ok (.iload_n 0, 1) := by decide +kernel
theorem zd_562_15 : decode prog_14_method_38_code 15 = .ok (.bipush 60, 2) := by decide +kernel
theorem zd_562_17 : decode prog_14_method_38_code 17 = .ok (.if_icmp .eq 10, 3) := by decide +kernel
theorem zd_562_20 : decode prog_14_method_38_code 20 = .ok (.iload_n 0, 1) := by decide +kernel
theorem zd_562_21 : decode prog_14_method_38_code 21 = .ok (.sipush 130, 3) := by decide +kernel
theorem zd_562_24 : decode prog_14_method_38_code 24 = .ok (.if_icmp .ne 7, 3) := by decide +kernel
theorem zd_562_27 : decode prog_14_method_38_code 27 = .ok (.iconst 1, 1) := by decide +kernel
theorem zd_562_28 : decode prog_14_method_38_code 28 = .ok (.goto 4, 3) := by decide +kernel
theorem zd_562_31 : decode prog_14_method_38_code 31 = .ok (.iconst 0, 1) := by decide +kernel
theorem zd_563_0 : decode prog_14_method_115_code 0 = .ok (.aload_n 0, 1) := by decide +kernel
theorem zd_563_1 : decode prog_14_method_115_code 1 = .ok (.invokevirtual 1225, 3) := by decide +kernel
theorem zd_563_4 : decode prog_14_method_115_code 4 = .ok (.aload_n 0, 1) := by decide +kernel
theorem zd_563_5 : decode prog_14_method_115_code 5 = .ok (.invokevirtual 1222, 3) := by decide +kernel
theorem zd_563_8 : decode prog_14_method_115_code 8 = .ok (.bipush 36, 2) := by decide +kernel
theorem zd_563_10 : decode prog_14_method_115_code 10 = .ok (.if_icmp .eq 10, 3) := by decide +kernel
theorem zd_563_13 : decode prog_14_method_115_code 13 = .ok (.aload_n 0, 1) := by decide +kernel
theorem zd_563_14 : decode prog_14_method_115_code 14 = .ok (.iconst 0, 1) := by decide +kernel
theorem zd_563_15 : decode prog_14_method_115_code 15 = .ok (.putfield 1228, 3) := by decide +kernel
theorem zd_563_18 : decode prog_14_method_115_code 18 = .ok (.iconst 0, 1) := by decide +kernel
theorem zd_563_20 : decode prog_14_method_115_code 20 = .ok (.aload_n 0, 1) := by decide +kernel
theorem zd_563_21 : decode prog_14_method_115_code 21 = .ok (.dup, 1) := by decide +kernel
theorem zd_563_22 : decode prog_14_method_115_code 22 = .ok (.getfield 1219, 3) := by decide +kernel
theorem zd_563_25 : decode prog_14_method_115_code 25 = .ok (.iconst 1, 1) := by decide +kernel
theorem zd_563_26 : decode prog_14_method_115_code 26 = .ok (.iadd, 1) := by decide +kernel
theorem zd_563_27 : decode prog_14_method_115_code 27 = .ok (.putfield 1219, 3) := by decide +kernel
theorem zd_563_30 : decode prog_14_method_115_code 30 = .ok (.aload_n 0, 1) := by decide +kernel
theorem zd_563_31 : decode prog_14_method_115_code 31 = .ok (.getfield 1219, 3) := by decide +kernel
theorem zd_563_34 : decode prog_14_method_115_code 34 = .ok (.istore_n 1, 1) := by decide +kernel
theorem zd_563_35 : decode prog_14_method_115_code 35 = .ok (.lconst 0, 1) := by decide +kernel
theorem zd_563_36 : decode prog_14_method_115_code 36 = .ok (.lstore_n 2, 1) := by decide +kernel
theorem zd_563_37 : decode prog_14_method_115_code 37 = .ok (.iconst 0, 1) := by decide +kernel
theorem zd_563_38 : decode prog_14_method_115_code 38 = .ok (.istore 4, 2) := by decide +kernel
theorem zd_563_40 : decode prog_14_method_115_code 40 = .ok (.iconst 1, 1) := by decide +kernel
theorem zd_563_41 : decode prog_14_method_115_code 41 = .ok (.istore 5, 2) := by decide +kernel
theorem zd_563_43 : decode prog_14_method_115_code 43 = .ok (.aload_n 0, 1) := by decide +kernel
theorem zd_563_44 : decode prog_14_method_115_code 44 = .ok (.invokevirtual 1222, 3) := by decide +kernel
theorem zd_563_47 : decode prog_14_method_115_code 47 = .ok (.invokestatic 550, 3) := by decide +kernel
theorem zd_563_50 : decode prog_14_method_115_code 50 = .ok (.ifCond .ne 13, 3) := by decide +kernel
theorem zd_563_53 : decode prog_14_method_115_code 53 = .ok (.aload_n 0, 1) := by decide +kernel
theorem zd_563_54 : decode prog_14_method_115_code 54 = .ok (.invokevirtual 1222, 3) := by decide +kernel
theorem zd_563_57 : decode prog_14_method_115_code 57 = .ok (.invokestatic 553, 3) := by decide +kernel
theorem zd_563_60 : decode prog_14_method_115_code 60 = .ok (.ifCond .eq 109, 3) := by decide +kernel
theorem zd_563_63 : decode prog_14_method_115_code 63 = .ok (.aload_n 0, 1) := by decide +kernel
theorem zd_563_64 : decode prog_14_method_115_code 64 = .ok (.getfield 1219, 3) := by decide +kernel
theorem zd_563_67 : decode prog_14_method_115_code 67 = .ok (.iload_n 1, 1) := by decide +kernel
theorem zd_563_68 : decode prog_14_method_115_code 68 = .ok (.isub, 1) := by decide +kernel
theorem zd_563_69 : decode prog_14_method_115_code 69 = .ok (.bipush 8, 2) := by decide +kernel
theorem zd_563_71 : decode prog_14_method_115_code 71 = .ok (.if_icmp .ge 23, 3) := by decide +kernel
theorem zd_563_74 : decode prog_14_method_115_code 74 = .ok (.lload_n 2, 1) := by decide +kernel
theorem zd_563_75 : decode prog_14_method_115_code 75 = .ok (.aload_n 0, 1) := by decide +kernel
theorem zd_563_76 : decode prog_14_method_115_code 76 = .ok (.invokevirtual 1222, 3) := by decide +kernel
theorem zd_563_79 : decode prog_14_method_115_code 79 = .ok (.i2l, 1) := by decide +kernel
theorem zd_563_80 : decode prog_14_method_115_code 80 = .ok (.bipush 8, 2) := by decide +kernel
theorem zd_563_82 : decode prog_14_method_115_code 82 = .ok (.aload_n 0, 1) := by decide +kernel
theorem zd_563_83 : decode prog_14_method_115_code 83 = .ok (.getfield 1219, 3) := by decide +kernel
theorem zd_563_86 : decode prog_14_method_115_code 86 = .ok (.iload_n 1, 1) := by decide +kernel
theorem zd_563_87 : decode prog_14_method_115_code 87 = .ok (.isub, 1) := by decide +kernel
theorem zd_563_88 : decode prog_14_method_115_code 88 = .ok (.imul, 1) := by decide +kernel
theorem zd_563_89 : decode prog_14_method_115_code 89 = .ok (.lshl, 1) := by decide +kernel
theorem zd_563_90 : decode prog_14_method_115_code 90 = .ok (.lor, 1) := by decide +kernel
theorem zd_563_91 : decode prog_14_method_115_code 91 = .ok (.goto 4, 3) := by decide +kernel
theorem zd_563_94 : decode prog_14_method_115_code 94 = .ok (.lload_n 2, 1) := by decide +kernel
theorem zd_563_95 : decode prog_14_method_115_code 95 = .ok (.lstore_n 2, 1) := by decide +kernel
theorem zd_563_96 : decode prog_14_method_115_code 96 = .ok (.aload_n 0, 1) := by decide +kernel
theorem zd_563_97 : decode prog_14_method_115_code 97 = .ok (.invokevirtual 1222, 3) := by decide +kernel
theorem zd_563_100 : decode prog_14_method_115_code 100 = .ok (.invokestatic 553, 3) := by decide +kernel
theorem zd_563_103 : decode prog_14_method_115_code 103 = .ok (.ifCond .eq 27, 3) := by decide +kernel
theorem zd_563_106 : decode prog_14_method_115_code 106 = .ok (.iload 4, 2) := by decide +kernel
theorem zd_563_108 : decode prog_14_method_115_code 108 = .ok (.sipush 1000, 3) := by decide +kernel
theorem zd_563_111 : decode prog_14_method_115_code 111 = .ok (.if_icmp .ge 19, 3) := by decide +kernel
theorem zd_563_114 : decode prog_14_method_115_code 114 = .ok (.bipush 10, 2) := by decide +kernel
theorem zd_563_116 : decode prog_14_method_115_code 116 = .ok (.iload 4, 2) := by decide +kernel
theorem zd_563_118 : decode prog_14_method_115_code 118 = .ok (.imul, 1) := by decide +kernel
theorem zd_563_119 : decode prog_14_method_115_code 119 = .ok (.aload_n 0, 1) := by decide +kernel
theorem zd_563_120 : decode prog_14_method_115_code 120 = .ok (.invokevirtual 1222, 3) := by decide +kernel
theorem zd_563_123 : decode prog_14_method_115_code 123 = .ok (.iadd, 1) := by decide +kernel
theorem zd_563_124 : decode prog_14_method_115_code 124 = .ok (.bipush 48, 2) := by decide +kernel
theorem zd_563_126 : decode prog_14_method_115_code 126 = .ok (.isub, 1) := by decide +kernel
theorem zd_563_127 : decode prog_14_method_115_code 127 = .ok (.goto 5, 3) := by decide +kernel
theorem zd_563_130 : decode prog_14_method_115_code 130 = .ok (.iload 4, 2) := by decide +kernel
theorem zd_563_132 : decode prog_14_method_115_code 132 = .ok (.istore 4, 2) := by decide +kernel
theorem zd_563_134 : decode prog_14_method_115_code 134 = .ok (.iload 5, 2) := by decide +kernel
theorem zd_563_136 : decode prog_14_method_115_code 136 = .ok (.ifCond .eq 17, 3) := by decide +kernel
theorem zd_563_139 : decode prog_14_method_115_code 139 = .ok (.aload_n 0, 1) := by decide +kernel
theorem zd_563_140 : decode prog_14_method_115_code 140 = .ok (.invokevirtual 1222, 3) := by decide +kernel
theorem zd_563_143 : decode prog_14_method_115_code 143 = .ok (.invokestatic 553, 3) := by decide +kernel
theorem zd_563_146 : decode prog_14_method_115_code 146 = .ok (.ifCond .eq 7, 3) := by decide +kernel
theorem zd_563_149 : decode prog_14_method_115_code 149 = .ok (.iconst 1, 1) := by decide +kernel
theorem zd_563_150 : decode prog_14_method_115_code 150 = .ok (.goto 4, 3) := by decide +kernel
theorem zd_563_153 : decode prog_14_method_115_code 153 = .ok (.iconst 0, 1) := by decide +kernel
theorem zd_563_154 : decode prog_14_method_115_code 154 = .ok (.istore 5, 2) := by decide +kernel
theorem zd_563_156 : decode prog_14_method_115_code 156 = .ok (.aload_n 0, 1) := by decide +kernel
theorem zd_563_157 : decode prog_14_method_115_code 157 = .ok (.dup, 1) := by decide +kernel
theorem zd_563_158 : decode prog_14_method_115_code 158 = .ok (.getfield 1219, 3) := by decide +kernel
theorem zd_563_161 : decode prog_14_method_115_code 161 = .ok (.iconst 1, 1) := by decide +kernel
theorem zd_563_162 : decode prog_14_method_115_code 162 = .ok (.iadd, 1) := by decide +kernel
theorem zd_563_163 : decode prog_14_method_115_code 163 = .ok (.putfield 1219, 3) := by decide +kernel
theorem zd_563_166 : decode prog_14_method_115_code 166 = .ok (.goto (-123), 3) := by decide +kernel
theorem zd_563_169 : decode prog_14_method_115_code 169 = .ok (.aload_n 0, 1) := by decide +kernel
theorem zd_563_170 : decode prog_14_method_115_code 170 = .ok (.getfield 1219, 3) := by decide +kernel
theorem zd_563_173 : decode prog_14_method_115_code 173 = .ok (.iload_n 1, 1) := by decide +kernel
theorem zd_563_174 : decode prog_14_method_115_code 174 = .ok (.isub, 1) := by decide +kernel
theorem zd_563_175 : decode prog_14_method_115_code 175 = .ok (.istore 6, 2) := by decide +kernel
theorem zd_563_177 : decode prog_14_method_115_code 177 = .ok (.iload 6, 2) := by decide +kernel
theorem zd_563_179 : decode prog_14_method_115_code 179 = .ok (.ifCond .le 54, 3) := by decide +kernel
theorem zd_563_182 : decode prog_14_method_115_code 182 = .ok (.iload 5, 2) := by decide +kernel
theorem zd_563_184 : decode prog_14_method_115_code 184 = .ok (.ifCond .eq 49, 3) := by decide +kernel
theorem zd_563_187 : decode prog_14_method_115_code 187 = .ok (.aload_n 0, 1) := by decide +kernel
theorem zd_563_188 : decode prog_14_method_115_code 188 = .ok (.aload_n 0, 1) := by decide +kernel
theorem zd_563_189 : decode prog_14_method_115_code 189 = .ok (.getfield 1228, 3) := by decide +kernel
theorem zd_563_192 : decode prog_14_method_115_code 192 = .ok (.ifCond .eq 31, 3) := by decide +kernel
theorem zd_563_195 : decode prog_14_method_115_code 195 = .ok (.iload 4, 2) := by decide +kernel
theorem zd_563_197 : decode prog_14_method_115_code 197 = .ok (.bipush 32, 2) := by decide +kernel
theorem zd_563_199 : decode prog_14_method_115_code 199 = .ok (.if_icmp .ge 24, 3) := by decide +kernel
theorem zd_563_202 : decode prog_14_method_115_code 202 = .ok (.iload 6, 2) := by decide +kernel
theorem zd_563_204 : decode prog_14_method_115_code 204 = .ok (.iconst 1, 1) := by decide +kernel
theorem zd_563_205 : decode prog_14_method_115_code 205 = .ok (.if_icmp .eq 14, 3) := by decide +kernel
theorem zd_563_208 : decode prog_14_method_115_code 208 = .ok (.aload_n 0, 1) := by decide +kernel
theorem zd_563_209 : decode prog_14_method_115_code 209 = .ok (.getfield 298, 3) := by decide +kernel
theorem zd_563_212 : decode prog_14_method_115_code 212 = .ok (.iload_n 1, 1) := by decide +kernel
theorem zd_563_213 : decode prog_14_method_115_code 213 = .ok (.iaload, 1) := by decide +kernel
theorem zd_563_214 : decode prog_14_method_115_code 214 = .ok (.bipush 48, 2) := by decide +kernel
theorem zd_563_216 : decode prog_14_method_115_code 216 = .ok (.if_icmp .eq 7, 3) := by decide +kernel
theorem zd_563_219 : decode prog_14_method_115_code 219 = .ok (.iconst 1, 1) := by decide +kernel
theorem zd_563_220 : decode prog_14_method_115_code 220 = .ok (.goto 4, 3) := by decide +kernel
theorem zd_563_223 : decode prog_14_method_115_code 223 = .ok (.iconst 0, 1) := by decide +kernel
theorem zd_563_224 : decode prog_14_method_115_code 224 = .ok (.putfield 1228, 3) := by decide +kernel
theorem zd_563_227 : decode prog_14_method_115_code 227 = .ok (.iload 4, 2) := by decide +kernel
theorem zd_563_229 : decode prog_14_method_115_code 229 = .ok (.bipush 31, 2) := by decide +kernel
theorem zd_563_231 : decode prog_14_method_115_code 231 = .ok (.iand, 1) := by decide +kernel
theorem zd_563_233 : decode prog_14_method_115_code 233 = .ok (.iload 6, 2) := by decide +kernel
theorem zd_563_235 : decode prog_14_method_115_code 235 = .ok (.ifCond .eq 10, 3) := by decide +kernel
theorem zd_563_238 : decode prog_14_method_115_code 238 = .ok (.iload 6, 2) := by decide +kernel
theorem zd_563_240 : decode prog_14_method_115_code 240 = .ok (.bipush 8, 2) := by decide +kernel
theorem zd_563_242 : decode prog_14_method_115_code 242 = .ok (.if_icmp .le 7, 3) := by decide +kernel
theorem zd_563_245 : decode prog_14_method_115_code 245 = .ok (.iconst (-1), 1) := by decide +kernel
theorem zd_563_246 : decode prog_14_method_115_code 246 = .ok (.goto 12, 3) := by decide +kernel
theorem zd_563_249 : decode prog_14_method_115_code 249 = .ok (.aload_n 0, 1) := by decide +kernel
theorem zd_563_250 : decode prog_14_method_115_code 250 = .ok (.lload_n 2, 1) := by decide +kernel
theorem zd_563_251 : decode prog_14_method_115_code 251 = .ok (.lconst 0, 1) := by decide +kernel
theorem zd_563_252 : decode prog_14_method_115_code 252 = .ok (.invokevirtual 536, 3) := by decide +kernel
theorem zd_563_255 : decode prog_14_method_115_code 255 = .ok (.bipush 93, 2) := by decide +kernel
theorem zd_563_257 : decode prog_14_method_115_code 257 = .ok (.isub, 1) := by decide +kernel
theorem zd_563_258 : decode prog_14_method_115_code 258 = .ok (.istore 7, 2) := by decide +kernel
theorem zd_563_260 : decode prog_14_method_115_code 260 = .ok (.aload_n 0, 1) := by decide +kernel
theorem zd_563_261 : decode prog_14_method_115_code 261 = .ok (.aload_n 0, 1) := by decide +kernel
theorem zd_563_262 : decode prog_14_method_115_code 262 = .ok (.getfield 1228, 3) := by decide +kernel
theorem zd_563_265 : decode prog_14_method_115_code 265 = .ok (.ifCond .eq 18, 3) := by decide +kernel
theorem zd_563_268 : decode prog_14_method_115_code 268 = .ok (.iload 7, 2) := by decide +kernel
theorem zd_563_270 : decode prog_14_method_115_code 270 = .ok (.iconst 0, 1) := by decide +kernel
theorem zd_563_271 : decode prog_14_method_115_code 271 = .ok (.bipush 31, 2) := by decide +kernel
theorem zd_563_273 : decode prog_14_method_115_code 273 = .ok (.invokestatic 504, 3) := by decide +kernel
theorem zd_563_276 : decode prog_14_method_115_code 276 = .ok (.ifCond .eq 7, 3) := by decide +kernel
theorem zd_563_279 : decode prog_14_method_115_code 279 = .ok (.iconst 1, 1) := by decide +kernel
theorem zd_563_280 : decode prog_14_method_115_code 280 = .ok (.goto 4, 3) := by decide +kernel
theorem zd_563_283 : decode prog_14_method_115_code 283 = .ok (.iconst 0, 1) := by decide +kernel
theorem zd_563_284 : decode prog_14_method_115_code 284 = .ok (.putfield 1228, 3) := by decide +kernel
theorem zd_563_287 : decode prog_14_method_115_code 287 = .ok (.iload 7, 2) := by decide +kernel
theorem zd_563_289 : decode prog_14_method_115_code 289 = .ok (.bipush 31, 2) := by decide +kernel
theorem zd_563_291 : decode prog_14_method_115_code 291 = .ok (.iand, 1) := by decide +kernel
theorem zd_564_0 : decode prog_14_method_111_code 0 = .ok (.aload_n 0, 1) := by decide +kernel
theorem zd_564_1 : decode prog_14_method_111_code 1 = .ok (.invokevirtual 1225, 3) := by decide +kernel
theorem zd_564_4 : decode prog_14_method_111_code 4 = .ok (.aload_n 0, 1) := by decide +kernel
theorem zd_564_5 : decode prog_14_method_111_code 5 = .ok (.aload_n 0, 1) := by decide +kernel
theorem zd_564_6 : decode prog_14_method_111_code 6 = .ok (.getfield 1228, 3) := by decide +kernel
theorem zd_564_9 : decode prog_14_method_111_code 9 = .ok (.ifCond .eq 15, 3) := by decide +kernel
theorem zd_564_12 : decode prog_14_method_111_code 12 = .ok (.aload_n 0, 1) := by decide +kernel
theorem zd_564_13 : decode prog_14_method_111_code 13 = .ok (.invokevirtual 1222, 3) := by decide +kernel
theorem zd_564_16 : decode prog_14_method_111_code 16 = .ok (.iload_n 1, 1) := by decide +kernel
theorem zd_564_17 : decode prog_14_method_111_code 17 = .ok (.if_icmp .ne 7, 3) := by decide +kernel
theorem zd_564_20 : decode prog_14_method_111_code 20 = .ok (.iconst 1, 1) := by decide +kernel
theorem zd_564_21 : decode prog_14_method_111_code 21 = .ok (.goto 4, 3) := by decide +kernel
theorem zd_564_24 : decode prog_14_method_111_code 24 = .ok (.iconst 0, 1) := by decide +kernel
theorem zd_564_25 : decode prog_14_method_111_code 25 = .ok (.putfield 1228, 3) := by decide +kernel
theorem zd_564_28 : decode prog_14_method_111_code 28 = .ok (.aload_n 0, 1) := by decide +kernel
theorem zd_564_29 : decode prog_14_method_111_code 29 = .ok (.dup, 1) := by decide +kernel
theorem zd_564_30 : decode prog_14_method_111_code 30 = .ok (.getfield 1219, 3) := by decide +kernel
theorem zd_564_33 : decode prog_14_method_111_code 33 = .ok (.iconst 1, 1) := by decide +kernel
theorem zd_564_34 : decode prog_14_method_111_code 34 = .ok (.iadd, 1) := by decide +kernel
theorem zd_564_35 : decode prog_14_method_111_code 35 = .ok (.putfield 1219, 3) := by decide +kernel
theorem zd_565_0 : decode prog_14_method_121_code 0 = .ok (.aload_n 0, 1) := by decide +kernel
theorem zd_565_1 : decode prog_14_method_121_code 1 = .ok (.invokevirtual 1263, 3) := by decide +kernel
theorem zd_565_4 : decode prog_14_method_121_code 4 = .ok (.aload_n 0, 1) := by decide +kernel
theorem zd_565_5 : decode prog_14_method_121_code 5 = .ok (.aload_n 0, 1) := by decide +kernel
theorem zd_565_6 : decode prog_14_method_121_code 6 = .ok (.getfield 1228, 3) := by decide +kernel
theorem zd_565_9 : decode prog_14_method_121_code 9 = .ok (.ifCond .eq 36, 3) := by decide +kernel
theorem zd_565_12 : decode prog_14_method_121_code 12 = .ok (.iload_n 1, 1) := by decide +kernel
theorem zd_565_13 : decode prog_14_method_121_code 13 = .ok (.ifCond .eq 28, 3) := by decide +kernel
theorem zd_565_16 : decode prog_14_method_121_code 16 = .ok (.iload_n 1, 1) := by decide +kernel
theorem zd_565_17 : decode prog_14_method_121_code 17 = .ok (.iconst 1, 1) := by decide +kernel
theorem zd_565_18 : decode prog_14_method_121_code 18 = .ok (.if_icmp .ne 7, 3) := by decide +kernel
theorem zd_565_21 : decode prog_14_method_121_code 21 = .ok (.iconst 1, 1) := by decide +kernel
theorem zd_565_22 : decode prog_14_method_121_code 22 = .ok (.goto 4, 3) := by decide +kernel
theorem zd_565_25 : decode prog_14_method_121_code 25 = .ok (.iconst 0, 1) := by decide +kernel
theorem zd_565_26 : decode prog_14_method_121_code 26 = .ok (.aload_n 0, 1) := by decide +kernel
theorem zd_565_27 : decode prog_14_method_121_code 27 = .ok (.getfield 1234, 3) := by decide +kernel
theorem zd_565_30 : decode prog_14_method_121_code 30 = .ok (.ifCond .ne 7, 3) := by decide +kernel
theorem zd_565_33 : decode prog_14_method_121_code 33 = .ok (.iconst 1, 1) := by decide +kernel
theorem zd_565_34 : decode prog_14_method_121_code 34 = .ok (.goto 4, 3) := by decide +kernel
theorem zd_565_37 : decode prog_14_method_121_code 37 = .ok (.iconst 0, 1) := by decide +kernel
theorem zd_565_38 : decode prog_14_method_121_code 38 = .ok (.if_icmp .ne 7, 3) := by decide +kernel
theorem zd_565_41 : decode prog_14_method_121_code 41 = .ok (.iconst 1, 1) := by decide +kernel
theorem zd_565_42 : decode prog_14_method_121_code 42 = .ok (.goto 4, 3) := by decide +kernel
theorem zd_565_45 : decode prog_14_method_121_code 45 = .ok (.iconst 0, 1) := by decide +kernel
theorem zd_565_46 : decode prog_14_method_121_code 46 = .ok (.putfield 1228, 3) := by decide +kernel
theorem zd_565_49 : decode prog_14_method_121_code 49 = .ok (.aload_n 0, 1) := by decide +kernel
theorem zd_565_50 : decode prog_14_method_121_code 50 = .ok (.iconst 0, 1) := by decide +kernel
theorem zd_565_51 : decode prog_14_method_121_code 51 = .ok (.invokevirtual 1266, 3) := by decide +kernel
theorem zd_566_0 : decode prog_14_method_122_code 0 = .ok (.aload_n 0, 1) := by decide +kernel
theorem zd_566_1 : decode prog_14_method_122_code 1 = .ok (.invokevirtual 1225, 3) := by decide +kernel
theorem zd_566_4 : decode prog_14_method_122_code 4 = .ok (.aload_n 0, 1) := by decide +kernel
theorem zd_566_5 : decode prog_14_method_122_code 5 = .ok (.invokevirtual 1222, 3) := by decide +kernel
theorem zd_566_8 : decode prog_14_method_122_code 8 = .ok (.bipush 37, 2) := by decide +kernel
theorem zd_566_10 : decode prog_14_method_122_code 10 = .ok (.if_icmp .eq 5, 3) := by decide +kernel
theorem zd_566_13 : decode prog_14_method_122_code 13 = .ok (.iconst 0, 1) := by decide +kernel
theorem zd_566_15 : decode prog_14_method_122_code 15 = .ok (.aload_n 0, 1) := by decide +kernel
theorem zd_566_16 : decode prog_14_method_122_code 16 = .ok (.getfield 1219, 3) := by decide +kernel
theorem zd_566_19 : decode prog_14_method_122_code 19 = .ok (.iconst 2, 1) := by decide +kernel
theorem zd_566_20 : decode prog_14_method_122_code 20 = .ok (.iadd, 1) := by decide +kernel
theorem zd_566_21 : decode prog_14_method_122_code 21 = .ok (.aload_n 0, 1) := by decide +kernel
theorem zd_566_22 : decode prog_14_method_122_code 22 = .ok (.getfield 1204, 3) := by decide +kernel
theorem zd_566_25 : decode prog_14_method_122_code 25 = .ok (.if_icmp .ge 39, 3) := by decide +kernel
theorem zd_566_28 : decode prog_14_method_122_code 28 = .ok (.aload_n 0, 1) := by decide +kernel
theorem zd_566_29 : decode prog_14_method_122_code 29 = .ok (.getfield 298, 3) := by decide +kernel
theorem zd_566_32 : decode prog_14_method_122_code 32 = .ok (.aload_n 0, 1) := by decide +kernel
theorem zd_566_33 : decode prog_14_method_122_code 33 = .ok (.getfield 1219, 3) := by decide +kernel
theorem zd_566_36 : decode prog_14_method_122_code 36 = .ok (.iconst 1, 1) := by decide +kernel
theorem zd_566_37 : decode prog_14_method_122_code 37 = .ok (.iadd, 1) := by decide +kernel
theorem zd_566_38 : decode prog_14_method_122_code 38 = .ok (.iaload, 1) := by decide +kernel
theorem zd_566_39 : decode prog_14_method_122_code 39 = .ok (.bipush 104, 2) := by decide +kernel
theorem zd_566_41 : decode prog_14_method_122_code 41 = .ok (.if_icmp .ne 23, 3) := by decide +kernel
theorem zd_566_44 : decode prog_14_method_122_code 44 = .ok (.aload_n 0, 1) := by decide +kernel
theorem zd_566_45 : decode prog_14_method_122_code 45 = .ok (.getfield 298, 3) := by decide +kernel
theorem zd_566_48 : decode prog_14_method_122_code 48 = .ok (.aload_n 0, 1) := by decide +kernel
theorem zd_566_49 : decode prog_14_method_122_code 49 = .ok (.getfield 1219, 3) := by decide +kernel
theorem zd_566_52 : decode prog_14_method_122_code 52 = .ok (.iconst 2, 1) := by decide +kernel
theorem zd_566_53 : decode prog_14_method_122_code 53 = .ok (.iadd, 1) := by decide +kernel
theorem zd_566_54 : decode prog_14_method_122_code 54 = .ok (.iaload, 1) := by decide +kernel
theorem zd_566_55 : decode prog_14_method_122_code 55 = .ok (.bipush 105, 2) := by decide +kernel
theorem zd_566_57 : decode prog_14_method_122_code 57 = .ok (.if_icmp .ne 7, 3) := by decide +kernel
theorem zd_566_60 : decode prog_14_method_122_code 60 = .ok (.iconst 1, 1) := by decide +kernel
theorem zd_566_61 : decode prog_14_method_122_code 61 = .ok (.goto 4, 3) := by decide +kernel
theorem zd_566_64 : decode prog_14_method_122_code 64 = .ok (.iconst 0, 1) := by decide +kernel
theorem zd_566_65 : decode prog_14_method_122_code 65 = .ok (.istore_n 2, 1) := by decide +kernel
theorem zd_566_66 : decode prog_14_method_122_code 66 = .ok (.aload_n 0, 1) := by decide +kernel
theorem zd_566_67 : decode prog_14_method_122_code 67 = .ok (.getfield 1219, 3) := by decide +kernel
theorem zd_566_70 : decode prog_14_method_122_code 70 = .ok (.iconst 2, 1) := by decide +kernel
theorem zd_566_71 : decode prog_14_method_122_code 71 = .ok (.iadd, 1) := by decide +kernel
theorem zd_566_72 : decode prog_14_method_122_code 72 = .ok (.aload_n 0, 1) := by decide +kernel
theorem zd_566_73 : decode prog_14_method_122_code 73 = .ok (.getfield 1204, 3) := by decide +kernel
theorem zd_566_76 : decode prog_14_method_122_code 76 = .ok (.if_icmp .ge 39, 3) := by decide +kernel
theorem zd_566_79 : decode prog_14_method_122_code 79 = .ok (.aload_n 0, 1) := by decide +kernel
theorem zd_566_80 : decode prog_14_method_122_code 80 = .ok (.getfield 298, 3) := by decide +kernel
theorem zd_566_83 : decode prog_14_method_122_code 83 = .ok (.aload_n 0, 1) := by decide +kernel
theorem zd_566_84 : decode prog_14_method_122_code 84 = .ok (.getfield 1219, 3) := by decide +kernel
theorem zd_566_87 : decode prog_14_method_122_code 87 = .ok (.iconst 1, 1) := by decide +kernel
theorem zd_566_88 : decode prog_14_method_122_code 88 = .ok (.iadd, 1) := by decide +kernel
theorem zd_566_89 : decode prog_14_method_122_code 89 = .ok (.iaload, 1) := by decide +kernel
theorem zd_566_90 : decode prog_14_method_122_code 90 = .ok (.bipush 108, 2) := by decide +kernel
theorem zd_566_92 : decode prog_14_method_122_code 92 = .ok (.if_icmp .ne 23, 3) := by decide +kernel
theorem zd_566_95 : decode prog_14_method_122_code 95 = .ok (.aload_n 0, 1) := by decide +kernel
theorem zd_566_96 : decode prog_14_method_122_code 96 = .ok (.getfield 298, 3) := by decide +kernel
theorem zd_566_99 : decode prog_14_method_122_code 99 = .ok (.aload_n 0, 1) := by decide +kernel
theorem zd_566_100 : decode prog_14_method_122_code 100 = .ok (.getfield 1219, 3) := by decide +kernel
theorem zd_566_103 : decode prog_14_method_122_code 103 = .ok (.iconst 2, 1) := by decide +kernel
theorem zd_566_104 : decode prog_14_method_122_code 104 = .ok (.iadd, 1) := by decide +kernel
theorem zd_566_105 : decode prog_14_method_122_code 105 = .ok (.iaload, 1) := by decide +kernel
theorem zd_566_106 : decode prog_14_method_122_code 106 = .ok (.bipush 111, 2) := by decide +kernel
theorem zd_566_108 : decode prog_14_method_122_code 108 = .ok (.if_icmp .ne 7, 3) := by decide +kernel
theorem zd_566_111 : decode prog_14_method_122_code 111 = .ok (.iconst 1, 1) := by decide +kernel
theorem zd_566_112 : decode prog_14_method_122_code 112 = .ok (.goto 4, 3) := by decide +kernel
theorem zd_566_115 : decode prog_14_method_122_code 115 = .ok (.iconst 0, 1) := by decide +kernel
theorem zd_566_116 : decode prog_14_method_122_code 116 = .ok (.istore_n 3, 1) := by decide +kernel
theorem zd_566_117 : decode prog_14_method_122_code 117 = .ok (.aload_n 0, 1) := by decide +kernel
theorem zd_566_118 : decode prog_14_method_122_code 118 = .ok (.aload_n 0, 1) := by decide +kernel
theorem zd_566_119 : decode prog_14_method_122_code 119 = .ok (.getfield 1219, 3) := by decide +kernel
theorem zd_566_122 : decode prog_14_method_122_code 122 = .ok (.iconst 3, 1) := by decide +kernel
theorem zd_566_123 : decode prog_14_method_122_code 123 = .ok (.iadd, 1) := by decide +kernel
theorem zd_566_124 : decode prog_14_method_122_code 124 = .ok (.putfield 1219, 3) := by decide +kernel
theorem zd_566_127 : decode prog_14_method_122_code 127 = .ok (.aload_n 0, 1) := by decide +kernel
theorem zd_566_128 : decode prog_14_method_122_code 128 = .ok (.aload_n 0, 1) := by decide +kernel
theorem zd_566_129 : decode prog_14_method_122_code 129 = .ok (.getfield 1228, 3) := by decide +kernel
theorem zd_566_132 : decode prog_14_method_122_code 132 = .ok (.ifCond .eq 33, 3) := by decide +kernel
theorem zd_566_135 : decode prog_14_method_122_code 135 = .ok (.iload_n 1, 1) := by decide +kernel
theorem zd_566_136 : decode prog_14_method_122_code 136 = .ok (.iconst 1, 1) := by decide +kernel
theorem zd_566_137 : decode prog_14_method_122_code 137 = .ok (.if_icmp .ne 10, 3) := by decide +kernel
theorem zd_566_140 : decode prog_14_method_122_code 140 = .ok (.iload_n 2, 1) := by decide +kernel
theorem zd_566_141 : decode prog_14_method_122_code 141 = .ok (.ifCond .eq 24, 3) := by decide +kernel
theorem zd_566_144 : decode prog_14_method_122_code 144 = .ok (.goto 7, 3) := by decide +kernel
theorem zd_566_147 : decode prog_14_method_122_code 147 = .ok (.iload_n 3, 1) := by decide +kernel
theorem zd_566_148 : decode prog_14_method_122_code 148 = .ok (.ifCond .eq 17, 3) := by decide +kernel
theorem zd_566_151 : decode prog_14_method_122_code 151 = .ok (.aload_n 0, 1) := by decide +kernel
theorem zd_566_152 : decode prog_14_method_122_code 152 = .ok (.invokevirtual 1222, 3) := by decide +kernel
theorem zd_566_155 : decode prog_14_method_122_code 155 = .ok (.invokestatic 1201, 3) := by decide +kernel
theorem zd_566_158 : decode prog_14_method_122_code 158 = .ok (.ifCond .ne 7, 3) := by decide +kernel
theorem zd_566_161 : decode prog_14_method_122_code 161 = .ok (.iconst 1, 1) := by decide +kernel
theorem zd_566_162 : decode prog_14_method_122_code 162 = .ok (.goto 4, 3) := by decide +kernel
theorem zd_566_165 : decode prog_14_method_122_code 165 = .ok (.iconst 0, 1) := by decide +kernel
theorem zd_566_166 : decode prog_14_method_122_code 166 = .ok (.putfield 1228, 3) := by decide +kernel
theorem zd_566_169 : decode prog_14_method_122_code 169 = .ok (.aload_n 0, 1) := by decide +kernel
theorem zd_566_170 : decode prog_14_method_122_code 170 = .ok (.bipush 40, 2) := by decide +kernel
theorem zd_566_172 : decode prog_14_method_122_code 172 = .ok (.invokevirtual 1269, 3) := by decide +kernel
theorem zd_566_175 : decode prog_14_method_122_code 175 = .ok (.aload_n 0, 1) := by decide +kernel
theorem zd_566_176 : decode prog_14_method_122_code 176 = .ok (.invokevirtual 1263, 3) := by decide +kernel
theorem zd_566_179 : decode prog_14_method_122_code 179 = .ok (.aload_n 0, 1) := by decide +kernel
theorem zd_566_180 : decode prog_14_method_122_code 180 = .ok (.bipush 41, 2) := by decide +kernel
theorem zd_566_182 : decode prog_14_method_122_code 182 = .ok (.invokevirtual 1269, 3) := by decide +kernel
theorem zd_566_185 : decode prog_14_method_122_code 185 = .ok (.aload_n 0, 1) := by decide +kernel
theorem zd_566_186 : decode prog_14_method_122_code 186 = .ok (.iload_n 1, 1) := by decide +kernel
theorem zd_566_187 : decode prog_14_method_122_code 187 = .ok (.invokevirtual 1266, 3) := by decide +kernel
theorem zd_566_190 : decode prog_14_method_122_code 190 = .ok (.iconst 1, 1) := by decide +kernel
theorem zd_567_0 : decode prog_14_method_136_code 0 = .ok (.aload_n 0, 1) := by decide +kernel
theorem zd_567_1 : decode prog_14_method_136_code 1 = .ok (.aload_n 0, 1) := by decide +kernel
theorem zd_567_2 : decode prog_14_method_136_code 2 = .ok (.invokevirtual 1303, 3) := by decide +kernel
theorem zd_567_5 : decode prog_14_method_136_code 5 = .ok (.putfield 1312, 3) := by decide +kernel
theorem zd_567_8 : decode prog_14_method_136_code 8 = .ok (.aload_n 0, 1) := by decide +kernel
theorem zd_567_9 : decode prog_14_method_136_code 9 = .ok (.bipush 44, 2) := by decide +kernel
