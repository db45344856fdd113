theorem ld_law_435 : decode code 435 = .ok (.aload_n 0, 1) := by decide +kernel
theorem ld_law_436 : decode code 436 = .ok (.iload 4, 2) := by decide +kernel
theorem ld_law_438 : decode code 438 = .ok (.iconst 2, 1) := by decide +kernel
theorem ld_law_439 : decode code 439 = .ok (.iadd, 1) := by decide +kernel
theorem ld_law_440 : decode code 440 = .ok (.iaload, 1) := by decide +kernel
theorem ld_law_441 : decode code 441 = .ok (.aload_n 0, 1) := by decide +kernel
theorem ld_law_442 : decode code 442 = .ok (.iload 4, 2) := by decide +kernel
theorem ld_law_444 : decode code 444 = .ok (.iconst 3, 1) := by decide +kernel
theorem ld_law_445 : decode code 445 = .ok (.iadd, 1) := by decide +kernel
theorem ld_law_446 : decode code 446 = .ok (.iaload, 1) := by decide +kernel
theorem ld_law_447 : decode code 447 = .ok (.aload_n 0, 1) := by decide +kernel
theorem ld_law_448 : decode code 448 = .ok (.iload 4, 2) := by decide +kernel
theorem ld_law_450 : decode code 450 = .ok (.iconst 4, 1) := by decide +kernel
theorem ld_law_451 : decode code 451 = .ok (.iadd, 1) := by decide +kernel
theorem ld_law_452 : decode code 452 = .ok (.iaload, 1) := by decide +kernel
theorem ld_law_453 : decode code 453 = .ok (.aload_n 3, 1) := by decide +kernel
theorem ld_law_454 : decode code 454 = .ok (.invokestatic 80, 3) := by decide +kernel
theorem ld_law_457 : decode code 457 = .ok (.istore 5, 2) := by decide +kernel
theorem ld_law_459 : decode code 459 = .ok (.aload_n 2, 1) := by decide +kernel
theorem ld_law_460 : decode code 460 = .ok (.aload_n 0, 1) := by decide +kernel
theorem ld_law_461 : decode code 461 = .ok (.iload 4, 2) := by decide +kernel
theorem ld_law_463 : decode code 463 = .ok (.iconst 1, 1) := by decide +kernel
theorem ld_law_464 : decode code 464 = .ok (.iadd, 1) := by decide +kernel
theorem ld_law_465 : decode code 465 = .ok (.iaload, 1) := by decide +kernel
theorem ld_law_466 : decode code 466 = .ok (.aload_n 0, 1) := by decide +kernel
theorem ld_law_467 : decode code 467 = .ok (.iload 4, 2) := by decide +kernel
theorem ld_law_469 : decode code 469 = .ok (.iconst 2, 1) := by decide +kernel
theorem ld_law_470 : decode code 470 = .ok (.iadd, 1) := by decide +kernel
theorem ld_law_471 : decode code 471 = .ok (.iaload, 1) := by decide +kernel
theorem ld_law_472 : decode code 472 = .ok (.aload_n 0, 1) := by decide +kernel
theorem ld_law_473 : decode code 473 = .ok (.iload 4, 2) := by decide +kernel
theorem ld_law_475 : decode code 475 = .ok (.iconst 3, 1) := by decide +kernel
theorem ld_law_476 : decode code 476 = .ok (.iadd, 1) := by decide +kernel
theorem ld_law_477 : decode code 477 = .ok (.iaload, 1) := by decide +kernel
theorem ld_law_478 : decode code 478 = .ok (.aload_n 0, 1) := by decide +kernel
theorem ld_law_479 : decode code 479 = .ok (.iload 4, 2) := by decide +kernel
theorem ld_law_481 : decode code 481 = .ok (.iconst 4, 1) := by decide +kernel
theorem ld_law_482 : decode code 482 = .ok (.iadd, 1) := by decide +kernel
theorem ld_law_483 : decode code 483 = .ok (.iaload, 1) := by decide +kernel
theorem ld_law_484 : decode code 484 = .ok (.invokevirtual 83, 3) := by decide +kernel
theorem ld_law_487 : decode code 487 = .ok (.istore 6, 2) := by decide +kernel
theorem ld_law_489 : decode code 489 = .ok (.aload_n 2, 1) := by decide +kernel
theorem ld_law_490 : decode code 490 = .ok (.invokevirtual 48, 3) := by decide +kernel
theorem ld_law_493 : decode code 493 = .ok (.iload 5, 2) := by decide +kernel
theorem ld_law_495 : decode code 495 = .ok (.if_icmp .eq (5), 3) := by decide +kernel
theorem ld_law_498 : decode code 498 = .ok (.iconst 0, 1) := by decide +kernel
theorem ld_law_499 : decode code 499 = .ok (.ireturn, 1) := by decide +kernel
theorem ld_law_500 : decode code 500 = .ok (.iload 5, 2) := by decide +kernel
theorem ld_law_502 : decode code 502 = .ok (.ifCond .ne (15), 3) := by decide +kernel
theorem ld_law_505 : decode code 505 = .ok (.aload_n 3, 1) := by decide +kernel
theorem ld_law_506 : decode code 506 = .ok (.iconst 0, 1) := by decide +kernel
theorem ld_law_507 : decode code 507 = .ok (.laload, 1) := by decide +kernel
theorem ld_law_508 : decode code 508 = .ok (.iload 6, 2) := by decide +kernel
theorem ld_law_510 : decode code 510 = .ok (.i2l, 1) := by decide +kernel
theorem ld_law_511 : decode code 511 = .ok (.lcmp, 1) := by decide +kernel
theorem ld_law_512 : decode code 512 = .ok (.ifCond .eq (5), 3) := by decide +kernel
theorem ld_law_515 : decode code 515 = .ok (.iconst 0, 1) := by decide +kernel
theorem ld_law_516 : decode code 516 = .ok (.ireturn, 1) := by decide +kernel
theorem ld_law_517 : decode code 517 = .ok (.goto (233), 3) := by decide +kernel
theorem ld_law_520 : decode code 520 = .ok (.aload_n 1, 1) := by decide +kernel
