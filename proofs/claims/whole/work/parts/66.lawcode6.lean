theorem ld_law_521 : decode code 521 = .ok (.aload_n 0, 1) := by decide +kernel
theorem ld_law_522 : decode code 522 = .ok (.iload 4, 2) := by decide +kernel
theorem ld_law_524 : decode code 524 = .ok (.iconst 1, 1) := by decide +kernel
theorem ld_law_525 : decode code 525 = .ok (.iadd, 1) := by decide +kernel
theorem ld_law_526 : decode code 526 = .ok (.iaload, 1) := by decide +kernel
theorem ld_law_527 : decode code 527 = .ok (.aload_n 3, 1) := by decide +kernel
theorem ld_law_528 : decode code 528 = .ok (.invokestatic 84, 3) := by decide +kernel
theorem ld_law_531 : decode code 531 = .ok (.istore 5, 2) := by decide +kernel
theorem ld_law_533 : decode code 533 = .ok (.aload_n 2, 1) := by decide +kernel
theorem ld_law_534 : decode code 534 = .ok (.aload_n 0, 1) := by decide +kernel
theorem ld_law_535 : decode code 535 = .ok (.iload 4, 2) := by decide +kernel
theorem ld_law_537 : decode code 537 = .ok (.iconst 1, 1) := by decide +kernel
theorem ld_law_538 : decode code 538 = .ok (.iadd, 1) := by decide +kernel
theorem ld_law_539 : decode code 539 = .ok (.iaload, 1) := by decide +kernel
theorem ld_law_540 : decode code 540 = .ok (.invokevirtual 87, 3) := by decide +kernel
theorem ld_law_543 : decode code 543 = .ok (.istore 6, 2) := by decide +kernel
theorem ld_law_545 : decode code 545 = .ok (.aload_n 2, 1) := by decide +kernel
theorem ld_law_546 : decode code 546 = .ok (.invokevirtual 48, 3) := by decide +kernel
theorem ld_law_549 : decode code 549 = .ok (.iload 5, 2) := by decide +kernel
theorem ld_law_551 : decode code 551 = .ok (.if_icmp .eq (5), 3) := by decide +kernel
theorem ld_law_554 : decode code 554 = .ok (.iconst 0, 1) := by decide +kernel
theorem ld_law_555 : decode code 555 = .ok (.ireturn, 1) := by decide +kernel
theorem ld_law_556 : decode code 556 = .ok (.iload 5, 2) := by decide +kernel
theorem ld_law_558 : decode code 558 = .ok (.ifCond .ne (15), 3) := by decide +kernel
theorem ld_law_561 : decode code 561 = .ok (.aload_n 3, 1) := by decide +kernel
theorem ld_law_562 : decode code 562 = .ok (.iconst 0, 1) := by decide +kernel
theorem ld_law_563 : decode code 563 = .ok (.laload, 1) := by decide +kernel
theorem ld_law_564 : decode code 564 = .ok (.iload 6, 2) := by decide +kernel
theorem ld_law_566 : decode code 566 = .ok (.i2l, 1) := by decide +kernel
theorem ld_law_567 : decode code 567 = .ok (.lcmp, 1) := by decide +kernel
theorem ld_law_568 : decode code 568 = .ok (.ifCond .eq (5), 3) := by decide +kernel
theorem ld_law_571 : decode code 571 = .ok (.iconst 0, 1) := by decide +kernel
theorem ld_law_572 : decode code 572 = .ok (.ireturn, 1) := by decide +kernel
theorem ld_law_573 : decode code 573 = .ok (.goto (177), 3) := by decide +kernel
theorem ld_law_576 : decode code 576 = .ok (.aload_n 1, 1) := by decide +kernel
theorem ld_law_577 : decode code 577 = .ok (.aload_n 0, 1) := by decide +kernel
theorem ld_law_578 : decode code 578 = .ok (.iload 4, 2) := by decide +kernel
theorem ld_law_580 : decode code 580 = .ok (.iconst 1, 1) := by decide +kernel
theorem ld_law_581 : decode code 581 = .ok (.iadd, 1) := by decide +kernel
theorem ld_law_582 : decode code 582 = .ok (.iaload, 1) := by decide +kernel
theorem ld_law_583 : decode code 583 = .ok (.invokevirtual 88, 3) := by decide +kernel
theorem ld_law_586 : decode code 586 = .ok (.aload_n 2, 1) := by decide +kernel
theorem ld_law_587 : decode code 587 = .ok (.aload_n 0, 1) := by decide +kernel
theorem ld_law_588 : decode code 588 = .ok (.iload 4, 2) := by decide +kernel
theorem ld_law_590 : decode code 590 = .ok (.iconst 1, 1) := by decide +kernel
theorem ld_law_591 : decode code 591 = .ok (.iadd, 1) := by decide +kernel
theorem ld_law_592 : decode code 592 = .ok (.iaload, 1) := by decide +kernel
theorem ld_law_593 : decode code 593 = .ok (.invokevirtual 92, 3) := by decide +kernel
theorem ld_law_596 : decode code 596 = .ok (.if_icmp .eq (154), 3) := by decide +kernel
theorem ld_law_599 : decode code 599 = .ok (.iconst 0, 1) := by decide +kernel
theorem ld_law_600 : decode code 600 = .ok (.ireturn, 1) := by decide +kernel
theorem ld_law_601 : decode code 601 = .ok (.aload_n 1, 1) := by decide +kernel
theorem ld_law_602 : decode code 602 = .ok (.aload_n 0, 1) := by decide +kernel
theorem ld_law_603 : decode code 603 = .ok (.iload 4, 2) := by decide +kernel
theorem ld_law_605 : decode code 605 = .ok (.iconst 1, 1) := by decide +kernel
theorem ld_law_606 : decode code 606 = .ok (.iadd, 1) := by decide +kernel
theorem ld_law_607 : decode code 607 = .ok (.iaload, 1) := by decide +kernel
theorem ld_law_608 : decode code 608 = .ok (.invokevirtual 93, 3) := by decide +kernel
theorem ld_law_611 : decode code 611 = .ok (.aload_n 2, 1) := by decide +kernel
theorem ld_law_612 : decode code 612 = .ok (.aload_n 0, 1) := by decide +kernel
