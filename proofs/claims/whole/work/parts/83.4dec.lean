theorem dL_law_510 : decode code 510 = .ok (.iadd, 1) := by decide +kernel
theorem dL_law_511 : decode code 511 = .ok (.iaload, 1) := by decide +kernel
theorem dL_law_512 : decode code 512 = .ok (.invokevirtual 65, 3) := by decide +kernel
theorem dL_law_515 : decode code 515 = .ok (.aload_n 2, 1) := by decide +kernel
theorem dL_law_516 : decode code 516 = .ok (.aload_n 0, 1) := by decide +kernel
theorem dL_law_517 : decode code 517 = .ok (.iload_n 3, 1) := by decide +kernel
theorem dL_law_518 : decode code 518 = .ok (.iconst 1, 1) := by decide +kernel
theorem dL_law_519 : decode code 519 = .ok (.iadd, 1) := by decide +kernel
theorem dL_law_520 : decode code 520 = .ok (.iaload, 1) := by decide +kernel
theorem dL_law_521 : decode code 521 = .ok (.aload_n 0, 1) := by decide +kernel
theorem dL_law_522 : decode code 522 = .ok (.iload_n 3, 1) := by decide +kernel
theorem dL_law_523 : decode code 523 = .ok (.iconst 2, 1) := by decide +kernel
theorem dL_law_524 : decode code 524 = .ok (.iadd, 1) := by decide +kernel
theorem dL_law_525 : decode code 525 = .ok (.iaload, 1) := by decide +kernel
theorem dL_law_526 : decode code 526 = .ok (.aload_n 0, 1) := by decide +kernel
theorem dL_law_527 : decode code 527 = .ok (.iload_n 3, 1) := by decide +kernel
theorem dL_law_528 : decode code 528 = .ok (.iconst 3, 1) := by decide +kernel
theorem dL_law_529 : decode code 529 = .ok (.iadd, 1) := by decide +kernel
theorem dL_law_530 : decode code 530 = .ok (.iaload, 1) := by decide +kernel
theorem dL_law_531 : decode code 531 = .ok (.invokevirtual 68, 3) := by decide +kernel
theorem dL_law_534 : decode code 534 = .ok (.if_icmp .eq 490, 3) := by decide +kernel
theorem dL_law_537 : decode code 537 = .ok (.iconst 0, 1) := by decide +kernel
theorem dL_law_538 : decode code 538 = .ok (.ireturn, 1) := by decide +kernel
theorem dL_law_539 : decode code 539 = .ok (.aload_n 1, 1) := by decide +kernel
theorem dL_law_540 : decode code 540 = .ok (.aload_n 0, 1) := by decide +kernel
theorem dL_law_541 : decode code 541 = .ok (.iload_n 3, 1) := by decide +kernel
theorem dL_law_542 : decode code 542 = .ok (.iconst 1, 1) := by decide +kernel
theorem dL_law_543 : decode code 543 = .ok (.iadd, 1) := by decide +kernel
theorem dL_law_544 : decode code 544 = .ok (.iaload, 1) := by decide +kernel
theorem dL_law_545 : decode code 545 = .ok (.aload_n 0, 1) := by decide +kernel
theorem dL_law_546 : decode code 546 = .ok (.iload_n 3, 1) := by decide +kernel
theorem dL_law_547 : decode code 547 = .ok (.iconst 2, 1) := by decide +kernel
theorem dL_law_548 : decode code 548 = .ok (.iadd, 1) := by decide +kernel
theorem dL_law_549 : decode code 549 = .ok (.iaload, 1) := by decide +kernel
theorem dL_law_550 : decode code 550 = .ok (.invokevirtual 69, 3) := by decide +kernel
theorem dL_law_553 : decode code 553 = .ok (.aload_n 2, 1) := by decide +kernel
theorem dL_law_554 : decode code 554 = .ok (.aload_n 0, 1) := by decide +kernel
theorem dL_law_555 : decode code 555 = .ok (.iload_n 3, 1) := by decide +kernel
theorem dL_law_556 : decode code 556 = .ok (.iconst 1, 1) := by decide +kernel
theorem dL_law_557 : decode code 557 = .ok (.iadd, 1) := by decide +kernel
theorem dL_law_558 : decode code 558 = .ok (.iaload, 1) := by decide +kernel
theorem dL_law_559 : decode code 559 = .ok (.aload_n 0, 1) := by decide +kernel
theorem dL_law_560 : decode code 560 = .ok (.iload_n 3, 1) := by decide +kernel
theorem dL_law_561 : decode code 561 = .ok (.iconst 2, 1) := by decide +kernel
theorem dL_law_562 : decode code 562 = .ok (.iadd, 1) := by decide +kernel
theorem dL_law_563 : decode code 563 = .ok (.iaload, 1) := by decide +kernel
theorem dL_law_564 : decode code 564 = .ok (.invokevirtual 72, 3) := by decide +kernel
theorem dL_law_567 : decode code 567 = .ok (.if_icmp .eq 457, 3) := by decide +kernel
theorem dL_law_570 : decode code 570 = .ok (.iconst 0, 1) := by decide +kernel
theorem dL_law_571 : decode code 571 = .ok (.ireturn, 1) := by decide +kernel
theorem dL_law_572 : decode code 572 = .ok (.aload_n 1, 1) := by decide +kernel
theorem dL_law_573 : decode code 573 = .ok (.aload_n 0, 1) := by decide +kernel
theorem dL_law_574 : decode code 574 = .ok (.iload_n 3, 1) := by decide +kernel
theorem dL_law_575 : decode code 575 = .ok (.iconst 1, 1) := by decide +kernel
theorem dL_law_576 : decode code 576 = .ok (.iadd, 1) := by decide +kernel
theorem dL_law_577 : decode code 577 = .ok (.iaload, 1) := by decide +kernel
theorem dL_law_578 : decode code 578 = .ok (.aload_n 0, 1) := by decide +kernel
theorem dL_law_579 : decode code 579 = .ok (.iload_n 3, 1) := by decide +kernel
theorem dL_law_580 : decode code 580 = .ok (.iconst 2, 1) := by decide +kernel
theorem dL_law_581 : decode code 581 = .ok (.iadd, 1) := by decide +kernel
theorem dL_law_582 : decode code 582 = .ok (.iaload, 1) := by decide +kernel
theorem dL_law_583 : decode code 583 = .ok (.invokevirtual 73, 3) := by decide +kernel
theorem dL_law_586 : decode code 586 = .ok (.aload_n 2, 1) := by decide +kernel
theorem dL_law_587 : decode code 587 = .ok (.aload_n 0, 1) := by decide +kernel
theorem dL_law_588 : decode code 588 = .ok (.iload_n 3, 1) := by decide +kernel
theorem dL_law_589 : decode code 589 = .ok (.iconst 1, 1) := by decide +kernel
theorem dL_law_590 : decode code 590 = .ok (.iadd, 1) := by decide +kernel
theorem dL_law_591 : decode code 591 = .ok (.iaload, 1) := by decide +kernel
theorem dL_law_592 : decode code 592 = .ok (.aload_n 0, 1) := by decide +kernel
theorem dL_law_593 : decode code 593 = .ok (.iload_n 3, 1) := by decide +kernel
theorem dL_law_594 : decode code 594 = .ok (.iconst 2, 1) := by decide +kernel
theorem dL_law_595 : decode code 595 = .ok (.iadd, 1) := by decide +kernel
theorem dL_law_596 : decode code 596 = .ok (.iaload, 1) := by decide +kernel
theorem dL_law_597 : decode code 597 = .ok (.invokevirtual 76, 3) := by decide +kernel
theorem dL_law_600 : decode code 600 = .ok (.if_icmp .eq 424, 3) := by decide +kernel
theorem dL_law_603 : decode code 603 = .ok (.iconst 0, 1) := by decide +kernel
theorem dL_law_604 : decode code 604 = .ok (.ireturn, 1) := by decide +kernel
theorem dL_law_605 : decode code 605 = .ok (.aload_n 1, 1) := by decide +kernel
theorem dL_law_606 : decode code 606 = .ok (.aload_n 0, 1) := by decide +kernel
theorem dL_law_607 : decode code 607 = .ok (.iload_n 3, 1) := by decide +kernel
theorem dL_law_608 : decode code 608 = .ok (.iconst 1, 1) := by decide +kernel
theorem dL_law_609 : decode code 609 = .ok (.iadd, 1) := by decide +kernel
theorem dL_law_610 : decode code 610 = .ok (.iaload, 1) := by decide +kernel
theorem dL_law_611 : decode code 611 = .ok (.invokevirtual 77, 3) := by decide +kernel
theorem dL_law_614 : decode code 614 = .ok (.aload_n 2, 1) := by decide +kernel
theorem dL_law_615 : decode code 615 = .ok (.aload_n 0, 1) := by decide +kernel
theorem dL_law_616 : decode code 616 = .ok (.iload_n 3, 1) := by decide +kernel
theorem dL_law_617 : decode code 617 = .ok (.iconst 1, 1) := by decide +kernel
theorem dL_law_618 : decode code 618 = .ok (.iadd, 1) := by decide +kernel
theorem dL_law_619 : decode code 619 = .ok (.iaload, 1) := by decide +kernel
theorem dL_law_620 : decode code 620 = .ok (.invokevirtual 80, 3) := by decide +kernel
theorem dL_law_623 : decode code 623 = .ok (.if_icmp .eq 401, 3) := by decide +kernel
theorem dL_law_626 : decode code 626 = .ok (.iconst 0, 1) := by decide +kernel
theorem dL_law_627 : decode code 627 = .ok (.ireturn, 1) := by decide +kernel
theorem dL_law_628 : decode code 628 = .ok (.aload_n 1, 1) := by decide +kernel
theorem dL_law_629 : decode code 629 = .ok (.aload_n 0, 1) := by decide +kernel
theorem dL_law_630 : decode code 630 = .ok (.iload_n 3, 1) := by decide +kernel
theorem dL_law_631 : decode code 631 = .ok (.iconst 1, 1) := by decide +kernel
theorem dL_law_632 : decode code 632 = .ok (.iadd, 1) := by decide +kernel
theorem dL_law_633 : decode code 633 = .ok (.iaload, 1) := by decide +kernel
