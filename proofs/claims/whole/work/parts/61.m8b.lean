theorem d_Mo_step_466 : decode b_Mo_step 466 = .ok (.isub, 1) := by decide +kernel
theorem d_Mo_step_467 : decode b_Mo_step 467 = .ok (.putfield 263, 3) := by decide +kernel
theorem d_Mo_step_470 : decode b_Mo_step 470 = .ok (.iconst 1, 1) := by decide +kernel
theorem d_Mo_step_471 : decode b_Mo_step 471 = .ok (.ireturn, 1) := by decide +kernel
theorem d_Mo_step_472 : decode b_Mo_step 472 = .ok (.aload_n 0, 1) := by decide +kernel
theorem d_Mo_step_473 : decode b_Mo_step 473 = .ok (.invokevirtual 301, 3) := by decide +kernel
theorem d_Mo_step_476 : decode b_Mo_step 476 = .ok (.lconst 0, 1) := by decide +kernel
theorem d_Mo_step_477 : decode b_Mo_step 477 = .ok (.lcmp, 1) := by decide +kernel
theorem d_Mo_step_478 : decode b_Mo_step 478 = .ok (.ifCond .eq 7, 3) := by decide +kernel
theorem d_Mo_step_481 : decode b_Mo_step 481 = .ok (.iconst 1, 1) := by decide +kernel
theorem d_Mo_step_482 : decode b_Mo_step 482 = .ok (.goto 4, 3) := by decide +kernel
theorem d_Mo_step_485 : decode b_Mo_step 485 = .ok (.iconst 0, 1) := by decide +kernel
theorem d_Mo_step_486 : decode b_Mo_step 486 = .ok (.istore 6, 2) := by decide +kernel
theorem d_Mo_step_488 : decode b_Mo_step 488 = .ok (.aload_n 0, 1) := by decide +kernel
theorem d_Mo_step_489 : decode b_Mo_step 489 = .ok (.invokevirtual 301, 3) := by decide +kernel
theorem d_Mo_step_492 : decode b_Mo_step 492 = .ok (.lstore 7, 2) := by decide +kernel
theorem d_Mo_step_494 : decode b_Mo_step 494 = .ok (.iload 6, 2) := by decide +kernel
theorem d_Mo_step_496 : decode b_Mo_step 496 = .ok (.ifCond .ne 16, 3) := by decide +kernel
theorem d_Mo_step_499 : decode b_Mo_step 499 = .ok (.aload_n 0, 1) := by decide +kernel
theorem d_Mo_step_500 : decode b_Mo_step 500 = .ok (.getfield 270, 3) := by decide +kernel
theorem d_Mo_step_503 : decode b_Mo_step 503 = .ok (.aload_n 0, 1) := by decide +kernel
theorem d_Mo_step_504 : decode b_Mo_step 504 = .ok (.getfield 263, 3) := by decide +kernel
theorem d_Mo_step_507 : decode b_Mo_step 507 = .ok (.iconst 1, 1) := by decide +kernel
theorem d_Mo_step_508 : decode b_Mo_step 508 = .ok (.isub, 1) := by decide +kernel
theorem d_Mo_step_509 : decode b_Mo_step 509 = .ok (.lload 7, 2) := by decide +kernel
theorem d_Mo_step_511 : decode b_Mo_step 511 = .ok (.lastore, 1) := by decide +kernel
theorem d_Mo_step_512 : decode b_Mo_step 512 = .ok (.iconst 1, 1) := by decide +kernel
theorem d_Mo_step_513 : decode b_Mo_step 513 = .ok (.ireturn, 1) := by decide +kernel
theorem d_Mo_step_514 : decode b_Mo_step 514 = .ok (.aload_n 0, 1) := by decide +kernel
theorem d_Mo_step_515 : decode b_Mo_step 515 = .ok (.aload_n 0, 1) := by decide +kernel
theorem d_Mo_step_516 : decode b_Mo_step 516 = .ok (.getfield 270, 3) := by decide +kernel
theorem d_Mo_step_519 : decode b_Mo_step 519 = .ok (.aload_n 0, 1) := by decide +kernel
theorem d_Mo_step_520 : decode b_Mo_step 520 = .ok (.getfield 282, 3) := by decide +kernel
theorem d_Mo_step_523 : decode b_Mo_step 523 = .ok (.aload_n 0, 1) := by decide +kernel
theorem d_Mo_step_524 : decode b_Mo_step 524 = .ok (.getfield 273, 3) := by decide +kernel
theorem d_Mo_step_527 : decode b_Mo_step 527 = .ok (.iconst 1, 1) := by decide +kernel
theorem d_Mo_step_528 : decode b_Mo_step 528 = .ok (.isub, 1) := by decide +kernel
theorem d_Mo_step_529 : decode b_Mo_step 529 = .ok (.iaload, 1) := by decide +kernel
theorem d_Mo_step_530 : decode b_Mo_step 530 = .ok (.aload_n 0, 1) := by decide +kernel
theorem d_Mo_step_531 : decode b_Mo_step 531 = .ok (.invokevirtual 103, 3) := by decide +kernel
theorem d_Mo_step_534 : decode b_Mo_step 534 = .ok (.iadd, 1) := by decide +kernel
theorem d_Mo_step_535 : decode b_Mo_step 535 = .ok (.laload, 1) := by decide +kernel
theorem d_Mo_step_536 : decode b_Mo_step 536 = .ok (.invokevirtual 285, 3) := by decide +kernel
theorem d_Mo_step_539 : decode b_Mo_step 539 = .ok (.iconst 1, 1) := by decide +kernel
theorem d_Mo_step_540 : decode b_Mo_step 540 = .ok (.ireturn, 1) := by decide +kernel
theorem d_Mo_step_541 : decode b_Mo_step 541 = .ok (.aload_n 0, 1) := by decide +kernel
theorem d_Mo_step_542 : decode b_Mo_step 542 = .ok (.getfield 270, 3) := by decide +kernel
theorem d_Mo_step_545 : decode b_Mo_step 545 = .ok (.aload_n 0, 1) := by decide +kernel
theorem d_Mo_step_546 : decode b_Mo_step 546 = .ok (.getfield 282, 3) := by decide +kernel
theorem d_Mo_step_549 : decode b_Mo_step 549 = .ok (.aload_n 0, 1) := by decide +kernel
theorem d_Mo_step_550 : decode b_Mo_step 550 = .ok (.getfield 273, 3) := by decide +kernel
theorem d_Mo_step_553 : decode b_Mo_step 553 = .ok (.iconst 1, 1) := by decide +kernel
theorem d_Mo_step_554 : decode b_Mo_step 554 = .ok (.isub, 1) := by decide +kernel
theorem d_Mo_step_555 : decode b_Mo_step 555 = .ok (.iaload, 1) := by decide +kernel
theorem d_Mo_step_556 : decode b_Mo_step 556 = .ok (.aload_n 0, 1) := by decide +kernel
theorem d_Mo_step_557 : decode b_Mo_step 557 = .ok (.invokevirtual 103, 3) := by decide +kernel
theorem d_Mo_step_560 : decode b_Mo_step 560 = .ok (.iadd, 1) := by decide +kernel
theorem d_Mo_step_561 : decode b_Mo_step 561 = .ok (.aload_n 0, 1) := by decide +kernel
theorem d_Mo_step_562 : decode b_Mo_step 562 = .ok (.invokevirtual 301, 3) := by decide +kernel
theorem d_Mo_step_565 : decode b_Mo_step 565 = .ok (.lastore, 1) := by decide +kernel
theorem d_Mo_step_566 : decode b_Mo_step 566 = .ok (.iconst 1, 1) := by decide +kernel
theorem d_Mo_step_567 : decode b_Mo_step 567 = .ok (.ireturn, 1) := by decide +kernel
theorem d_Mo_step_568 : decode b_Mo_step 568 = .ok (.aload_n 0, 1) := by decide +kernel
theorem d_Mo_step_569 : decode b_Mo_step 569 = .ok (.getfield 270, 3) := by decide +kernel
theorem d_Mo_step_572 : decode b_Mo_step 572 = .ok (.aload_n 0, 1) := by decide +kernel
theorem d_Mo_step_573 : decode b_Mo_step 573 = .ok (.getfield 282, 3) := by decide +kernel
theorem d_Mo_step_576 : decode b_Mo_step 576 = .ok (.aload_n 0, 1) := by decide +kernel
theorem d_Mo_step_577 : decode b_Mo_step 577 = .ok (.getfield 273, 3) := by decide +kernel
theorem d_Mo_step_580 : decode b_Mo_step 580 = .ok (.iconst 1, 1) := by decide +kernel
theorem d_Mo_step_581 : decode b_Mo_step 581 = .ok (.isub, 1) := by decide +kernel
theorem d_Mo_step_582 : decode b_Mo_step 582 = .ok (.iaload, 1) := by decide +kernel
theorem d_Mo_step_583 : decode b_Mo_step 583 = .ok (.aload_n 0, 1) := by decide +kernel
theorem d_Mo_step_584 : decode b_Mo_step 584 = .ok (.invokevirtual 103, 3) := by decide +kernel
theorem d_Mo_step_587 : decode b_Mo_step 587 = .ok (.iadd, 1) := by decide +kernel
theorem d_Mo_step_588 : decode b_Mo_step 588 = .ok (.aload_n 0, 1) := by decide +kernel
theorem d_Mo_step_589 : decode b_Mo_step 589 = .ok (.getfield 270, 3) := by decide +kernel
theorem d_Mo_step_592 : decode b_Mo_step 592 = .ok (.aload_n 0, 1) := by decide +kernel
theorem d_Mo_step_593 : decode b_Mo_step 593 = .ok (.getfield 263, 3) := by decide +kernel
theorem d_Mo_step_596 : decode b_Mo_step 596 = .ok (.iconst 1, 1) := by decide +kernel
theorem d_Mo_step_597 : decode b_Mo_step 597 = .ok (.isub, 1) := by decide +kernel
theorem d_Mo_step_598 : decode b_Mo_step 598 = .ok (.laload, 1) := by decide +kernel
theorem d_Mo_step_599 : decode b_Mo_step 599 = .ok (.lastore, 1) := by decide +kernel
theorem d_Mo_step_600 : decode b_Mo_step 600 = .ok (.iconst 1, 1) := by decide +kernel
theorem d_Mo_step_601 : decode b_Mo_step 601 = .ok (.ireturn, 1) := by decide +kernel
theorem d_Mo_step_602 : decode b_Mo_step 602 = .ok (.aload_n 0, 1) := by decide +kernel
theorem d_Mo_step_603 : decode b_Mo_step 603 = .ok (.aload_n 0, 1) := by decide +kernel
theorem d_Mo_step_604 : decode b_Mo_step 604 = .ok (.getfield 333, 3) := by decide +kernel
theorem d_Mo_step_607 : decode b_Mo_step 607 = .ok (.aload_n 0, 1) := by decide +kernel
theorem d_Mo_step_608 : decode b_Mo_step 608 = .ok (.invokevirtual 103, 3) := by decide +kernel
theorem d_Mo_step_611 : decode b_Mo_step 611 = .ok (.laload, 1) := by decide +kernel
theorem d_Mo_step_612 : decode b_Mo_step 612 = .ok (.invokevirtual 285, 3) := by decide +kernel
theorem d_Mo_step_615 : decode b_Mo_step 615 = .ok (.iconst 1, 1) := by decide +kernel
theorem d_Mo_step_616 : decode b_Mo_step 616 = .ok (.ireturn, 1) := by decide +kernel
theorem d_Mo_step_617 : decode b_Mo_step 617 = .ok (.aload_n 0, 1) := by decide +kernel
theorem d_Mo_step_618 : decode b_Mo_step 618 = .ok (.getfield 333, 3) := by decide +kernel
theorem d_Mo_step_621 : decode b_Mo_step 621 = .ok (.aload_n 0, 1) := by decide +kernel
theorem d_Mo_step_622 : decode b_Mo_step 622 = .ok (.invokevirtual 103, 3) := by decide +kernel
theorem d_Mo_step_625 : decode b_Mo_step 625 = .ok (.aload_n 0, 1) := by decide +kernel
theorem d_Mo_step_626 : decode b_Mo_step 626 = .ok (.invokevirtual 301, 3) := by decide +kernel
theorem d_Mo_step_629 : decode b_Mo_step 629 = .ok (.lastore, 1) := by decide +kernel
theorem d_Mo_step_630 : decode b_Mo_step 630 = .ok (.iconst 1, 1) := by decide +kernel
theorem d_Mo_step_631 : decode b_Mo_step 631 = .ok (.ireturn, 1) := by decide +kernel
theorem d_Mo_step_632 : decode b_Mo_step 632 = .ok (.aload_n 0, 1) := by decide +kernel
theorem d_Mo_step_633 : decode b_Mo_step 633 = .ok (.aload_n 0, 1) := by decide +kernel
theorem d_Mo_step_634 : decode b_Mo_step 634 = .ok (.iload_n 1, 1) := by decide +kernel
theorem d_Mo_step_635 : decode b_Mo_step 635 = .ok (.bipush 65, 2) := by decide +kernel
theorem d_Mo_step_637 : decode b_Mo_step 637 = .ok (.if_icmp .ne 8, 3) := by decide +kernel
theorem d_Mo_step_640 : decode b_Mo_step 640 = .ok (.bipush 32, 2) := by decide +kernel
theorem d_Mo_step_642 : decode b_Mo_step 642 = .ok (.goto 5, 3) := by decide +kernel
theorem d_Mo_step_645 : decode b_Mo_step 645 = .ok (.bipush 64, 2) := by decide +kernel
