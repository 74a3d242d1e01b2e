theorem d_Mo_sectionOf_497 : decode b_Mo_sectionOf 497 = .ok (.aload_n 0, 1) := by decide +kernel
theorem d_Mo_sectionOf_498 : decode b_Mo_sectionOf 498 = .ok (.aload_n 0, 1) := by decide +kernel
theorem d_Mo_sectionOf_499 : decode b_Mo_sectionOf 499 = .ok (.getfield 27, 3) := by decide +kernel
theorem d_Mo_sectionOf_502 : decode b_Mo_sectionOf 502 = .ok (.getfield 130, 3) := by decide +kernel
theorem d_Mo_sectionOf_505 : decode b_Mo_sectionOf 505 = .ok (.iload_n 3, 1) := by decide +kernel
theorem d_Mo_sectionOf_506 : decode b_Mo_sectionOf 506 = .ok (.iaload, 1) := by decide +kernel
theorem d_Mo_sectionOf_507 : decode b_Mo_sectionOf 507 = .ok (.ifCond .eq 29, 3) := by decide +kernel
theorem d_Mo_sectionOf_510 : decode b_Mo_sectionOf 510 = .ok (.aload_n 0, 1) := by decide +kernel
theorem d_Mo_sectionOf_511 : decode b_Mo_sectionOf 511 = .ok (.getfield 27, 3) := by decide +kernel
theorem d_Mo_sectionOf_514 : decode b_Mo_sectionOf 514 = .ok (.getfield 130, 3) := by decide +kernel
theorem d_Mo_sectionOf_517 : decode b_Mo_sectionOf 517 = .ok (.iload_n 3, 1) := by decide +kernel
theorem d_Mo_sectionOf_518 : decode b_Mo_sectionOf 518 = .ok (.iaload, 1) := by decide +kernel
theorem d_Mo_sectionOf_519 : decode b_Mo_sectionOf 519 = .ok (.iconst 2, 1) := by decide +kernel
theorem d_Mo_sectionOf_520 : decode b_Mo_sectionOf 520 = .ok (.if_icmp .eq 16, 3) := by decide +kernel
theorem d_Mo_sectionOf_523 : decode b_Mo_sectionOf 523 = .ok (.aload_n 0, 1) := by decide +kernel
theorem d_Mo_sectionOf_524 : decode b_Mo_sectionOf 524 = .ok (.getfield 27, 3) := by decide +kernel
theorem d_Mo_sectionOf_527 : decode b_Mo_sectionOf 527 = .ok (.getfield 130, 3) := by decide +kernel
theorem d_Mo_sectionOf_530 : decode b_Mo_sectionOf 530 = .ok (.iload_n 3, 1) := by decide +kernel
theorem d_Mo_sectionOf_531 : decode b_Mo_sectionOf 531 = .ok (.iaload, 1) := by decide +kernel
theorem d_Mo_sectionOf_532 : decode b_Mo_sectionOf 532 = .ok (.iconst 3, 1) := by decide +kernel
theorem d_Mo_sectionOf_533 : decode b_Mo_sectionOf 533 = .ok (.if_icmp .ne 7, 3) := by decide +kernel
theorem d_Mo_sectionOf_536 : decode b_Mo_sectionOf 536 = .ok (.iconst 1, 1) := by decide +kernel
theorem d_Mo_sectionOf_537 : decode b_Mo_sectionOf 537 = .ok (.goto 4, 3) := by decide +kernel
theorem d_Mo_sectionOf_540 : decode b_Mo_sectionOf 540 = .ok (.iconst 0, 1) := by decide +kernel
theorem d_Mo_sectionOf_541 : decode b_Mo_sectionOf 541 = .ok (.invokevirtual 23, 3) := by decide +kernel
theorem d_Mo_sectionOf_544 : decode b_Mo_sectionOf 544 = .ok (.aload_n 0, 1) := by decide +kernel
theorem d_Mo_sectionOf_545 : decode b_Mo_sectionOf 545 = .ok (.getfield 27, 3) := by decide +kernel
theorem d_Mo_sectionOf_548 : decode b_Mo_sectionOf 548 = .ok (.getfield 133, 3) := by decide +kernel
theorem d_Mo_sectionOf_551 : decode b_Mo_sectionOf 551 = .ok (.iload_n 3, 1) := by decide +kernel
theorem d_Mo_sectionOf_552 : decode b_Mo_sectionOf 552 = .ok (.aload_n 0, 1) := by decide +kernel
theorem d_Mo_sectionOf_553 : decode b_Mo_sectionOf 553 = .ok (.invokevirtual 103, 3) := by decide +kernel
theorem d_Mo_sectionOf_556 : decode b_Mo_sectionOf 556 = .ok (.i2l, 1) := by decide +kernel
theorem d_Mo_sectionOf_557 : decode b_Mo_sectionOf 557 = .ok (.lastore, 1) := by decide +kernel
theorem d_Mo_sectionOf_558 : decode b_Mo_sectionOf 558 = .ok (.iinc 3 1, 3) := by decide +kernel
theorem d_Mo_sectionOf_561 : decode b_Mo_sectionOf 561 = .ok (.goto (-165), 3) := by decide +kernel
theorem d_Mo_sectionOf_564 : decode b_Mo_sectionOf 564 = .ok (.goto 50, 3) := by decide +kernel
theorem d_Mo_sectionOf_567 : decode b_Mo_sectionOf 567 = .ok (.aload_n 0, 1) := by decide +kernel
theorem d_Mo_sectionOf_568 : decode b_Mo_sectionOf 568 = .ok (.getfield 27, 3) := by decide +kernel
theorem d_Mo_sectionOf_571 : decode b_Mo_sectionOf 571 = .ok (.aload_n 0, 1) := by decide +kernel
theorem d_Mo_sectionOf_572 : decode b_Mo_sectionOf 572 = .ok (.ldc2_w 97, 3) := by decide +kernel
theorem d_Mo_sectionOf_575 : decode b_Mo_sectionOf 575 = .ok (.invokevirtual 47, 3) := by decide +kernel
theorem d_Mo_sectionOf_578 : decode b_Mo_sectionOf 578 = .ok (.putfield 60, 3) := by decide +kernel
theorem d_Mo_sectionOf_581 : decode b_Mo_sectionOf 581 = .ok (.iconst 0, 1) := by decide +kernel
theorem d_Mo_sectionOf_582 : decode b_Mo_sectionOf 582 = .ok (.istore_n 3, 1) := by decide +kernel
theorem d_Mo_sectionOf_583 : decode b_Mo_sectionOf 583 = .ok (.iload_n 3, 1) := by decide +kernel
theorem d_Mo_sectionOf_584 : decode b_Mo_sectionOf 584 = .ok (.aload_n 0, 1) := by decide +kernel
theorem d_Mo_sectionOf_585 : decode b_Mo_sectionOf 585 = .ok (.getfield 27, 3) := by decide +kernel
theorem d_Mo_sectionOf_588 : decode b_Mo_sectionOf 588 = .ok (.getfield 60, 3) := by decide +kernel
theorem d_Mo_sectionOf_591 : decode b_Mo_sectionOf 591 = .ok (.if_icmp .ge 14, 3) := by decide +kernel
theorem d_Mo_sectionOf_594 : decode b_Mo_sectionOf 594 = .ok (.aload_n 0, 1) := by decide +kernel
theorem d_Mo_sectionOf_595 : decode b_Mo_sectionOf 595 = .ok (.iload_n 3, 1) := by decide +kernel
theorem d_Mo_sectionOf_596 : decode b_Mo_sectionOf 596 = .ok (.invokevirtual 136, 3) := by decide +kernel
theorem d_Mo_sectionOf_599 : decode b_Mo_sectionOf 599 = .ok (.iinc 3 1, 3) := by decide +kernel
theorem d_Mo_sectionOf_602 : decode b_Mo_sectionOf 602 = .ok (.goto (-19), 3) := by decide +kernel
theorem d_Mo_sectionOf_605 : decode b_Mo_sectionOf 605 = .ok (.goto 9, 3) := by decide +kernel
theorem d_Mo_sectionOf_608 : decode b_Mo_sectionOf 608 = .ok (.aload_n 0, 1) := by decide +kernel
theorem d_Mo_sectionOf_609 : decode b_Mo_sectionOf 609 = .ok (.iconst 1, 1) := by decide +kernel
theorem d_Mo_sectionOf_610 : decode b_Mo_sectionOf 610 = .ok (.invokevirtual 13, 3) := by decide +kernel
theorem d_Mo_sectionOf_613 : decode b_Mo_sectionOf 613 = .ok (.athrow, 1) := by decide +kernel
theorem d_Mo_sectionOf_614 : decode b_Mo_sectionOf 614 = .ok (.return_, 1) := by decide +kernel
