theorem d_Mo_validStep_574 : decode b_Mo_validStep 574 = .ok (.invokevirtual 237, 3) := by decide +kernel
theorem d_Mo_validStep_577 : decode b_Mo_validStep 577 = .ok (.goto 147, 3) := by decide +kernel
theorem d_Mo_validStep_580 : decode b_Mo_validStep 580 = .ok (.aload_n 0, 1) := by decide +kernel
theorem d_Mo_validStep_581 : decode b_Mo_validStep 581 = .ok (.aload_n 0, 1) := by decide +kernel
theorem d_Mo_validStep_582 : decode b_Mo_validStep 582 = .ok (.aload_n 0, 1) := by decide +kernel
theorem d_Mo_validStep_583 : decode b_Mo_validStep 583 = .ok (.getfield 227, 3) := by decide +kernel
theorem d_Mo_validStep_586 : decode b_Mo_validStep 586 = .ok (.aload_n 0, 1) := by decide +kernel
theorem d_Mo_validStep_587 : decode b_Mo_validStep 587 = .ok (.invokevirtual 103, 3) := by decide +kernel
theorem d_Mo_validStep_590 : decode b_Mo_validStep 590 = .ok (.i2l, 1) := by decide +kernel
theorem d_Mo_validStep_591 : decode b_Mo_validStep 591 = .ok (.invokevirtual 253, 3) := by decide +kernel
theorem d_Mo_validStep_594 : decode b_Mo_validStep 594 = .ok (.invokevirtual 215, 3) := by decide +kernel
theorem d_Mo_validStep_597 : decode b_Mo_validStep 597 = .ok (.pop, 1) := by decide +kernel
theorem d_Mo_validStep_598 : decode b_Mo_validStep 598 = .ok (.goto 126, 3) := by decide +kernel
theorem d_Mo_validStep_601 : decode b_Mo_validStep 601 = .ok (.aload_n 0, 1) := by decide +kernel
theorem d_Mo_validStep_602 : decode b_Mo_validStep 602 = .ok (.aload_n 0, 1) := by decide +kernel
theorem d_Mo_validStep_603 : decode b_Mo_validStep 603 = .ok (.getfield 227, 3) := by decide +kernel
theorem d_Mo_validStep_606 : decode b_Mo_validStep 606 = .ok (.aload_n 0, 1) := by decide +kernel
theorem d_Mo_validStep_607 : decode b_Mo_validStep 607 = .ok (.invokevirtual 103, 3) := by decide +kernel
theorem d_Mo_validStep_610 : decode b_Mo_validStep 610 = .ok (.i2l, 1) := by decide +kernel
theorem d_Mo_validStep_611 : decode b_Mo_validStep 611 = .ok (.invokevirtual 253, 3) := by decide +kernel
theorem d_Mo_validStep_614 : decode b_Mo_validStep 614 = .ok (.istore 8, 2) := by decide +kernel
theorem d_Mo_validStep_616 : decode b_Mo_validStep 616 = .ok (.aload_n 0, 1) := by decide +kernel
theorem d_Mo_validStep_617 : decode b_Mo_validStep 617 = .ok (.iload 8, 2) := by decide +kernel
theorem d_Mo_validStep_619 : decode b_Mo_validStep 619 = .ok (.invokevirtual 215, 3) := by decide +kernel
theorem d_Mo_validStep_622 : decode b_Mo_validStep 622 = .ok (.pop, 1) := by decide +kernel
theorem d_Mo_validStep_623 : decode b_Mo_validStep 623 = .ok (.aload_n 0, 1) := by decide +kernel
theorem d_Mo_validStep_624 : decode b_Mo_validStep 624 = .ok (.iload 8, 2) := by decide +kernel
theorem d_Mo_validStep_626 : decode b_Mo_validStep 626 = .ok (.invokevirtual 237, 3) := by decide +kernel
theorem d_Mo_validStep_629 : decode b_Mo_validStep 629 = .ok (.goto 95, 3) := by decide +kernel
theorem d_Mo_validStep_632 : decode b_Mo_validStep 632 = .ok (.aload_n 0, 1) := by decide +kernel
theorem d_Mo_validStep_633 : decode b_Mo_validStep 633 = .ok (.invokevirtual 103, 3) := by decide +kernel
theorem d_Mo_validStep_636 : decode b_Mo_validStep 636 = .ok (.istore 9, 2) := by decide +kernel
theorem d_Mo_validStep_638 : decode b_Mo_validStep 638 = .ok (.aload_n 0, 1) := by decide +kernel
theorem d_Mo_validStep_639 : decode b_Mo_validStep 639 = .ok (.iload 9, 2) := by decide +kernel
theorem d_Mo_validStep_641 : decode b_Mo_validStep 641 = .ok (.aload_n 0, 1) := by decide +kernel
theorem d_Mo_validStep_642 : decode b_Mo_validStep 642 = .ok (.getfield 27, 3) := by decide +kernel
theorem d_Mo_validStep_645 : decode b_Mo_validStep 645 = .ok (.getfield 66, 3) := by decide +kernel
theorem d_Mo_validStep_648 : decode b_Mo_validStep 648 = .ok (.if_icmp .ge 26, 3) := by decide +kernel
theorem d_Mo_validStep_651 : decode b_Mo_validStep 651 = .ok (.iload_n 1, 1) := by decide +kernel
theorem d_Mo_validStep_652 : decode b_Mo_validStep 652 = .ok (.bipush 35, 2) := by decide +kernel
theorem d_Mo_validStep_654 : decode b_Mo_validStep 654 = .ok (.if_icmp .eq 16, 3) := by decide +kernel
theorem d_Mo_validStep_657 : decode b_Mo_validStep 657 = .ok (.aload_n 0, 1) := by decide +kernel
theorem d_Mo_validStep_658 : decode b_Mo_validStep 658 = .ok (.getfield 27, 3) := by decide +kernel
theorem d_Mo_validStep_661 : decode b_Mo_validStep 661 = .ok (.getfield 142, 3) := by decide +kernel
theorem d_Mo_validStep_664 : decode b_Mo_validStep 664 = .ok (.iload 9, 2) := by decide +kernel
theorem d_Mo_validStep_666 : decode b_Mo_validStep 666 = .ok (.baload, 1) := by decide +kernel
theorem d_Mo_validStep_667 : decode b_Mo_validStep 667 = .ok (.ifCond .eq 7, 3) := by decide +kernel
theorem d_Mo_validStep_670 : decode b_Mo_validStep 670 = .ok (.iconst 1, 1) := by decide +kernel
theorem d_Mo_validStep_671 : decode b_Mo_validStep 671 = .ok (.goto 4, 3) := by decide +kernel
theorem d_Mo_validStep_674 : decode b_Mo_validStep 674 = .ok (.iconst 0, 1) := by decide +kernel
theorem d_Mo_validStep_675 : decode b_Mo_validStep 675 = .ok (.invokevirtual 186, 3) := by decide +kernel
theorem d_Mo_validStep_678 : decode b_Mo_validStep 678 = .ok (.iload_n 1, 1) := by decide +kernel
theorem d_Mo_validStep_679 : decode b_Mo_validStep 679 = .ok (.bipush 35, 2) := by decide +kernel
theorem d_Mo_validStep_681 : decode b_Mo_validStep 681 = .ok (.if_icmp .ne 20, 3) := by decide +kernel
theorem d_Mo_validStep_684 : decode b_Mo_validStep 684 = .ok (.aload_n 0, 1) := by decide +kernel
theorem d_Mo_validStep_685 : decode b_Mo_validStep 685 = .ok (.aload_n 0, 1) := by decide +kernel
theorem d_Mo_validStep_686 : decode b_Mo_validStep 686 = .ok (.getfield 27, 3) := by decide +kernel
theorem d_Mo_validStep_689 : decode b_Mo_validStep 689 = .ok (.getfield 139, 3) := by decide +kernel
theorem d_Mo_validStep_692 : decode b_Mo_validStep 692 = .ok (.iload 9, 2) := by decide +kernel
theorem d_Mo_validStep_694 : decode b_Mo_validStep 694 = .ok (.iaload, 1) := by decide +kernel
theorem d_Mo_validStep_695 : decode b_Mo_validStep 695 = .ok (.invokevirtual 237, 3) := by decide +kernel
theorem d_Mo_validStep_698 : decode b_Mo_validStep 698 = .ok (.goto 26, 3) := by decide +kernel
theorem d_Mo_validStep_701 : decode b_Mo_validStep 701 = .ok (.aload_n 0, 1) := by decide +kernel
theorem d_Mo_validStep_702 : decode b_Mo_validStep 702 = .ok (.aload_n 0, 1) := by decide +kernel
theorem d_Mo_validStep_703 : decode b_Mo_validStep 703 = .ok (.getfield 27, 3) := by decide +kernel
theorem d_Mo_validStep_706 : decode b_Mo_validStep 706 = .ok (.getfield 139, 3) := by decide +kernel
theorem d_Mo_validStep_709 : decode b_Mo_validStep 709 = .ok (.iload 9, 2) := by decide +kernel
theorem d_Mo_validStep_711 : decode b_Mo_validStep 711 = .ok (.iaload, 1) := by decide +kernel
theorem d_Mo_validStep_712 : decode b_Mo_validStep 712 = .ok (.invokevirtual 215, 3) := by decide +kernel
theorem d_Mo_validStep_715 : decode b_Mo_validStep 715 = .ok (.pop, 1) := by decide +kernel
theorem d_Mo_validStep_716 : decode b_Mo_validStep 716 = .ok (.goto 8, 3) := by decide +kernel
theorem d_Mo_validStep_719 : decode b_Mo_validStep 719 = .ok (.aload_n 0, 1) := by decide +kernel
theorem d_Mo_validStep_720 : decode b_Mo_validStep 720 = .ok (.iload_n 1, 1) := by decide +kernel
theorem d_Mo_validStep_721 : decode b_Mo_validStep 721 = .ok (.invokevirtual 257, 3) := by decide +kernel
theorem d_Mo_validStep_724 : decode b_Mo_validStep 724 = .ok (.return_, 1) := by decide +kernel
