theorem d_Lw_law_602 : decode b_Lw_law 602 = .ok (.land, 1) := by decide +kernel
theorem d_Lw_law_603 : decode b_Lw_law 603 = .ok (.lor, 1) := by decide +kernel
theorem d_Lw_law_604 : decode b_Lw_law 604 = .ok (.aload_n 0, 1) := by decide +kernel
theorem d_Lw_law_605 : decode b_Lw_law 605 = .ok (.iload 4, 2) := by decide +kernel
theorem d_Lw_law_607 : decode b_Lw_law 607 = .ok (.iconst 3, 1) := by decide +kernel
theorem d_Lw_law_608 : decode b_Lw_law 608 = .ok (.iadd, 1) := by decide +kernel
theorem d_Lw_law_609 : decode b_Lw_law 609 = .ok (.iaload, 1) := by decide +kernel
theorem d_Lw_law_610 : decode b_Lw_law 610 = .ok (.invokevirtual 76, 3) := by decide +kernel
theorem d_Lw_law_613 : decode b_Lw_law 613 = .ok (.if_icmp .eq 491, 3) := by decide +kernel
theorem d_Lw_law_616 : decode b_Lw_law 616 = .ok (.iconst 0, 1) := by decide +kernel
theorem d_Lw_law_617 : decode b_Lw_law 617 = .ok (.ireturn, 1) := by decide +kernel
theorem d_Lw_law_618 : decode b_Lw_law 618 = .ok (.aload_n 1, 1) := by decide +kernel
theorem d_Lw_law_619 : decode b_Lw_law 619 = .ok (.aload_n 0, 1) := by decide +kernel
theorem d_Lw_law_620 : decode b_Lw_law 620 = .ok (.iload 4, 2) := by decide +kernel
theorem d_Lw_law_622 : decode b_Lw_law 622 = .ok (.iconst 1, 1) := by decide +kernel
theorem d_Lw_law_623 : decode b_Lw_law 623 = .ok (.iadd, 1) := by decide +kernel
theorem d_Lw_law_624 : decode b_Lw_law 624 = .ok (.iaload, 1) := by decide +kernel
theorem d_Lw_law_625 : decode b_Lw_law 625 = .ok (.aload_n 0, 1) := by decide +kernel
theorem d_Lw_law_626 : decode b_Lw_law 626 = .ok (.iload 4, 2) := by decide +kernel
theorem d_Lw_law_628 : decode b_Lw_law 628 = .ok (.iconst 2, 1) := by decide +kernel
theorem d_Lw_law_629 : decode b_Lw_law 629 = .ok (.iadd, 1) := by decide +kernel
theorem d_Lw_law_630 : decode b_Lw_law 630 = .ok (.iaload, 1) := by decide +kernel
theorem d_Lw_law_631 : decode b_Lw_law 631 = .ok (.aload_n 0, 1) := by decide +kernel
theorem d_Lw_law_632 : decode b_Lw_law 632 = .ok (.iload 4, 2) := by decide +kernel
theorem d_Lw_law_634 : decode b_Lw_law 634 = .ok (.iconst 3, 1) := by decide +kernel
theorem d_Lw_law_635 : decode b_Lw_law 635 = .ok (.iadd, 1) := by decide +kernel
theorem d_Lw_law_636 : decode b_Lw_law 636 = .ok (.iaload, 1) := by decide +kernel
theorem d_Lw_law_637 : decode b_Lw_law 637 = .ok (.i2l, 1) := by decide +kernel
theorem d_Lw_law_638 : decode b_Lw_law 638 = .ok (.bipush 32, 2) := by decide +kernel
theorem d_Lw_law_640 : decode b_Lw_law 640 = .ok (.lshl, 1) := by decide +kernel
theorem d_Lw_law_641 : decode b_Lw_law 641 = .ok (.aload_n 0, 1) := by decide +kernel
theorem d_Lw_law_642 : decode b_Lw_law 642 = .ok (.iload 4, 2) := by decide +kernel
theorem d_Lw_law_644 : decode b_Lw_law 644 = .ok (.iconst 4, 1) := by decide +kernel
theorem d_Lw_law_645 : decode b_Lw_law 645 = .ok (.iadd, 1) := by decide +kernel
theorem d_Lw_law_646 : decode b_Lw_law 646 = .ok (.iaload, 1) := by decide +kernel
theorem d_Lw_law_647 : decode b_Lw_law 647 = .ok (.i2l, 1) := by decide +kernel
theorem d_Lw_law_648 : decode b_Lw_law 648 = .ok (.ldc2_w 27, 3) := by decide +kernel
theorem d_Lw_law_651 : decode b_Lw_law 651 = .ok (.land, 1) := by decide +kernel
theorem d_Lw_law_652 : decode b_Lw_law 652 = .ok (.lor, 1) := by decide +kernel
theorem d_Lw_law_653 : decode b_Lw_law 653 = .ok (.invokevirtual 77, 3) := by decide +kernel
theorem d_Lw_law_656 : decode b_Lw_law 656 = .ok (.aload_n 2, 1) := by decide +kernel
theorem d_Lw_law_657 : decode b_Lw_law 657 = .ok (.aload_n 0, 1) := by decide +kernel
theorem d_Lw_law_658 : decode b_Lw_law 658 = .ok (.iload 4, 2) := by decide +kernel
theorem d_Lw_law_660 : decode b_Lw_law 660 = .ok (.iconst 1, 1) := by decide +kernel
theorem d_Lw_law_661 : decode b_Lw_law 661 = .ok (.iadd, 1) := by decide +kernel
theorem d_Lw_law_662 : decode b_Lw_law 662 = .ok (.iaload, 1) := by decide +kernel
theorem d_Lw_law_663 : decode b_Lw_law 663 = .ok (.aload_n 0, 1) := by decide +kernel
theorem d_Lw_law_664 : decode b_Lw_law 664 = .ok (.iload 4, 2) := by decide +kernel
theorem d_Lw_law_666 : decode b_Lw_law 666 = .ok (.iconst 2, 1) := by decide +kernel
theorem d_Lw_law_667 : decode b_Lw_law 667 = .ok (.iadd, 1) := by decide +kernel
theorem d_Lw_law_668 : decode b_Lw_law 668 = .ok (.iaload, 1) := by decide +kernel
theorem d_Lw_law_669 : decode b_Lw_law 669 = .ok (.aload_n 0, 1) := by decide +kernel
theorem d_Lw_law_670 : decode b_Lw_law 670 = .ok (.iload 4, 2) := by decide +kernel
theorem d_Lw_law_672 : decode b_Lw_law 672 = .ok (.iconst 3, 1) := by decide +kernel
theorem d_Lw_law_673 : decode b_Lw_law 673 = .ok (.iadd, 1) := by decide +kernel
theorem d_Lw_law_674 : decode b_Lw_law 674 = .ok (.iaload, 1) := by decide +kernel
theorem d_Lw_law_675 : decode b_Lw_law 675 = .ok (.i2l, 1) := by decide +kernel
theorem d_Lw_law_676 : decode b_Lw_law 676 = .ok (.bipush 32, 2) := by decide +kernel
theorem d_Lw_law_678 : decode b_Lw_law 678 = .ok (.lshl, 1) := by decide +kernel
theorem d_Lw_law_679 : decode b_Lw_law 679 = .ok (.aload_n 0, 1) := by decide +kernel
theorem d_Lw_law_680 : decode b_Lw_law 680 = .ok (.iload 4, 2) := by decide +kernel
theorem d_Lw_law_682 : decode b_Lw_law 682 = .ok (.iconst 4, 1) := by decide +kernel
theorem d_Lw_law_683 : decode b_Lw_law 683 = .ok (.iadd, 1) := by decide +kernel
theorem d_Lw_law_684 : decode b_Lw_law 684 = .ok (.iaload, 1) := by decide +kernel
theorem d_Lw_law_685 : decode b_Lw_law 685 = .ok (.i2l, 1) := by decide +kernel
theorem d_Lw_law_686 : decode b_Lw_law 686 = .ok (.ldc2_w 27, 3) := by decide +kernel
theorem d_Lw_law_689 : decode b_Lw_law 689 = .ok (.land, 1) := by decide +kernel
theorem d_Lw_law_690 : decode b_Lw_law 690 = .ok (.lor, 1) := by decide +kernel
theorem d_Lw_law_691 : decode b_Lw_law 691 = .ok (.invokevirtual 81, 3) := by decide +kernel
theorem d_Lw_law_694 : decode b_Lw_law 694 = .ok (.if_icmp .eq 410, 3) := by decide +kernel
theorem d_Lw_law_697 : decode b_Lw_law 697 = .ok (.iconst 0, 1) := by decide +kernel
theorem d_Lw_law_698 : decode b_Lw_law 698 = .ok (.ireturn, 1) := by decide +kernel
theorem d_Lw_law_699 : decode b_Lw_law 699 = .ok (.aload_n 1, 1) := by decide +kernel
theorem d_Lw_law_700 : decode b_Lw_law 700 = .ok (.aload_n 0, 1) := by decide +kernel
theorem d_Lw_law_701 : decode b_Lw_law 701 = .ok (.iload 4, 2) := by decide +kernel
theorem d_Lw_law_703 : decode b_Lw_law 703 = .ok (.iconst 1, 1) := by decide +kernel
theorem d_Lw_law_704 : decode b_Lw_law 704 = .ok (.iadd, 1) := by decide +kernel
theorem d_Lw_law_705 : decode b_Lw_law 705 = .ok (.iaload, 1) := by decide +kernel
theorem d_Lw_law_706 : decode b_Lw_law 706 = .ok (.invokevirtual 82, 3) := by decide +kernel
theorem d_Lw_law_709 : decode b_Lw_law 709 = .ok (.aload_n 2, 1) := by decide +kernel
theorem d_Lw_law_710 : decode b_Lw_law 710 = .ok (.aload_n 0, 1) := by decide +kernel
theorem d_Lw_law_711 : decode b_Lw_law 711 = .ok (.iload 4, 2) := by decide +kernel
theorem d_Lw_law_713 : decode b_Lw_law 713 = .ok (.iconst 1, 1) := by decide +kernel
theorem d_Lw_law_714 : decode b_Lw_law 714 = .ok (.iadd, 1) := by decide +kernel
theorem d_Lw_law_715 : decode b_Lw_law 715 = .ok (.iaload, 1) := by decide +kernel
theorem d_Lw_law_716 : decode b_Lw_law 716 = .ok (.invokevirtual 85, 3) := by decide +kernel
theorem d_Lw_law_719 : decode b_Lw_law 719 = .ok (.lcmp, 1) := by decide +kernel
theorem d_Lw_law_720 : decode b_Lw_law 720 = .ok (.ifCond .eq 384, 3) := by decide +kernel
theorem d_Lw_law_723 : decode b_Lw_law 723 = .ok (.iconst 0, 1) := by decide +kernel
theorem d_Lw_law_724 : decode b_Lw_law 724 = .ok (.ireturn, 1) := by decide +kernel
theorem d_Lw_law_725 : decode b_Lw_law 725 = .ok (.aload_n 1, 1) := by decide +kernel
theorem d_Lw_law_726 : decode b_Lw_law 726 = .ok (.aload_n 0, 1) := by decide +kernel
theorem d_Lw_law_727 : decode b_Lw_law 727 = .ok (.iload 4, 2) := by decide +kernel
theorem d_Lw_law_729 : decode b_Lw_law 729 = .ok (.iconst 1, 1) := by decide +kernel
theorem d_Lw_law_730 : decode b_Lw_law 730 = .ok (.iadd, 1) := by decide +kernel
theorem d_Lw_law_731 : decode b_Lw_law 731 = .ok (.iaload, 1) := by decide +kernel
theorem d_Lw_law_732 : decode b_Lw_law 732 = .ok (.aload_n 0, 1) := by decide +kernel
theorem d_Lw_law_733 : decode b_Lw_law 733 = .ok (.iload 4, 2) := by decide +kernel
theorem d_Lw_law_735 : decode b_Lw_law 735 = .ok (.iconst 2, 1) := by decide +kernel
theorem d_Lw_law_736 : decode b_Lw_law 736 = .ok (.iadd, 1) := by decide +kernel
theorem d_Lw_law_737 : decode b_Lw_law 737 = .ok (.iaload, 1) := by decide +kernel
theorem d_Lw_law_738 : decode b_Lw_law 738 = .ok (.invokevirtual 86, 3) := by decide +kernel
theorem d_Lw_law_741 : decode b_Lw_law 741 = .ok (.aload_n 2, 1) := by decide +kernel
theorem d_Lw_law_742 : decode b_Lw_law 742 = .ok (.aload_n 0, 1) := by decide +kernel
theorem d_Lw_law_743 : decode b_Lw_law 743 = .ok (.iload 4, 2) := by decide +kernel
theorem d_Lw_law_745 : decode b_Lw_law 745 = .ok (.iconst 1, 1) := by decide +kernel
theorem d_Lw_law_746 : decode b_Lw_law 746 = .ok (.iadd, 1) := by decide +kernel
theorem d_Lw_law_747 : decode b_Lw_law 747 = .ok (.iaload, 1) := by decide +kernel
theorem d_Lw_law_748 : decode b_Lw_law 748 = .ok (.aload_n 0, 1) := by decide +kernel
theorem d_Lw_law_749 : decode b_Lw_law 749 = .ok (.iload 4, 2) := by decide +kernel
theorem d_Lw_law_751 : decode b_Lw_law 751 = .ok (.iconst 2, 1) := by decide +kernel
theorem d_Lw_law_752 : decode b_Lw_law 752 = .ok (.iadd, 1) := by decide +kernel
theorem d_Lw_law_753 : decode b_Lw_law 753 = .ok (.iaload, 1) := by decide +kernel
theorem d_Lw_law_754 : decode b_Lw_law 754 = .ok (.invokevirtual 89, 3) := by decide +kernel
theorem d_Lw_law_757 : decode b_Lw_law 757 = .ok (.if_icmp .eq 347, 3) := by decide +kernel
theorem d_Lw_law_760 : decode b_Lw_law 760 = .ok (.iconst 0, 1) := by decide +kernel
theorem d_Lw_law_761 : decode b_Lw_law 761 = .ok (.ireturn, 1) := by decide +kernel
theorem d_Lw_law_762 : decode b_Lw_law 762 = .ok (.aload_n 1, 1) := by decide +kernel
theorem d_Lw_law_763 : decode b_Lw_law 763 = .ok (.aload_n 0, 1) := by decide +kernel
theorem d_Lw_law_764 : decode b_Lw_law 764 = .ok (.iload 4, 2) := by decide +kernel
theorem d_Lw_law_766 : decode b_Lw_law 766 = .ok (.iconst 1, 1) := by decide +kernel
theorem d_Lw_law_767 : decode b_Lw_law 767 = .ok (.iadd, 1) := by decide +kernel
theorem d_Lw_law_768 : decode b_Lw_law 768 = .ok (.iaload, 1) := by decide +kernel
theorem d_Lw_law_769 : decode b_Lw_law 769 = .ok (.aload_n 0, 1) := by decide +kernel
theorem d_Lw_law_770 : decode b_Lw_law 770 = .ok (.iload 4, 2) := by decide +kernel
