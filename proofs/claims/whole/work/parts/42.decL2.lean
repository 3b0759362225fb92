theorem d_L_law_578 : decode code 578 = .ok (.iconst 1, 1) := by decide +kernel
theorem d_L_law_579 : decode code 579 = .ok (.iadd, 1) := by decide +kernel
theorem d_L_law_580 : decode code 580 = .ok (.iaload, 1) := by decide +kernel
theorem d_L_law_581 : decode code 581 = .ok (.aload_n 0, 1) := by decide +kernel
theorem d_L_law_582 : decode code 582 = .ok (.iload_n 3, 1) := by decide +kernel
theorem d_L_law_583 : decode code 583 = .ok (.iconst 2, 1) := by decide +kernel
theorem d_L_law_584 : decode code 584 = .ok (.iadd, 1) := by decide +kernel
theorem d_L_law_585 : decode code 585 = .ok (.iaload, 1) := by decide +kernel
theorem d_L_law_586 : decode code 586 = .ok (.aload_n 0, 1) := by decide +kernel
theorem d_L_law_587 : decode code 587 = .ok (.iload_n 3, 1) := by decide +kernel
theorem d_L_law_588 : decode code 588 = .ok (.iconst 3, 1) := by decide +kernel
theorem d_L_law_589 : decode code 589 = .ok (.iadd, 1) := by decide +kernel
theorem d_L_law_590 : decode code 590 = .ok (.iaload, 1) := by decide +kernel
theorem d_L_law_591 : decode code 591 = .ok (.ifCond .eq 7, 3) := by decide +kernel
theorem d_L_law_594 : decode code 594 = .ok (.iconst 1, 1) := by decide +kernel
theorem d_L_law_595 : decode code 595 = .ok (.goto 4, 3) := by decide +kernel
theorem d_L_law_598 : decode code 598 = .ok (.iconst 0, 1) := by decide +kernel
theorem d_L_law_599 : decode code 599 = .ok (.invokevirtual 46, 3) := by decide +kernel
theorem d_L_law_602 : decode code 602 = .ok (.aload_n 2, 1) := by decide +kernel
theorem d_L_law_603 : decode code 603 = .ok (.aload_n 0, 1) := by decide +kernel
theorem d_L_law_604 : decode code 604 = .ok (.iload_n 3, 1) := by decide +kernel
theorem d_L_law_605 : decode code 605 = .ok (.iconst 1, 1) := by decide +kernel
theorem d_L_law_606 : decode code 606 = .ok (.iadd, 1) := by decide +kernel
theorem d_L_law_607 : decode code 607 = .ok (.iaload, 1) := by decide +kernel
theorem d_L_law_608 : decode code 608 = .ok (.aload_n 0, 1) := by decide +kernel
theorem d_L_law_609 : decode code 609 = .ok (.iload_n 3, 1) := by decide +kernel
theorem d_L_law_610 : decode code 610 = .ok (.iconst 2, 1) := by decide +kernel
theorem d_L_law_611 : decode code 611 = .ok (.iadd, 1) := by decide +kernel
theorem d_L_law_612 : decode code 612 = .ok (.iaload, 1) := by decide +kernel
theorem d_L_law_613 : decode code 613 = .ok (.aload_n 0, 1) := by decide +kernel
theorem d_L_law_614 : decode code 614 = .ok (.iload_n 3, 1) := by decide +kernel
theorem d_L_law_615 : decode code 615 = .ok (.iconst 3, 1) := by decide +kernel
theorem d_L_law_616 : decode code 616 = .ok (.iadd, 1) := by decide +kernel
theorem d_L_law_617 : decode code 617 = .ok (.iaload, 1) := by decide +kernel
theorem d_L_law_618 : decode code 618 = .ok (.ifCond .eq 7, 3) := by decide +kernel
theorem d_L_law_621 : decode code 621 = .ok (.iconst 1, 1) := by decide +kernel
theorem d_L_law_622 : decode code 622 = .ok (.goto 4, 3) := by decide +kernel
theorem d_L_law_625 : decode code 625 = .ok (.iconst 0, 1) := by decide +kernel
theorem d_L_law_626 : decode code 626 = .ok (.invokevirtual 50, 3) := by decide +kernel
theorem d_L_law_629 : decode code 629 = .ok (.if_icmp .eq 422, 3) := by decide +kernel
theorem d_L_law_632 : decode code 632 = .ok (.iconst 0, 1) := by decide +kernel
theorem d_L_law_633 : decode code 633 = .ok (.ireturn, 1) := by decide +kernel
theorem d_L_law_634 : decode code 634 = .ok (.aload_n 1, 1) := by decide +kernel
theorem d_L_law_635 : decode code 635 = .ok (.aload_n 0, 1) := by decide +kernel
theorem d_L_law_636 : decode code 636 = .ok (.iload_n 3, 1) := by decide +kernel
theorem d_L_law_637 : decode code 637 = .ok (.iconst 1, 1) := by decide +kernel
theorem d_L_law_638 : decode code 638 = .ok (.iadd, 1) := by decide +kernel
theorem d_L_law_639 : decode code 639 = .ok (.iaload, 1) := by decide +kernel
theorem d_L_law_640 : decode code 640 = .ok (.aload_n 0, 1) := by decide +kernel
theorem d_L_law_641 : decode code 641 = .ok (.iload_n 3, 1) := by decide +kernel
theorem d_L_law_642 : decode code 642 = .ok (.iconst 2, 1) := by decide +kernel
theorem d_L_law_643 : decode code 643 = .ok (.iadd, 1) := by decide +kernel
theorem d_L_law_644 : decode code 644 = .ok (.iaload, 1) := by decide +kernel
theorem d_L_law_645 : decode code 645 = .ok (.aload_n 0, 1) := by decide +kernel
theorem d_L_law_646 : decode code 646 = .ok (.iload_n 3, 1) := by decide +kernel
theorem d_L_law_647 : decode code 647 = .ok (.iconst 3, 1) := by decide +kernel
theorem d_L_law_648 : decode code 648 = .ok (.iadd, 1) := by decide +kernel
theorem d_L_law_649 : decode code 649 = .ok (.iaload, 1) := by decide +kernel
theorem d_L_law_650 : decode code 650 = .ok (.invokevirtual 51, 3) := by decide +kernel
theorem d_L_law_653 : decode code 653 = .ok (.aload_n 2, 1) := by decide +kernel
theorem d_L_law_654 : decode code 654 = .ok (.aload_n 0, 1) := by decide +kernel
theorem d_L_law_655 : decode code 655 = .ok (.iload_n 3, 1) := by decide +kernel
theorem d_L_law_656 : decode code 656 = .ok (.iconst 1, 1) := by decide +kernel
theorem d_L_law_657 : decode code 657 = .ok (.iadd, 1) := by decide +kernel
theorem d_L_law_658 : decode code 658 = .ok (.iaload, 1) := by decide +kernel
theorem d_L_law_659 : decode code 659 = .ok (.aload_n 0, 1) := by decide +kernel
theorem d_L_law_660 : decode code 660 = .ok (.iload_n 3, 1) := by decide +kernel
theorem d_L_law_661 : decode code 661 = .ok (.iconst 2, 1) := by decide +kernel
theorem d_L_law_662 : decode code 662 = .ok (.iadd, 1) := by decide +kernel
theorem d_L_law_663 : decode code 663 = .ok (.iaload, 1) := by decide +kernel
theorem d_L_law_664 : decode code 664 = .ok (.aload_n 0, 1) := by decide +kernel
theorem d_L_law_665 : decode code 665 = .ok (.iload_n 3, 1) := by decide +kernel
theorem d_L_law_666 : decode code 666 = .ok (.iconst 3, 1) := by decide +kernel
theorem d_L_law_667 : decode code 667 = .ok (.iadd, 1) := by decide +kernel
theorem d_L_law_668 : decode code 668 = .ok (.iaload, 1) := by decide +kernel
theorem d_L_law_669 : decode code 669 = .ok (.invokevirtual 55, 3) := by decide +kernel
theorem d_L_law_672 : decode code 672 = .ok (.if_icmp .eq 379, 3) := by decide +kernel
theorem d_L_law_675 : decode code 675 = .ok (.iconst 0, 1) := by decide +kernel
theorem d_L_law_676 : decode code 676 = .ok (.ireturn, 1) := by decide +kernel
theorem d_L_law_677 : decode code 677 = .ok (.aload_n 1, 1) := by decide +kernel
theorem d_L_law_678 : decode code 678 = .ok (.aload_n 0, 1) := by decide +kernel
theorem d_L_law_679 : decode code 679 = .ok (.iload_n 3, 1) := by decide +kernel
theorem d_L_law_680 : decode code 680 = .ok (.iconst 1, 1) := by decide +kernel
theorem d_L_law_681 : decode code 681 = .ok (.iadd, 1) := by decide +kernel
theorem d_L_law_682 : decode code 682 = .ok (.iaload, 1) := by decide +kernel
theorem d_L_law_683 : decode code 683 = .ok (.aload_n 0, 1) := by decide +kernel
theorem d_L_law_684 : decode code 684 = .ok (.iload_n 3, 1) := by decide +kernel
theorem d_L_law_685 : decode code 685 = .ok (.iconst 2, 1) := by decide +kernel
theorem d_L_law_686 : decode code 686 = .ok (.iadd, 1) := by decide +kernel
theorem d_L_law_687 : decode code 687 = .ok (.iaload, 1) := by decide +kernel
theorem d_L_law_688 : decode code 688 = .ok (.aload_n 0, 1) := by decide +kernel
theorem d_L_law_689 : decode code 689 = .ok (.iload_n 3, 1) := by decide +kernel
theorem d_L_law_690 : decode code 690 = .ok (.iconst 3, 1) := by decide +kernel
theorem d_L_law_691 : decode code 691 = .ok (.iadd, 1) := by decide +kernel
theorem d_L_law_692 : decode code 692 = .ok (.iaload, 1) := by decide +kernel
theorem d_L_law_693 : decode code 693 = .ok (.ifCond .eq 7, 3) := by decide +kernel
theorem d_L_law_696 : decode code 696 = .ok (.iconst 1, 1) := by decide +kernel
theorem d_L_law_697 : decode code 697 = .ok (.goto 4, 3) := by decide +kernel
theorem d_L_law_700 : decode code 700 = .ok (.iconst 0, 1) := by decide +kernel
theorem d_L_law_701 : decode code 701 = .ok (.invokevirtual 56, 3) := by decide +kernel
theorem d_L_law_704 : decode code 704 = .ok (.aload_n 2, 1) := by decide +kernel
theorem d_L_law_705 : decode code 705 = .ok (.aload_n 0, 1) := by decide +kernel
theorem d_L_law_706 : decode code 706 = .ok (.iload_n 3, 1) := by decide +kernel
theorem d_L_law_707 : decode code 707 = .ok (.iconst 1, 1) := by decide +kernel
theorem d_L_law_708 : decode code 708 = .ok (.iadd, 1) := by decide +kernel
theorem d_L_law_709 : decode code 709 = .ok (.iaload, 1) := by decide +kernel
theorem d_L_law_710 : decode code 710 = .ok (.aload_n 0, 1) := by decide +kernel
theorem d_L_law_711 : decode code 711 = .ok (.iload_n 3, 1) := by decide +kernel
theorem d_L_law_712 : decode code 712 = .ok (.iconst 2, 1) := by decide +kernel
theorem d_L_law_713 : decode code 713 = .ok (.iadd, 1) := by decide +kernel
theorem d_L_law_714 : decode code 714 = .ok (.iaload, 1) := by decide +kernel
theorem d_L_law_715 : decode code 715 = .ok (.aload_n 0, 1) := by decide +kernel
theorem d_L_law_716 : decode code 716 = .ok (.iload_n 3, 1) := by decide +kernel
theorem d_L_law_717 : decode code 717 = .ok (.iconst 3, 1) := by decide +kernel
theorem d_L_law_718 : decode code 718 = .ok (.iadd, 1) := by decide +kernel
theorem d_L_law_719 : decode code 719 = .ok (.iaload, 1) := by decide +kernel
theorem d_L_law_720 : decode code 720 = .ok (.ifCond .eq 7, 3) := by decide +kernel
theorem d_L_law_723 : decode code 723 = .ok (.iconst 1, 1) := by decide +kernel
theorem d_L_law_724 : decode code 724 = .ok (.goto 4, 3) := by decide +kernel
theorem d_L_law_727 : decode code 727 = .ok (.iconst 0, 1) := by decide +kernel
theorem d_L_law_728 : decode code 728 = .ok (.invokevirtual 59, 3) := by decide +kernel
theorem d_L_law_731 : decode code 731 = .ok (.if_icmp .eq 320, 3) := by decide +kernel
theorem d_L_law_734 : decode code 734 = .ok (.iconst 0, 1) := by decide +kernel
theorem d_L_law_735 : decode code 735 = .ok (.ireturn, 1) := by decide +kernel
theorem d_L_law_736 : decode code 736 = .ok (.aload_n 1, 1) := by decide +kernel
theorem d_L_law_737 : decode code 737 = .ok (.aload_n 0, 1) := by decide +kernel
theorem d_L_law_738 : decode code 738 = .ok (.iload_n 3, 1) := by decide +kernel
theorem d_L_law_739 : decode code 739 = .ok (.iconst 1, 1) := by decide +kernel
theorem d_L_law_740 : decode code 740 = .ok (.iadd, 1) := by decide +kernel
theorem d_L_law_741 : decode code 741 = .ok (.iaload, 1) := by decide +kernel
theorem d_L_law_742 : decode code 742 = .ok (.aload_n 0, 1) := by decide +kernel
theorem d_L_law_743 : decode code 743 = .ok (.iload_n 3, 1) := by decide +kernel
theorem d_L_law_744 : decode code 744 = .ok (.iconst 2, 1) := by decide +kernel
theorem d_L_law_745 : decode code 745 = .ok (.iadd, 1) := by decide +kernel
theorem d_L_law_746 : decode code 746 = .ok (.iaload, 1) := by decide +kernel
theorem d_L_law_747 : decode code 747 = .ok (.aload_n 0, 1) := by decide +kernel
theorem d_L_law_748 : decode code 748 = .ok (.iload_n 3, 1) := by decide +kernel
theorem d_L_law_749 : decode code 749 = .ok (.iconst 3, 1) := by decide +kernel
theorem d_L_law_750 : decode code 750 = .ok (.iadd, 1) := by decide +kernel
theorem d_L_law_751 : decode code 751 = .ok (.iaload, 1) := by decide +kernel
theorem d_L_law_752 : decode code 752 = .ok (.invokevirtual 60, 3) := by decide +kernel
theorem d_L_law_755 : decode code 755 = .ok (.aload_n 2, 1) := by decide +kernel
theorem d_L_law_756 : decode code 756 = .ok (.aload_n 0, 1) := by decide +kernel
theorem d_L_law_757 : decode code 757 = .ok (.iload_n 3, 1) := by decide +kernel
theorem d_L_law_758 : decode code 758 = .ok (.iconst 1, 1) := by decide +kernel
theorem d_L_law_759 : decode code 759 = .ok (.iadd, 1) := by decide +kernel
theorem d_L_law_760 : decode code 760 = .ok (.iaload, 1) := by decide +kernel
theorem d_L_law_761 : decode code 761 = .ok (.aload_n 0, 1) := by decide +kernel
theorem d_L_law_762 : decode code 762 = .ok (.iload_n 3, 1) := by decide +kernel
theorem d_L_law_763 : decode code 763 = .ok (.iconst 2, 1) := by decide +kernel
theorem d_L_law_764 : decode code 764 = .ok (.iadd, 1) := by decide +kernel
theorem d_L_law_765 : decode code 765 = .ok (.iaload, 1) := by decide +kernel
theorem d_L_law_766 : decode code 766 = .ok (.aload_n 0, 1) := by decide +kernel
theorem d_L_law_767 : decode code 767 = .ok (.iload_n 3, 1) := by decide +kernel
theorem d_L_law_768 : decode code 768 = .ok (.iconst 3, 1) := by decide +kernel
theorem d_L_law_769 : decode code 769 = .ok (.iadd, 1) := by decide +kernel
theorem d_L_law_770 : decode code 770 = .ok (.iaload, 1) := by decide +kernel
theorem d_L_law_771 : decode code 771 = .ok (.invokevirtual 63, 3) := by decide +kernel
theorem d_L_law_774 : decode code 774 = .ok (.if_icmp .eq 277, 3) := by decide +kernel
theorem d_L_law_777 : decode code 777 = .ok (.iconst 0, 1) := by decide +kernel
theorem d_L_law_778 : decode code 778 = .ok (.ireturn, 1) := by decide +kernel
theorem d_L_law_779 : decode code 779 = .ok (.aload_n 1, 1) := by decide +kernel
theorem d_L_law_780 : decode code 780 = .ok (.aload_n 0, 1) := by decide +kernel
theorem d_L_law_781 : decode code 781 = .ok (.iload_n 3, 1) := by decide +kernel
theorem d_L_law_782 : decode code 782 = .ok (.iconst 1, 1) := by decide +kernel
theorem d_L_law_783 : decode code 783 = .ok (.iadd, 1) := by decide +kernel
theorem d_L_law_784 : decode code 784 = .ok (.iaload, 1) := by decide +kernel
theorem d_L_law_785 : decode code 785 = .ok (.aload_n 0, 1) := by decide +kernel
theorem d_L_law_786 : decode code 786 = .ok (.iload_n 3, 1) := by decide +kernel
theorem d_L_law_787 : decode code 787 = .ok (.iconst 2, 1) := by decide +kernel
theorem d_L_law_788 : decode code 788 = .ok (.iadd, 1) := by decide +kernel
theorem d_L_law_789 : decode code 789 = .ok (.iaload, 1) := by decide +kernel
theorem d_L_law_790 : decode code 790 = .ok (.aload_n 0, 1) := by decide +kernel
theorem d_L_law_791 : decode code 791 = .ok (.iload_n 3, 1) := by decide +kernel
theorem d_L_law_792 : decode code 792 = .ok (.iconst 3, 1) := by decide +kernel
theorem d_L_law_793 : decode code 793 = .ok (.iadd, 1) := by decide +kernel
theorem d_L_law_794 : decode code 794 = .ok (.iaload, 1) := by decide +kernel
theorem d_L_law_795 : decode code 795 = .ok (.ifCond .eq 7, 3) := by decide +kernel
theorem d_L_law_798 : decode code 798 = .ok (.iconst 1, 1) := by decide +kernel
theorem d_L_law_799 : decode code 799 = .ok (.goto 4, 3) := by decide +kernel
theorem d_L_law_802 : decode code 802 = .ok (.iconst 0, 1) := by decide +kernel
theorem d_L_law_803 : decode code 803 = .ok (.aload_n 0, 1) := by decide +kernel
theorem d_L_law_804 : decode code 804 = .ok (.iload_n 3, 1) := by decide +kernel
theorem d_L_law_805 : decode code 805 = .ok (.iconst 4, 1) := by decide +kernel
theorem d_L_law_806 : decode code 806 = .ok (.iadd, 1) := by decide +kernel
theorem d_L_law_807 : decode code 807 = .ok (.iaload, 1) := by decide +kernel
theorem d_L_law_808 : decode code 808 = .ok (.ifCond .eq 7, 3) := by decide +kernel
theorem d_L_law_811 : decode code 811 = .ok (.iconst 1, 1) := by decide +kernel
theorem d_L_law_812 : decode code 812 = .ok (.goto 4, 3) := by decide +kernel
theorem d_L_law_815 : decode code 815 = .ok (.iconst 0, 1) := by decide +kernel
theorem d_L_law_816 : decode code 816 = .ok (.invokevirtual 64, 3) := by decide +kernel
theorem d_L_law_819 : decode code 819 = .ok (.aload_n 2, 1) := by decide +kernel
theorem d_L_law_820 : decode code 820 = .ok (.aload_n 0, 1) := by decide +kernel
theorem d_L_law_821 : decode code 821 = .ok (.iload_n 3, 1) := by decide +kernel
theorem d_L_law_822 : decode code 822 = .ok (.iconst 1, 1) := by decide +kernel
theorem d_L_law_823 : decode code 823 = .ok (.iadd, 1) := by decide +kernel
theorem d_L_law_824 : decode code 824 = .ok (.iaload, 1) := by decide +kernel
theorem d_L_law_825 : decode code 825 = .ok (.aload_n 0, 1) := by decide +kernel
theorem d_L_law_826 : decode code 826 = .ok (.iload_n 3, 1) := by decide +kernel
theorem d_L_law_827 : decode code 827 = .ok (.iconst 2, 1) := by decide +kernel
