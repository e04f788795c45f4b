theorem q326_583 : qD 326 583 (.iaload) 1 584 := by decide +kernel
theorem q326_584 : qD 326 584 (.invokevirtual 63) 3 587 ∧ qI 326 63 226 1622 := by decide +kernel
theorem q326_587 : qJ 326 587 (.if_icmp .eq 1125) 590 (1125) 1712 := by decide +kernel
theorem q326_590 : qD 326 590 (.iconst 0) 1 591 ∧ Int32.ofInt (0) = (0 : Int32) := by decide +kernel
theorem q326_591 : qD 326 591 (.ireturn) 1 592 ∧ mR 326 = some .boolean := by decide +kernel
theorem q326_592 : qD 326 592 (.aload_n 1) 1 593 ∧ ((1 : Fin 4) : Nat) = 1 := by decide +kernel
theorem q326_593 : qD 326 593 (.aload_n 0) 1 594 ∧ ((0 : Fin 4) : Nat) = 0 := by decide +kernel
theorem q326_594 : qD 326 594 (.iload 4) 2 596 := by decide +kernel
theorem q326_596 : qD 326 596 (.iconst 1) 1 597 ∧ Int32.ofInt (1) = (1 : Int32) := by decide +kernel
theorem q326_597 : qD 326 597 (.iadd) 1 598 := by decide +kernel
theorem q326_598 : qD 326 598 (.iaload) 1 599 := by decide +kernel
theorem q326_599 : qD 326 599 (.invokevirtual 64) 3 602 ∧ qI 326 64 99 735 := by decide +kernel
theorem q326_602 : qD 326 602 (.aload_n 2) 1 603 ∧ ((2 : Fin 4) : Nat) = 2 := by decide +kernel
theorem q326_603 : qD 326 603 (.aload_n 0) 1 604 ∧ ((0 : Fin 4) : Nat) = 0 := by decide +kernel
theorem q326_604 : qD 326 604 (.iload 4) 2 606 := by decide +kernel
theorem q326_606 : qD 326 606 (.iconst 1) 1 607 ∧ Int32.ofInt (1) = (1 : Int32) := by decide +kernel
theorem q326_607 : qD 326 607 (.iadd) 1 608 := by decide +kernel
theorem q326_608 : qD 326 608 (.iaload) 1 609 := by decide +kernel
theorem q326_609 : qD 326 609 (.invokevirtual 67) 3 612 ∧ qI 326 67 227 1626 := by decide +kernel
theorem q326_612 : qJ 326 612 (.if_icmp .eq 1100) 615 (1100) 1712 := by decide +kernel
theorem q326_615 : qD 326 615 (.iconst 0) 1 616 ∧ Int32.ofInt (0) = (0 : Int32) := by decide +kernel
theorem q326_616 : qD 326 616 (.ireturn) 1 617 ∧ mR 326 = some .boolean := by decide +kernel
theorem q326_617 : qD 326 617 (.aload_n 1) 1 618 ∧ ((1 : Fin 4) : Nat) = 1 := by decide +kernel
theorem q326_618 : qD 326 618 (.aload_n 0) 1 619 ∧ ((0 : Fin 4) : Nat) = 0 := by decide +kernel
theorem q326_619 : qD 326 619 (.iload 4) 2 621 := by decide +kernel
theorem q326_621 : qD 326 621 (.iconst 1) 1 622 ∧ Int32.ofInt (1) = (1 : Int32) := by decide +kernel
theorem q326_622 : qD 326 622 (.iadd) 1 623 := by decide +kernel
theorem q326_623 : qD 326 623 (.iaload) 1 624 := by decide +kernel
theorem q326_624 : qD 326 624 (.invokevirtual 68) 3 627 ∧ qI 326 68 109 766 := by decide +kernel
theorem q326_627 : qD 326 627 (.aload_n 2) 1 628 ∧ ((2 : Fin 4) : Nat) = 2 := by decide +kernel
theorem q326_628 : qD 326 628 (.aload_n 0) 1 629 ∧ ((0 : Fin 4) : Nat) = 0 := by decide +kernel
theorem q326_629 : qD 326 629 (.iload 4) 2 631 := by decide +kernel
theorem q326_631 : qD 326 631 (.iconst 1) 1 632 ∧ Int32.ofInt (1) = (1 : Int32) := by decide +kernel
theorem q326_632 : qD 326 632 (.iadd) 1 633 := by decide +kernel
theorem q326_633 : qD 326 633 (.iaload) 1 634 := by decide +kernel
theorem q326_634 : qD 326 634 (.invokevirtual 71) 3 637 ∧ qI 326 71 230 1631 := by decide +kernel
theorem q326_637 : qJ 326 637 (.if_icmp .eq 1075) 640 (1075) 1712 := by decide +kernel
theorem q326_640 : qD 326 640 (.iconst 0) 1 641 ∧ Int32.ofInt (0) = (0 : Int32) := by decide +kernel
theorem q326_641 : qD 326 641 (.ireturn) 1 642 ∧ mR 326 = some .boolean := by decide +kernel
theorem q326_642 : qD 326 642 (.aload_n 1) 1 643 ∧ ((1 : Fin 4) : Nat) = 1 := by decide +kernel
theorem q326_643 : qD 326 643 (.invokevirtual 72) 3 646 ∧ qI 326 72 110 901 := by decide +kernel
theorem q326_646 : qD 326 646 (.aload_n 2) 1 647 ∧ ((2 : Fin 4) : Nat) = 2 := by decide +kernel
theorem q326_647 : qD 326 647 (.invokevirtual 75) 3 650 ∧ qI 326 75 232 1643 := by decide +kernel
theorem q326_650 : qJ 326 650 (.if_icmp .eq 1062) 653 (1062) 1712 := by decide +kernel
theorem q326_653 : qD 326 653 (.iconst 0) 1 654 ∧ Int32.ofInt (0) = (0 : Int32) := by decide +kernel
theorem q326_654 : qD 326 654 (.ireturn) 1 655 ∧ mR 326 = some .boolean := by decide +kernel
theorem q326_655 : qD 326 655 (.aload_n 1) 1 656 ∧ ((1 : Fin 4) : Nat) = 1 := by decide +kernel
theorem q326_656 : qD 326 656 (.aload_n 0) 1 657 ∧ ((0 : Fin 4) : Nat) = 0 := by decide +kernel
theorem q326_657 : qD 326 657 (.iload 4) 2 659 := by decide +kernel
theorem q326_659 : qD 326 659 (.iconst 1) 1 660 ∧ Int32.ofInt (1) = (1 : Int32) := by decide +kernel
theorem q326_660 : qD 326 660 (.iadd) 1 661 := by decide +kernel
theorem q326_661 : qD 326 661 (.iaload) 1 662 := by decide +kernel
theorem q326_662 : qD 326 662 (.aload_n 0) 1 663 ∧ ((0 : Fin 4) : Nat) = 0 := by decide +kernel
theorem q326_663 : qD 326 663 (.iload 4) 2 665 := by decide +kernel
theorem q326_665 : qD 326 665 (.iconst 2) 1 666 ∧ Int32.ofInt (2) = (2 : Int32) := by decide +kernel
theorem q326_666 : qD 326 666 (.iadd) 1 667 := by decide +kernel
theorem q326_667 : qD 326 667 (.iaload) 1 668 := by decide +kernel
theorem q326_668 : qD 326 668 (.invokevirtual 76) 3 671 ∧ qI 326 76 111 905 := by decide +kernel
theorem q326_671 : qD 326 671 (.aload_n 2) 1 672 ∧ ((2 : Fin 4) : Nat) = 2 := by decide +kernel
theorem q326_672 : qD 326 672 (.aload_n 0) 1 673 ∧ ((0 : Fin 4) : Nat) = 0 := by decide +kernel
theorem q326_673 : qD 326 673 (.iload 4) 2 675 := by decide +kernel
theorem q326_675 : qD 326 675 (.iconst 1) 1 676 ∧ Int32.ofInt (1) = (1 : Int32) := by decide +kernel
theorem q326_676 : qD 326 676 (.iadd) 1 677 := by decide +kernel
theorem q326_677 : qD 326 677 (.iaload) 1 678 := by decide +kernel
theorem q326_678 : qD 326 678 (.aload_n 0) 1 679 ∧ ((0 : Fin 4) : Nat) = 0 := by decide +kernel
theorem q326_679 : qD 326 679 (.iload 4) 2 681 := by decide +kernel
theorem q326_681 : qD 326 681 (.iconst 2) 1 682 ∧ Int32.ofInt (2) = (2 : Int32) := by decide +kernel
theorem q326_682 : qD 326 682 (.iadd) 1 683 := by decide +kernel
theorem q326_683 : qD 326 683 (.iaload) 1 684 := by decide +kernel
theorem q326_684 : qD 326 684 (.invokevirtual 79) 3 687 ∧ qI 326 79 235 1686 := by decide +kernel
theorem q326_687 : qJ 326 687 (.if_icmp .eq 1025) 690 (1025) 1712 := by decide +kernel
theorem q326_690 : qD 326 690 (.iconst 0) 1 691 ∧ Int32.ofInt (0) = (0 : Int32) := by decide +kernel
theorem q326_691 : qD 326 691 (.ireturn) 1 692 ∧ mR 326 = some .boolean := by decide +kernel
theorem q326_692 : qD 326 692 (.aload_n 1) 1 693 ∧ ((1 : Fin 4) : Nat) = 1 := by decide +kernel
theorem q326_693 : qD 326 693 (.aload_n 0) 1 694 ∧ ((0 : Fin 4) : Nat) = 0 := by decide +kernel
theorem q326_694 : qD 326 694 (.iload 4) 2 696 := by decide +kernel
theorem q326_696 : qD 326 696 (.iconst 1) 1 697 ∧ Int32.ofInt (1) = (1 : Int32) := by decide +kernel
theorem q326_697 : qD 326 697 (.iadd) 1 698 := by decide +kernel
theorem q326_698 : qD 326 698 (.iaload) 1 699 := by decide +kernel
theorem q326_699 : qD 326 699 (.aload_n 0) 1 700 ∧ ((0 : Fin 4) : Nat) = 0 := by decide +kernel
theorem q326_700 : qD 326 700 (.iload 4) 2 702 := by decide +kernel
theorem q326_702 : qD 326 702 (.iconst 2) 1 703 ∧ Int32.ofInt (2) = (2 : Int32) := by decide +kernel
theorem q326_703 : qD 326 703 (.iadd) 1 704 := by decide +kernel
theorem q326_704 : qD 326 704 (.iaload) 1 705 := by decide +kernel
theorem q326_705 : qD 326 705 (.invokevirtual 80) 3 708 ∧ qI 326 80 112 909 := by decide +kernel
theorem q326_708 : qD 326 708 (.aload_n 2) 1 709 ∧ ((2 : Fin 4) : Nat) = 2 := by decide +kernel
theorem q326_709 : qD 326 709 (.aload_n 0) 1 710 ∧ ((0 : Fin 4) : Nat) = 0 := by decide +kernel
theorem q326_710 : qD 326 710 (.iload 4) 2 712 := by decide +kernel
theorem q326_712 : qD 326 712 (.iconst 1) 1 713 ∧ Int32.ofInt (1) = (1 : Int32) := by decide +kernel
theorem q326_713 : qD 326 713 (.iadd) 1 714 := by decide +kernel
theorem q326_714 : qD 326 714 (.iaload) 1 715 := by decide +kernel
theorem q326_715 : qD 326 715 (.aload_n 0) 1 716 ∧ ((0 : Fin 4) : Nat) = 0 := by decide +kernel
theorem q326_716 : qD 326 716 (.iload 4) 2 718 := by decide +kernel
theorem q326_718 : qD 326 718 (.iconst 2) 1 719 ∧ Int32.ofInt (2) = (2 : Int32) := by decide +kernel
theorem q326_719 : qD 326 719 (.iadd) 1 720 := by decide +kernel
theorem q326_720 : qD 326 720 (.iaload) 1 721 := by decide +kernel
theorem q326_721 : qD 326 721 (.invokevirtual 84) 3 724 ∧ qI 326 84 236 1697 := by decide +kernel
theorem q326_724 : qJ 326 724 (.if_icmp .eq 988) 727 (988) 1712 := by decide +kernel
theorem q326_727 : qD 326 727 (.iconst 0) 1 728 ∧ Int32.ofInt (0) = (0 : Int32) := by decide +kernel
theorem q326_728 : qD 326 728 (.ireturn) 1 729 ∧ mR 326 = some .boolean := by decide +kernel
theorem q326_729 : qD 326 729 (.aload_n 1) 1 730 ∧ ((1 : Fin 4) : Nat) = 1 := by decide +kernel
theorem q326_730 : qD 326 730 (.invokevirtual 85) 3 733 ∧ qI 326 85 113 913 := by decide +kernel
theorem q326_733 : qD 326 733 (.aload_n 2) 1 734 ∧ ((2 : Fin 4) : Nat) = 2 := by decide +kernel
theorem q326_734 : qD 326 734 (.invokevirtual 88) 3 737 ∧ qI 326 88 240 1701 := by decide +kernel
theorem q326_737 : qJ 326 737 (.if_icmp .eq 975) 740 (975) 1712 := by decide +kernel
theorem q326_740 : qD 326 740 (.iconst 0) 1 741 ∧ Int32.ofInt (0) = (0 : Int32) := by decide +kernel
theorem q326_741 : qD 326 741 (.ireturn) 1 742 ∧ mR 326 = some .boolean := by decide +kernel
theorem q326_742 : qD 326 742 (.aload_n 1) 1 743 ∧ ((1 : Fin 4) : Nat) = 1 := by decide +kernel
theorem q326_743 : qD 326 743 (.aload_n 0) 1 744 ∧ ((0 : Fin 4) : Nat) = 0 := by decide +kernel
theorem q326_744 : qD 326 744 (.iload 4) 2 746 := by decide +kernel
theorem q326_746 : qD 326 746 (.iconst 1) 1 747 ∧ Int32.ofInt (1) = (1 : Int32) := by decide +kernel
theorem q326_747 : qD 326 747 (.iadd) 1 748 := by decide +kernel
theorem q326_748 : qD 326 748 (.iaload) 1 749 := by decide +kernel
theorem q326_749 : qD 326 749 (.invokevirtual 89) 3 752 ∧ qI 326 89 114 917 := by decide +kernel
theorem q326_752 : qD 326 752 (.aload_n 2) 1 753 ∧ ((2 : Fin 4) : Nat) = 2 := by decide +kernel
theorem q326_753 : qD 326 753 (.aload_n 0) 1 754 ∧ ((0 : Fin 4) : Nat) = 0 := by decide +kernel
theorem q326_754 : qD 326 754 (.iload 4) 2 756 := by decide +kernel
theorem q326_756 : qD 326 756 (.iconst 1) 1 757 ∧ Int32.ofInt (1) = (1 : Int32) := by decide +kernel
theorem q326_757 : qD 326 757 (.iadd) 1 758 := by decide +kernel
theorem q326_758 : qD 326 758 (.iaload) 1 759 := by decide +kernel
theorem q326_759 : qD 326 759 (.invokevirtual 92) 3 762 ∧ qI 326 92 242 1717 := by decide +kernel
theorem q326_762 : qJ 326 762 (.if_icmp .eq 950) 765 (950) 1712 := by decide +kernel
theorem q326_765 : qD 326 765 (.iconst 0) 1 766 ∧ Int32.ofInt (0) = (0 : Int32) := by decide +kernel
theorem q326_766 : qD 326 766 (.ireturn) 1 767 ∧ mR 326 = some .boolean := by decide +kernel
theorem q326_767 : qD 326 767 (.aload_n 1) 1 768 ∧ ((1 : Fin 4) : Nat) = 1 := by decide +kernel
theorem q326_768 : qD 326 768 (.aload_n 0) 1 769 ∧ ((0 : Fin 4) : Nat) = 0 := by decide +kernel
theorem q326_769 : qD 326 769 (.iload 4) 2 771 := by decide +kernel
theorem q326_771 : qD 326 771 (.iconst 1) 1 772 ∧ Int32.ofInt (1) = (1 : Int32) := by decide +kernel
theorem q326_772 : qD 326 772 (.iadd) 1 773 := by decide +kernel
theorem q326_773 : qD 326 773 (.iaload) 1 774 := by decide +kernel
theorem q326_774 : qD 326 774 (.aload_n 0) 1 775 ∧ ((0 : Fin 4) : Nat) = 0 := by decide +kernel
theorem q326_775 : qD 326 775 (.iload 4) 2 777 := by decide +kernel
theorem q326_777 : qD 326 777 (.iconst 2) 1 778 ∧ Int32.ofInt (2) = (2 : Int32) := by decide +kernel
theorem q326_778 : qD 326 778 (.iadd) 1 779 := by decide +kernel
theorem q326_779 : qD 326 779 (.iaload) 1 780 := by decide +kernel
theorem q326_780 : qD 326 780 (.i2l) 1 781 := by decide +kernel
theorem q326_781 : qD 326 781 (.bipush 32) 2 783 ∧ (Int8.ofInt (32)).toInt32 = (32 : Int32) := by decide +kernel
theorem q326_783 : qD 326 783 (.lshl) 1 784 := by decide +kernel
theorem q326_784 : qD 326 784 (.aload_n 0) 1 785 ∧ ((0 : Fin 4) : Nat) = 0 := by decide +kernel
theorem q326_785 : qD 326 785 (.iload 4) 2 787 := by decide +kernel
theorem q326_787 : qD 326 787 (.iconst 3) 1 788 ∧ Int32.ofInt (3) = (3 : Int32) := by decide +kernel
theorem q326_788 : qD 326 788 (.iadd) 1 789 := by decide +kernel
theorem q326_789 : qD 326 789 (.iaload) 1 790 := by decide +kernel
theorem q326_790 : qD 326 790 (.i2l) 1 791 := by decide +kernel
theorem q326_791 : qD 326 791 (.ldc2_w 93) 3 794 ∧ inG 1936 (.constantLong (mN 326).cls 93 (4294967295)) := by decide +kernel
theorem q326_794 : qD 326 794 (.land) 1 795 := by decide +kernel
theorem q326_795 : qD 326 795 (.lor) 1 796 := by decide +kernel
theorem q326_796 : qD 326 796 (.invokevirtual 95) 3 799 ∧ qI 326 95 115 925 := by decide +kernel
theorem q326_799 : qD 326 799 (.aload_n 2) 1 800 ∧ ((2 : Fin 4) : Nat) = 2 := by decide +kernel
theorem q326_800 : qD 326 800 (.aload_n 0) 1 801 ∧ ((0 : Fin 4) : Nat) = 0 := by decide +kernel
theorem q326_801 : qD 326 801 (.iload 4) 2 803 := by decide +kernel
theorem q326_803 : qD 326 803 (.iconst 1) 1 804 ∧ Int32.ofInt (1) = (1 : Int32) := by decide +kernel
theorem q326_804 : qD 326 804 (.iadd) 1 805 := by decide +kernel
theorem q326_805 : qD 326 805 (.iaload) 1 806 := by decide +kernel
theorem q326_806 : qD 326 806 (.aload_n 0) 1 807 ∧ ((0 : Fin 4) : Nat) = 0 := by decide +kernel
theorem q326_807 : qD 326 807 (.iload 4) 2 809 := by decide +kernel
theorem q326_809 : qD 326 809 (.iconst 2) 1 810 ∧ Int32.ofInt (2) = (2 : Int32) := by decide +kernel
theorem q326_810 : qD 326 810 (.iadd) 1 811 := by decide +kernel
theorem q326_811 : qD 326 811 (.iaload) 1 812 := by decide +kernel
theorem q326_812 : qD 326 812 (.i2l) 1 813 := by decide +kernel
theorem q326_813 : qD 326 813 (.bipush 32) 2 815 ∧ (Int8.ofInt (32)).toInt32 = (32 : Int32) := by decide +kernel
theorem q326_815 : qD 326 815 (.lshl) 1 816 := by decide +kernel
theorem q326_816 : qD 326 816 (.aload_n 0) 1 817 ∧ ((0 : Fin 4) : Nat) = 0 := by decide +kernel
theorem q326_817 : qD 326 817 (.iload 4) 2 819 := by decide +kernel
theorem q326_819 : qD 326 819 (.iconst 3) 1 820 ∧ Int32.ofInt (3) = (3 : Int32) := by decide +kernel
theorem q326_820 : qD 326 820 (.iadd) 1 821 := by decide +kernel
theorem q326_821 : qD 326 821 (.iaload) 1 822 := by decide +kernel
theorem q326_822 : qD 326 822 (.i2l) 1 823 := by decide +kernel
theorem q326_823 : qD 326 823 (.ldc2_w 93) 3 826 ∧ inG 1936 (.constantLong (mN 326).cls 93 (4294967295)) := by decide +kernel
theorem q326_826 : qD 326 826 (.land) 1 827 := by decide +kernel
theorem q326_827 : qD 326 827 (.lor) 1 828 := by decide +kernel
theorem q326_828 : qD 326 828 (.invokevirtual 99) 3 831 ∧ qI 326 99 245 1730 := by decide +kernel
theorem q326_831 : qJ 326 831 (.if_icmp .eq 881) 834 (881) 1712 := by decide +kernel
theorem q326_834 : qD 326 834 (.iconst 0) 1 835 ∧ Int32.ofInt (0) = (0 : Int32) := by decide +kernel
theorem q326_835 : qD 326 835 (.ireturn) 1 836 ∧ mR 326 = some .boolean := by decide +kernel
theorem q326_836 : qD 326 836 (.aload_n 1) 1 837 ∧ ((1 : Fin 4) : Nat) = 1 := by decide +kernel
theorem q326_837 : qD 326 837 (.invokevirtual 100) 3 840 ∧ qI 326 100 116 945 := by decide +kernel
theorem q326_840 : qD 326 840 (.aload_n 2) 1 841 ∧ ((2 : Fin 4) : Nat) = 2 := by decide +kernel
theorem q326_841 : qD 326 841 (.invokevirtual 103) 3 844 ∧ qI 326 103 246 1744 := by decide +kernel
theorem q326_844 : qJ 326 844 (.if_icmp .eq 868) 847 (868) 1712 := by decide +kernel
theorem q326_847 : qD 326 847 (.iconst 0) 1 848 ∧ Int32.ofInt (0) = (0 : Int32) := by decide +kernel
theorem q326_848 : qD 326 848 (.ireturn) 1 849 ∧ mR 326 = some .boolean := by decide +kernel
theorem q326_849 : qD 326 849 (.aload_n 1) 1 850 ∧ ((1 : Fin 4) : Nat) = 1 := by decide +kernel
theorem q326_850 : qD 326 850 (.aload_n 0) 1 851 ∧ ((0 : Fin 4) : Nat) = 0 := by decide +kernel
theorem q326_851 : qD 326 851 (.iload 4) 2 853 := by decide +kernel
theorem q326_853 : qD 326 853 (.iconst 1) 1 854 ∧ Int32.ofInt (1) = (1 : Int32) := by decide +kernel
theorem q326_854 : qD 326 854 (.iadd) 1 855 := by decide +kernel
theorem q326_855 : qD 326 855 (.iaload) 1 856 := by decide +kernel
theorem q326_856 : qD 326 856 (.aload_n 0) 1 857 ∧ ((0 : Fin 4) : Nat) = 0 := by decide +kernel
theorem q326_857 : qD 326 857 (.iload 4) 2 859 := by decide +kernel
theorem q326_859 : qD 326 859 (.iconst 2) 1 860 ∧ Int32.ofInt (2) = (2 : Int32) := by decide +kernel
theorem q326_860 : qD 326 860 (.iadd) 1 861 := by decide +kernel
theorem q326_861 : qD 326 861 (.iaload) 1 862 := by decide +kernel
theorem q326_862 : qD 326 862 (.invokevirtual 104) 3 865 ∧ qI 326 104 100 739 := by decide +kernel
theorem q326_865 : qD 326 865 (.aload_n 2) 1 866 ∧ ((2 : Fin 4) : Nat) = 2 := by decide +kernel
theorem q326_866 : qD 326 866 (.aload_n 0) 1 867 ∧ ((0 : Fin 4) : Nat) = 0 := by decide +kernel
theorem q326_867 : qD 326 867 (.iload 4) 2 869 := by decide +kernel
theorem q326_869 : qD 326 869 (.iconst 1) 1 870 ∧ Int32.ofInt (1) = (1 : Int32) := by decide +kernel
theorem q326_870 : qD 326 870 (.iadd) 1 871 := by decide +kernel
theorem q326_871 : qD 326 871 (.iaload) 1 872 := by decide +kernel
theorem q326_872 : qD 326 872 (.aload_n 0) 1 873 ∧ ((0 : Fin 4) : Nat) = 0 := by decide +kernel
theorem q326_873 : qD 326 873 (.iload 4) 2 875 := by decide +kernel
theorem q326_875 : qD 326 875 (.iconst 2) 1 876 ∧ Int32.ofInt (2) = (2 : Int32) := by decide +kernel
theorem q326_876 : qD 326 876 (.iadd) 1 877 := by decide +kernel
theorem q326_877 : qD 326 877 (.iaload) 1 878 := by decide +kernel
theorem q326_878 : qD 326 878 (.invokevirtual 107) 3 881 ∧ qI 326 107 247 1748 := by decide +kernel
theorem q326_881 : qJ 326 881 (.if_icmp .eq 831) 884 (831) 1712 := by decide +kernel
theorem q326_884 : qD 326 884 (.iconst 0) 1 885 ∧ Int32.ofInt (0) = (0 : Int32) := by decide +kernel
theorem q326_885 : qD 326 885 (.ireturn) 1 886 ∧ mR 326 = some .boolean := by decide +kernel
theorem q326_886 : qD 326 886 (.aload_n 1) 1 887 ∧ ((1 : Fin 4) : Nat) = 1 := by decide +kernel
theorem q326_887 : qD 326 887 (.aload_n 0) 1 888 ∧ ((0 : Fin 4) : Nat) = 0 := by decide +kernel
theorem q326_888 : qD 326 888 (.iload 4) 2 890 := by decide +kernel
theorem q326_890 : qD 326 890 (.iconst 1) 1 891 ∧ Int32.ofInt (1) = (1 : Int32) := by decide +kernel
theorem q326_891 : qD 326 891 (.iadd) 1 892 := by decide +kernel
theorem q326_892 : qD 326 892 (.iaload) 1 893 := by decide +kernel
theorem q326_893 : qD 326 893 (.aload_n 0) 1 894 ∧ ((0 : Fin 4) : Nat) = 0 := by decide +kernel
theorem q326_894 : qD 326 894 (.iload 4) 2 896 := by decide +kernel
theorem q326_896 : qD 326 896 (.iconst 2) 1 897 ∧ Int32.ofInt (2) = (2 : Int32) := by decide +kernel
theorem q326_897 : qD 326 897 (.iadd) 1 898 := by decide +kernel
theorem q326_898 : qD 326 898 (.iaload) 1 899 := by decide +kernel
theorem q326_899 : qD 326 899 (.aload_n 0) 1 900 ∧ ((0 : Fin 4) : Nat) = 0 := by decide +kernel
theorem q326_900 : qD 326 900 (.iload 4) 2 902 := by decide +kernel
theorem q326_902 : qD 326 902 (.iconst 3) 1 903 ∧ Int32.ofInt (3) = (3 : Int32) := by decide +kernel
theorem q326_903 : qD 326 903 (.iadd) 1 904 := by decide +kernel
theorem q326_904 : qD 326 904 (.iaload) 1 905 := by decide +kernel
theorem q326_905 : qD 326 905 (.invokevirtual 108) 3 908 ∧ qI 326 108 126 971 := by decide +kernel
theorem q326_908 : qD 326 908 (.aload_n 2) 1 909 ∧ ((2 : Fin 4) : Nat) = 2 := by decide +kernel
theorem q326_909 : qD 326 909 (.aload_n 0) 1 910 ∧ ((0 : Fin 4) : Nat) = 0 := by decide +kernel
theorem q326_910 : qD 326 910 (.iload 4) 2 912 := by decide +kernel
theorem q326_912 : qD 326 912 (.iconst 1) 1 913 ∧ Int32.ofInt (1) = (1 : Int32) := by decide +kernel
theorem q326_913 : qD 326 913 (.iadd) 1 914 := by decide +kernel
theorem q326_914 : qD 326 914 (.iaload) 1 915 := by decide +kernel
theorem q326_915 : qD 326 915 (.aload_n 0) 1 916 ∧ ((0 : Fin 4) : Nat) = 0 := by decide +kernel
theorem q326_916 : qD 326 916 (.iload 4) 2 918 := by decide +kernel
theorem q326_918 : qD 326 918 (.iconst 2) 1 919 ∧ Int32.ofInt (2) = (2 : Int32) := by decide +kernel
theorem q326_919 : qD 326 919 (.iadd) 1 920 := by decide +kernel
theorem q326_920 : qD 326 920 (.iaload) 1 921 := by decide +kernel
theorem q326_921 : qD 326 921 (.aload_n 0) 1 922 ∧ ((0 : Fin 4) : Nat) = 0 := by decide +kernel
theorem q326_922 : qD 326 922 (.iload 4) 2 924 := by decide +kernel
theorem q326_924 : qD 326 924 (.iconst 3) 1 925 ∧ Int32.ofInt (3) = (3 : Int32) := by decide +kernel
theorem q326_925 : qD 326 925 (.iadd) 1 926 := by decide +kernel
theorem q326_926 : qD 326 926 (.iaload) 1 927 := by decide +kernel
theorem q326_927 : qD 326 927 (.invokevirtual 112) 3 930 ∧ qI 326 112 249 1752 := by decide +kernel
theorem q326_930 : qJ 326 930 (.if_icmp .eq 782) 933 (782) 1712 := by decide +kernel
theorem q326_933 : qD 326 933 (.iconst 0) 1 934 ∧ Int32.ofInt (0) = (0 : Int32) := by decide +kernel
theorem q326_934 : qD 326 934 (.ireturn) 1 935 ∧ mR 326 = some .boolean := by decide +kernel
theorem q326_935 : qD 326 935 (.aload_n 1) 1 936 ∧ ((1 : Fin 4) : Nat) = 1 := by decide +kernel
theorem q326_936 : qD 326 936 (.aload_n 0) 1 937 ∧ ((0 : Fin 4) : Nat) = 0 := by decide +kernel
theorem q326_937 : qD 326 937 (.iload 4) 2 939 := by decide +kernel
theorem q326_939 : qD 326 939 (.iconst 1) 1 940 ∧ Int32.ofInt (1) = (1 : Int32) := by decide +kernel
theorem q326_940 : qD 326 940 (.iadd) 1 941 := by decide +kernel
theorem q326_941 : qD 326 941 (.iaload) 1 942 := by decide +kernel
theorem q326_942 : qD 326 942 (.aload_n 0) 1 943 ∧ ((0 : Fin 4) : Nat) = 0 := by decide +kernel
theorem q326_943 : qD 326 943 (.iload 4) 2 945 := by decide +kernel
theorem q326_945 : qD 326 945 (.iconst 2) 1 946 ∧ Int32.ofInt (2) = (2 : Int32) := by decide +kernel
theorem q326_946 : qD 326 946 (.iadd) 1 947 := by decide +kernel
theorem q326_947 : qD 326 947 (.iaload) 1 948 := by decide +kernel
theorem q326_948 : qD 326 948 (.invokevirtual 113) 3 951 ∧ qI 326 113 127 983 := by decide +kernel
theorem q326_951 : qD 326 951 (.aload_n 2) 1 952 ∧ ((2 : Fin 4) : Nat) = 2 := by decide +kernel
theorem q326_952 : qD 326 952 (.aload_n 0) 1 953 ∧ ((0 : Fin 4) : Nat) = 0 := by decide +kernel
theorem q326_953 : qD 326 953 (.iload 4) 2 955 := by decide +kernel
