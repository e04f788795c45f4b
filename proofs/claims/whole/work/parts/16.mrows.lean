set_option maxRecDepth 100000 in
theorem m_0 : mU 0 258 118 0 257 := ⟨⟨⟨rfl, rfl⟩, by decide +kernel⟩, by decide +kernel⟩
set_option maxRecDepth 100000 in
theorem m_1 : mI 1 681 118 0 679 680 := ⟨⟨⟨rfl, rfl⟩, by decide +kernel⟩, by decide +kernel⟩
set_option maxRecDepth 100000 in
theorem m_2 : mI 2 793 118 1 791 792 := ⟨⟨⟨rfl, rfl⟩, by decide +kernel⟩, by decide +kernel⟩
set_option maxRecDepth 100000 in
theorem m_3 : mI 3 952 118 1 950 951 := ⟨⟨⟨rfl, rfl⟩, by decide +kernel⟩, by decide +kernel⟩
set_option maxRecDepth 100000 in
theorem m_4 : mU 4 310 121 0 309 := ⟨⟨⟨rfl, rfl⟩, by decide +kernel⟩, by decide +kernel⟩
set_option maxRecDepth 100000 in
theorem m_5 : mI 5 690 121 0 688 689 := ⟨⟨⟨rfl, rfl⟩, by decide +kernel⟩, by decide +kernel⟩
set_option maxRecDepth 100000 in
theorem m_6 : mI 6 1079 121 1 1077 1078 := ⟨⟨⟨rfl, rfl⟩, by decide +kernel⟩, by decide +kernel⟩
set_option maxRecDepth 100000 in
theorem m_7 : mI 7 1084 121 5 1083 41 := ⟨⟨⟨rfl, rfl⟩, by decide +kernel⟩, by decide +kernel⟩
set_option maxRecDepth 100000 in
theorem m_8 : mU 8 248 117 0 247 := ⟨⟨⟨rfl, rfl⟩, by decide +kernel⟩, by decide +kernel⟩
set_option maxRecDepth 100000 in
theorem m_9 : mI 9 799 117 1 797 798 := ⟨⟨⟨rfl, rfl⟩, by decide +kernel⟩, by decide +kernel⟩
set_option maxRecDepth 100000 in
theorem m_10 : mI 10 751 117 2 749 750 := ⟨⟨⟨rfl, rfl⟩, by decide +kernel⟩, by decide +kernel⟩
set_option maxRecDepth 100000 in
theorem m_11 : mI 11 965 117 1 963 964 := ⟨⟨⟨rfl, rfl⟩, by decide +kernel⟩, by decide +kernel⟩
set_option maxRecDepth 100000 in
theorem m_12 : mU 12 170 113 0 169 := ⟨⟨⟨rfl, rfl⟩, by decide +kernel⟩, by decide +kernel⟩
set_option maxRecDepth 100000 in
theorem m_13 : mI 13 418 113 1 416 417 := ⟨⟨⟨rfl, rfl⟩, by decide +kernel⟩, by decide +kernel⟩
set_option maxRecDepth 100000 in
theorem m_14 : mI 14 427 113 1 426 1 := ⟨⟨⟨rfl, rfl⟩, by decide +kernel⟩, by decide +kernel⟩
set_option maxRecDepth 100000 in
theorem m_15 : mI 15 448 113 6 447 3 := ⟨⟨⟨rfl, rfl⟩, by decide +kernel⟩, by decide +kernel⟩
set_option maxRecDepth 100000 in
theorem m_16 : mI 16 582 113 0 580 581 := ⟨⟨⟨rfl, rfl⟩, by decide +kernel⟩, by decide +kernel⟩
set_option maxRecDepth 100000 in
theorem m_17 : mI 17 840 113 0 838 839 := ⟨⟨⟨rfl, rfl⟩, by decide +kernel⟩, by decide +kernel⟩
set_option maxRecDepth 100000 in
theorem m_18 : mI 18 785 113 0 783 784 := ⟨⟨⟨rfl, rfl⟩, by decide +kernel⟩, by decide +kernel⟩
set_option maxRecDepth 100000 in
theorem m_19 : mI 19 819 113 0 817 818 := ⟨⟨⟨rfl, rfl⟩, by decide +kernel⟩, by decide +kernel⟩
set_option maxRecDepth 100000 in
theorem m_20 : mI 20 710 113 1 708 709 := ⟨⟨⟨rfl, rfl⟩, by decide +kernel⟩, by decide +kernel⟩
set_option maxRecDepth 100000 in
theorem m_21 : mI 21 844 113 1 842 843 := ⟨⟨⟨rfl, rfl⟩, by decide +kernel⟩, by decide +kernel⟩
set_option maxRecDepth 100000 in
theorem m_22 : mI 22 1176 113 1 1174 1175 := ⟨⟨⟨rfl, rfl⟩, by decide +kernel⟩, by decide +kernel⟩
set_option maxRecDepth 100000 in
theorem m_23 : mI 23 830 113 1 828 829 := ⟨⟨⟨rfl, rfl⟩, by decide +kernel⟩, by decide +kernel⟩
set_option maxRecDepth 100000 in
theorem m_24 : mI 24 677 113 1 675 676 := ⟨⟨⟨rfl, rfl⟩, by decide +kernel⟩, by decide +kernel⟩
set_option maxRecDepth 100000 in
theorem m_25 : mI 25 722 113 1 720 721 := ⟨⟨⟨rfl, rfl⟩, by decide +kernel⟩, by decide +kernel⟩
set_option maxRecDepth 100000 in
theorem m_26 : mI 26 726 113 1 724 725 := ⟨⟨⟨rfl, rfl⟩, by decide +kernel⟩, by decide +kernel⟩
set_option maxRecDepth 100000 in
theorem m_27 : mU 27 275 119 0 274 := ⟨⟨⟨rfl, rfl⟩, by decide +kernel⟩, by decide +kernel⟩
set_option maxRecDepth 100000 in
theorem m_28 : mI 28 835 119 5 833 834 := ⟨⟨⟨rfl, rfl⟩, by decide +kernel⟩, by decide +kernel⟩
set_option maxRecDepth 100000 in
theorem m_29 : mI 29 849 119 4 848 25 := ⟨⟨⟨rfl, rfl⟩, by decide +kernel⟩, by decide +kernel⟩
set_option maxRecDepth 100000 in
theorem m_30 : mI 30 878 119 3 876 877 := ⟨⟨⟨rfl, rfl⟩, by decide +kernel⟩, by decide +kernel⟩
set_option maxRecDepth 100000 in
theorem m_31 : mI 31 823 119 5 821 822 := ⟨⟨⟨rfl, rfl⟩, by decide +kernel⟩, by decide +kernel⟩
set_option maxRecDepth 100000 in
theorem m_32 : mI 32 882 119 5 881 28 := ⟨⟨⟨rfl, rfl⟩, by decide +kernel⟩, by decide +kernel⟩
set_option maxRecDepth 100000 in
theorem m_33 : mU 33 205 114 0 204 := ⟨⟨⟨rfl, rfl⟩, by decide +kernel⟩, by decide +kernel⟩
set_option maxRecDepth 100000 in
theorem m_34 : mI 34 586 114 1 584 585 := ⟨⟨⟨rfl, rfl⟩, by decide +kernel⟩, by decide +kernel⟩
set_option maxRecDepth 100000 in
theorem m_35 : mI 35 590 114 1 589 5 := ⟨⟨⟨rfl, rfl⟩, by decide +kernel⟩, by decide +kernel⟩
set_option maxRecDepth 100000 in
theorem m_36 : mI 36 629 114 3 628 10 := ⟨⟨⟨rfl, rfl⟩, by decide +kernel⟩, by decide +kernel⟩
set_option maxRecDepth 100000 in
theorem m_37 : mI 37 633 114 3 632 11 := ⟨⟨⟨rfl, rfl⟩, by decide +kernel⟩, by decide +kernel⟩
set_option maxRecDepth 100000 in
theorem m_38 : mI 38 637 114 3 636 12 := ⟨⟨⟨rfl, rfl⟩, by decide +kernel⟩, by decide +kernel⟩
set_option maxRecDepth 100000 in
theorem m_39 : mI 39 600 114 2 599 6 := ⟨⟨⟨rfl, rfl⟩, by decide +kernel⟩, by decide +kernel⟩
set_option maxRecDepth 100000 in
theorem m_40 : mI 40 604 114 2 603 7 := ⟨⟨⟨rfl, rfl⟩, by decide +kernel⟩, by decide +kernel⟩
set_option maxRecDepth 100000 in
theorem m_41 : mI 41 608 114 2 607 8 := ⟨⟨⟨rfl, rfl⟩, by decide +kernel⟩, by decide +kernel⟩
set_option maxRecDepth 100000 in
theorem m_42 : mS 42 622 114 2 621 := ⟨⟨⟨rfl, rfl⟩, by decide +kernel⟩, by decide +kernel⟩
set_option maxRecDepth 100000 in
theorem m_43 : mS 43 625 114 1 624 := ⟨⟨⟨rfl, rfl⟩, by decide +kernel⟩, by decide +kernel⟩
set_option maxRecDepth 100000 in
theorem m_44 : mI 44 617 114 1 616 9 := ⟨⟨⟨rfl, rfl⟩, by decide +kernel⟩, by decide +kernel⟩
set_option maxRecDepth 100000 in
theorem m_45 : mI 45 853 114 1 851 852 := ⟨⟨⟨rfl, rfl⟩, by decide +kernel⟩, by decide +kernel⟩
set_option maxRecDepth 100000 in
theorem m_46 : mI 46 857 114 2 856 26 := ⟨⟨⟨rfl, rfl⟩, by decide +kernel⟩, by decide +kernel⟩
set_option maxRecDepth 100000 in
theorem m_47 : mI 47 861 114 1 860 27 := ⟨⟨⟨rfl, rfl⟩, by decide +kernel⟩, by decide +kernel⟩
set_option maxRecDepth 100000 in
theorem m_48 : mS 48 864 114 3 863 := ⟨⟨⟨rfl, rfl⟩, by decide +kernel⟩, by decide +kernel⟩
set_option maxRecDepth 100000 in
theorem m_49 : mU 49 220 115 0 219 := ⟨⟨⟨rfl, rfl⟩, by decide +kernel⟩, by decide +kernel⟩
set_option maxRecDepth 100000 in
theorem m_50 : mI 50 643 115 1 641 642 := ⟨⟨⟨rfl, rfl⟩, by decide +kernel⟩, by decide +kernel⟩
set_option maxRecDepth 100000 in
theorem m_51 : mI 51 647 115 2 646 13 := ⟨⟨⟨rfl, rfl⟩, by decide +kernel⟩, by decide +kernel⟩
set_option maxRecDepth 100000 in
theorem m_52 : mI 52 982 115 2 980 981 := ⟨⟨⟨rfl, rfl⟩, by decide +kernel⟩, by decide +kernel⟩
set_option maxRecDepth 100000 in
theorem m_53 : mU 53 234 116 0 233 := ⟨⟨⟨rfl, rfl⟩, by decide +kernel⟩, by decide +kernel⟩
set_option maxRecDepth 100000 in
theorem m_54 : mI 54 670 116 1 668 669 := ⟨⟨⟨rfl, rfl⟩, by decide +kernel⟩, by decide +kernel⟩
set_option maxRecDepth 100000 in
theorem m_55 : mI 55 960 116 1 958 959 := ⟨⟨⟨rfl, rfl⟩, by decide +kernel⟩, by decide +kernel⟩
set_option maxRecDepth 100000 in
theorem m_56 : mI 56 730 116 1 728 729 := ⟨⟨⟨rfl, rfl⟩, by decide +kernel⟩, by decide +kernel⟩
set_option maxRecDepth 100000 in
theorem m_57 : mI 57 811 116 2 809 810 := ⟨⟨⟨rfl, rfl⟩, by decide +kernel⟩, by decide +kernel⟩
set_option maxRecDepth 100000 in
theorem m_58 : mI 58 807 116 3 805 806 := ⟨⟨⟨rfl, rfl⟩, by decide +kernel⟩, by decide +kernel⟩
set_option maxRecDepth 100000 in
theorem m_59 : mI 59 789 116 1 787 788 := ⟨⟨⟨rfl, rfl⟩, by decide +kernel⟩, by decide +kernel⟩
set_option maxRecDepth 100000 in
theorem m_60 : mI 60 764 116 1 762 763 := ⟨⟨⟨rfl, rfl⟩, by decide +kernel⟩, by decide +kernel⟩
set_option maxRecDepth 100000 in
theorem m_61 : mI 61 886 116 3 884 885 := ⟨⟨⟨rfl, rfl⟩, by decide +kernel⟩, by decide +kernel⟩
set_option maxRecDepth 100000 in
theorem m_62 : mI 62 896 116 3 894 895 := ⟨⟨⟨rfl, rfl⟩, by decide +kernel⟩, by decide +kernel⟩
set_option maxRecDepth 100000 in
theorem m_63 : mI 63 900 116 0 898 899 := ⟨⟨⟨rfl, rfl⟩, by decide +kernel⟩, by decide +kernel⟩
set_option maxRecDepth 100000 in
theorem m_64 : mU 64 148 112 0 147 := ⟨⟨⟨rfl, rfl⟩, by decide +kernel⟩, by decide +kernel⟩
set_option maxRecDepth 100000 in
theorem m_65 : mS 65 391 112 1 390 := ⟨⟨⟨rfl, rfl⟩, by decide +kernel⟩, by decide +kernel⟩
set_option maxRecDepth 100000 in
theorem m_66 : mI 66 395 112 1 393 394 := ⟨⟨⟨rfl, rfl⟩, by decide +kernel⟩, by decide +kernel⟩
set_option maxRecDepth 100000 in
theorem m_67 : mI 67 414 112 0 412 413 := ⟨⟨⟨rfl, rfl⟩, by decide +kernel⟩, by decide +kernel⟩
set_option maxRecDepth 100000 in
theorem m_68 : mI 68 435 112 0 434 2 := ⟨⟨⟨rfl, rfl⟩, by decide +kernel⟩, by decide +kernel⟩
set_option maxRecDepth 100000 in
theorem m_69 : mI 69 431 112 0 429 430 := ⟨⟨⟨rfl, rfl⟩, by decide +kernel⟩, by decide +kernel⟩
set_option maxRecDepth 100000 in
theorem m_70 : mI 70 439 112 0 437 438 := ⟨⟨⟨rfl, rfl⟩, by decide +kernel⟩, by decide +kernel⟩
set_option maxRecDepth 100000 in
theorem m_71 : mI 71 574 112 1 572 573 := ⟨⟨⟨rfl, rfl⟩, by decide +kernel⟩, by decide +kernel⟩
set_option maxRecDepth 100000 in
theorem m_72 : mI 72 594 112 1 592 593 := ⟨⟨⟨rfl, rfl⟩, by decide +kernel⟩, by decide +kernel⟩
set_option maxRecDepth 100000 in
theorem m_73 : mI 73 578 112 0 576 577 := ⟨⟨⟨rfl, rfl⟩, by decide +kernel⟩, by decide +kernel⟩
set_option maxRecDepth 100000 in
theorem m_74 : mI 74 544 112 0 542 543 := ⟨⟨⟨rfl, rfl⟩, by decide +kernel⟩, by decide +kernel⟩
set_option maxRecDepth 100000 in
theorem m_75 : mI 75 548 112 1 547 4 := ⟨⟨⟨rfl, rfl⟩, by decide +kernel⟩, by decide +kernel⟩
set_option maxRecDepth 100000 in
theorem m_76 : mI 76 462 112 1 460 461 := ⟨⟨⟨rfl, rfl⟩, by decide +kernel⟩, by decide +kernel⟩
set_option maxRecDepth 100000 in
theorem m_77 : mI 77 655 112 0 653 654 := ⟨⟨⟨rfl, rfl⟩, by decide +kernel⟩, by decide +kernel⟩
set_option maxRecDepth 100000 in
theorem m_78 : mI 78 552 112 3 550 551 := ⟨⟨⟨rfl, rfl⟩, by decide +kernel⟩, by decide +kernel⟩
set_option maxRecDepth 100000 in
theorem m_79 : mS 79 555 112 1 554 := ⟨⟨⟨rfl, rfl⟩, by decide +kernel⟩, by decide +kernel⟩
set_option maxRecDepth 100000 in
theorem m_80 : mU 80 293 120 0 292 := ⟨⟨⟨rfl, rfl⟩, by decide +kernel⟩, by decide +kernel⟩
set_option maxRecDepth 100000 in
theorem m_81 : mI 81 685 120 0 683 684 := ⟨⟨⟨rfl, rfl⟩, by decide +kernel⟩, by decide +kernel⟩
set_option maxRecDepth 100000 in
theorem m_82 : mI 82 1109 120 3 1107 1108 := ⟨⟨⟨rfl, rfl⟩, by decide +kernel⟩, by decide +kernel⟩
set_option maxRecDepth 100000 in
theorem m_83 : mI 83 1172 120 1 1170 1171 := ⟨⟨⟨rfl, rfl⟩, by decide +kernel⟩, by decide +kernel⟩
set_option maxRecDepth 100000 in
theorem m_84 : mI 84 1133 120 2 1131 1132 := ⟨⟨⟨rfl, rfl⟩, by decide +kernel⟩, by decide +kernel⟩
set_option maxRecDepth 100000 in
theorem m_85 : mI 85 1129 120 1 1127 1128 := ⟨⟨⟨rfl, rfl⟩, by decide +kernel⟩, by decide +kernel⟩
set_option maxRecDepth 100000 in
theorem m_86 : mU 86 140 111 0 139 := ⟨⟨⟨rfl, rfl⟩, by decide +kernel⟩, by decide +kernel⟩
set_option maxRecDepth 100000 in
theorem m_87 : mI 87 388 111 5 386 387 := ⟨⟨⟨rfl, rfl⟩, by decide +kernel⟩, by decide +kernel⟩
set_option maxRecDepth 100000 in
theorem m_88 : mI 88 399 111 1 397 398 := ⟨⟨⟨rfl, rfl⟩, by decide +kernel⟩, by decide +kernel⟩
set_option maxRecDepth 100000 in
theorem m_89 : mI 89 403 111 1 401 402 := ⟨⟨⟨rfl, rfl⟩, by decide +kernel⟩, by decide +kernel⟩
set_option maxRecDepth 100000 in
theorem m_90 : mI 90 662 111 1 660 661 := ⟨⟨⟨rfl, rfl⟩, by decide +kernel⟩, by decide +kernel⟩
set_option maxRecDepth 100000 in
theorem m_91 : mS 91 406 111 1 405 := ⟨⟨⟨rfl, rfl⟩, by decide +kernel⟩, by decide +kernel⟩
set_option maxRecDepth 100000 in
theorem m_92 : mI 92 410 111 1 409 0 := ⟨⟨⟨rfl, rfl⟩, by decide +kernel⟩, by decide +kernel⟩
set_option maxRecDepth 100000 in
theorem m_93 : mI 93 666 111 0 665 14 := ⟨⟨⟨rfl, rfl⟩, by decide +kernel⟩, by decide +kernel⟩
set_option maxRecDepth 100000 in
theorem m_94 : mI 94 694 111 1 692 693 := ⟨⟨⟨rfl, rfl⟩, by decide +kernel⟩, by decide +kernel⟩
set_option maxRecDepth 100000 in
theorem m_95 : mI 95 1189 111 2 1187 1188 := ⟨⟨⟨rfl, rfl⟩, by decide +kernel⟩, by decide +kernel⟩
set_option maxRecDepth 100000 in
theorem m_96 : mI 96 702 111 2 700 701 := ⟨⟨⟨rfl, rfl⟩, by decide +kernel⟩, by decide +kernel⟩
set_option maxRecDepth 100000 in
theorem m_97 : mI 97 714 111 2 712 713 := ⟨⟨⟨rfl, rfl⟩, by decide +kernel⟩, by decide +kernel⟩
set_option maxRecDepth 100000 in
theorem m_98 : mI 98 734 111 1 732 733 := ⟨⟨⟨rfl, rfl⟩, by decide +kernel⟩, by decide +kernel⟩
set_option maxRecDepth 100000 in
theorem m_99 : mI 99 738 111 1 736 737 := ⟨⟨⟨rfl, rfl⟩, by decide +kernel⟩, by decide +kernel⟩
set_option maxRecDepth 100000 in
theorem m_100 : mI 100 742 111 2 740 741 := ⟨⟨⟨rfl, rfl⟩, by decide +kernel⟩, by decide +kernel⟩
set_option maxRecDepth 100000 in
theorem m_101 : mI 101 755 111 1 753 754 := ⟨⟨⟨rfl, rfl⟩, by decide +kernel⟩, by decide +kernel⟩
set_option maxRecDepth 100000 in
theorem m_102 : mI 102 698 111 0 697 15 := ⟨⟨⟨rfl, rfl⟩, by decide +kernel⟩, by decide +kernel⟩
set_option maxRecDepth 100000 in
theorem m_103 : mI 103 781 111 1 780 22 := ⟨⟨⟨rfl, rfl⟩, by decide +kernel⟩, by decide +kernel⟩
set_option maxRecDepth 100000 in
theorem m_104 : mI 104 706 111 1 705 16 := ⟨⟨⟨rfl, rfl⟩, by decide +kernel⟩, by decide +kernel⟩
set_option maxRecDepth 100000 in
theorem m_105 : mI 105 718 111 1 717 17 := ⟨⟨⟨rfl, rfl⟩, by decide +kernel⟩, by decide +kernel⟩
set_option maxRecDepth 100000 in
theorem m_106 : mI 106 759 111 0 758 19 := ⟨⟨⟨rfl, rfl⟩, by decide +kernel⟩, by decide +kernel⟩
set_option maxRecDepth 100000 in
theorem m_107 : mI 107 746 111 0 745 18 := ⟨⟨⟨rfl, rfl⟩, by decide +kernel⟩, by decide +kernel⟩
set_option maxRecDepth 100000 in
theorem m_108 : mI 108 815 111 0 814 24 := ⟨⟨⟨rfl, rfl⟩, by decide +kernel⟩, by decide +kernel⟩
set_option maxRecDepth 100000 in
theorem m_109 : mI 109 769 111 1 767 768 := ⟨⟨⟨rfl, rfl⟩, by decide +kernel⟩, by decide +kernel⟩
set_option maxRecDepth 100000 in
theorem m_110 : mI 110 904 111 0 902 903 := ⟨⟨⟨rfl, rfl⟩, by decide +kernel⟩, by decide +kernel⟩
set_option maxRecDepth 100000 in
theorem m_111 : mI 111 908 111 2 906 907 := ⟨⟨⟨rfl, rfl⟩, by decide +kernel⟩, by decide +kernel⟩
set_option maxRecDepth 100000 in
theorem m_112 : mI 112 912 111 2 910 911 := ⟨⟨⟨rfl, rfl⟩, by decide +kernel⟩, by decide +kernel⟩
set_option maxRecDepth 100000 in
theorem m_113 : mI 113 916 111 0 914 915 := ⟨⟨⟨rfl, rfl⟩, by decide +kernel⟩, by decide +kernel⟩
set_option maxRecDepth 100000 in
theorem m_114 : mI 114 920 111 1 918 919 := ⟨⟨⟨rfl, rfl⟩, by decide +kernel⟩, by decide +kernel⟩
set_option maxRecDepth 100000 in
theorem m_115 : mI 115 928 111 2 926 927 := ⟨⟨⟨rfl, rfl⟩, by decide +kernel⟩, by decide +kernel⟩
set_option maxRecDepth 100000 in
theorem m_116 : mI 116 948 111 0 946 947 := ⟨⟨⟨rfl, rfl⟩, by decide +kernel⟩, by decide +kernel⟩
set_option maxRecDepth 100000 in
theorem m_117 : mI 117 956 111 0 954 955 := ⟨⟨⟨rfl, rfl⟩, by decide +kernel⟩, by decide +kernel⟩
set_option maxRecDepth 100000 in
theorem m_118 : mI 118 970 111 0 968 969 := ⟨⟨⟨rfl, rfl⟩, by decide +kernel⟩, by decide +kernel⟩
set_option maxRecDepth 100000 in
theorem m_119 : mI 119 924 111 1 923 29 := ⟨⟨⟨rfl, rfl⟩, by decide +kernel⟩, by decide +kernel⟩
set_option maxRecDepth 100000 in
theorem m_120 : mI 120 773 111 3 772 20 := ⟨⟨⟨rfl, rfl⟩, by decide +kernel⟩, by decide +kernel⟩
set_option maxRecDepth 100000 in
theorem m_121 : mI 121 777 111 4 776 21 := ⟨⟨⟨rfl, rfl⟩, by decide +kernel⟩, by decide +kernel⟩
set_option maxRecDepth 100000 in
theorem m_122 : mI 122 803 111 4 802 23 := ⟨⟨⟨rfl, rfl⟩, by decide +kernel⟩, by decide +kernel⟩
set_option maxRecDepth 100000 in
theorem m_123 : mI 123 932 111 0 931 30 := ⟨⟨⟨rfl, rfl⟩, by decide +kernel⟩, by decide +kernel⟩
set_option maxRecDepth 100000 in
theorem m_124 : mI 124 936 111 0 935 31 := ⟨⟨⟨rfl, rfl⟩, by decide +kernel⟩, by decide +kernel⟩
set_option maxRecDepth 100000 in
theorem m_125 : mI 125 943 111 1 942 32 := ⟨⟨⟨rfl, rfl⟩, by decide +kernel⟩, by decide +kernel⟩
set_option maxRecDepth 100000 in
theorem m_126 : mI 126 974 111 3 972 973 := ⟨⟨⟨rfl, rfl⟩, by decide +kernel⟩, by decide +kernel⟩
set_option maxRecDepth 100000 in
theorem m_127 : mI 127 986 111 2 984 985 := ⟨⟨⟨rfl, rfl⟩, by decide +kernel⟩, by decide +kernel⟩
set_option maxRecDepth 100000 in
theorem m_128 : mI 128 994 111 1 992 993 := ⟨⟨⟨rfl, rfl⟩, by decide +kernel⟩, by decide +kernel⟩
set_option maxRecDepth 100000 in
theorem m_129 : mI 129 978 111 1 977 33 := ⟨⟨⟨rfl, rfl⟩, by decide +kernel⟩, by decide +kernel⟩
set_option maxRecDepth 100000 in
theorem m_130 : mI 130 990 111 2 989 34 := ⟨⟨⟨rfl, rfl⟩, by decide +kernel⟩, by decide +kernel⟩
set_option maxRecDepth 100000 in
theorem m_131 : mI 131 998 111 2 996 997 := ⟨⟨⟨rfl, rfl⟩, by decide +kernel⟩, by decide +kernel⟩
set_option maxRecDepth 100000 in
theorem m_132 : mI 132 1003 111 2 1001 1002 := ⟨⟨⟨rfl, rfl⟩, by decide +kernel⟩, by decide +kernel⟩
set_option maxRecDepth 100000 in
theorem m_133 : mI 133 1007 111 1 1005 1006 := ⟨⟨⟨rfl, rfl⟩, by decide +kernel⟩, by decide +kernel⟩
set_option maxRecDepth 100000 in
theorem m_134 : mI 134 1016 111 2 1014 1015 := ⟨⟨⟨rfl, rfl⟩, by decide +kernel⟩, by decide +kernel⟩
set_option maxRecDepth 100000 in
theorem m_135 : mI 135 1021 111 1 1019 1020 := ⟨⟨⟨rfl, rfl⟩, by decide +kernel⟩, by decide +kernel⟩
set_option maxRecDepth 100000 in
theorem m_136 : mI 136 1026 111 0 1024 1025 := ⟨⟨⟨rfl, rfl⟩, by decide +kernel⟩, by decide +kernel⟩
set_option maxRecDepth 100000 in
theorem m_137 : mI 137 1011 111 2 1010 35 := ⟨⟨⟨rfl, rfl⟩, by decide +kernel⟩, by decide +kernel⟩
set_option maxRecDepth 100000 in
theorem m_138 : mI 138 1031 111 1 1029 1030 := ⟨⟨⟨rfl, rfl⟩, by decide +kernel⟩, by decide +kernel⟩
set_option maxRecDepth 100000 in
theorem m_139 : mI 139 1043 111 0 1041 1042 := ⟨⟨⟨rfl, rfl⟩, by decide +kernel⟩, by decide +kernel⟩
set_option maxRecDepth 100000 in
theorem m_140 : mI 140 1047 111 1 1045 1046 := ⟨⟨⟨rfl, rfl⟩, by decide +kernel⟩, by decide +kernel⟩
set_option maxRecDepth 100000 in
theorem m_141 : mI 141 1051 111 1 1049 1050 := ⟨⟨⟨rfl, rfl⟩, by decide +kernel⟩, by decide +kernel⟩
set_option maxRecDepth 100000 in
theorem m_142 : mI 142 1055 111 4 1053 1054 := ⟨⟨⟨rfl, rfl⟩, by decide +kernel⟩, by decide +kernel⟩
set_option maxRecDepth 100000 in
theorem m_143 : mI 143 1071 111 3 1069 1070 := ⟨⟨⟨rfl, rfl⟩, by decide +kernel⟩, by decide +kernel⟩
set_option maxRecDepth 100000 in
theorem m_144 : mI 144 1035 111 1 1034 36 := ⟨⟨⟨rfl, rfl⟩, by decide +kernel⟩, by decide +kernel⟩
set_option maxRecDepth 100000 in
theorem m_145 : mI 145 1039 111 1 1038 37 := ⟨⟨⟨rfl, rfl⟩, by decide +kernel⟩, by decide +kernel⟩
set_option maxRecDepth 100000 in
theorem m_146 : mI 146 1059 111 2 1058 38 := ⟨⟨⟨rfl, rfl⟩, by decide +kernel⟩, by decide +kernel⟩
set_option maxRecDepth 100000 in
theorem m_147 : mI 147 1063 111 0 1062 39 := ⟨⟨⟨rfl, rfl⟩, by decide +kernel⟩, by decide +kernel⟩
set_option maxRecDepth 100000 in
theorem m_148 : mI 148 1067 111 4 1066 40 := ⟨⟨⟨rfl, rfl⟩, by decide +kernel⟩, by decide +kernel⟩
set_option maxRecDepth 100000 in
theorem m_149 : mI 149 1075 111 1 1073 1074 := ⟨⟨⟨rfl, rfl⟩, by decide +kernel⟩, by decide +kernel⟩
set_option maxRecDepth 100000 in
theorem m_150 : mI 150 1089 111 0 1087 1088 := ⟨⟨⟨rfl, rfl⟩, by decide +kernel⟩, by decide +kernel⟩
set_option maxRecDepth 100000 in
theorem m_151 : mI 151 1093 111 0 1091 1092 := ⟨⟨⟨rfl, rfl⟩, by decide +kernel⟩, by decide +kernel⟩
set_option maxRecDepth 100000 in
theorem m_152 : mI 152 1097 111 0 1095 1096 := ⟨⟨⟨rfl, rfl⟩, by decide +kernel⟩, by decide +kernel⟩
set_option maxRecDepth 100000 in
theorem m_153 : mI 153 1101 111 0 1099 1100 := ⟨⟨⟨rfl, rfl⟩, by decide +kernel⟩, by decide +kernel⟩
set_option maxRecDepth 100000 in
theorem m_154 : mI 154 1105 111 3 1103 1104 := ⟨⟨⟨rfl, rfl⟩, by decide +kernel⟩, by decide +kernel⟩
set_option maxRecDepth 100000 in
theorem m_155 : mI 155 1113 111 0 1111 1112 := ⟨⟨⟨rfl, rfl⟩, by decide +kernel⟩, by decide +kernel⟩
set_option maxRecDepth 100000 in
theorem m_156 : mI 156 1137 111 2 1135 1136 := ⟨⟨⟨rfl, rfl⟩, by decide +kernel⟩, by decide +kernel⟩
set_option maxRecDepth 100000 in
theorem m_157 : mI 157 1145 111 2 1143 1144 := ⟨⟨⟨rfl, rfl⟩, by decide +kernel⟩, by decide +kernel⟩
set_option maxRecDepth 100000 in
theorem m_158 : mI 158 1149 111 1 1147 1148 := ⟨⟨⟨rfl, rfl⟩, by decide +kernel⟩, by decide +kernel⟩
set_option maxRecDepth 100000 in
theorem m_159 : mI 159 1160 111 0 1158 1159 := ⟨⟨⟨rfl, rfl⟩, by decide +kernel⟩, by decide +kernel⟩
set_option maxRecDepth 100000 in
theorem m_160 : mI 160 1164 111 1 1162 1163 := ⟨⟨⟨rfl, rfl⟩, by decide +kernel⟩, by decide +kernel⟩
set_option maxRecDepth 100000 in
theorem m_161 : mI 161 1141 111 1 1140 45 := ⟨⟨⟨rfl, rfl⟩, by decide +kernel⟩, by decide +kernel⟩
set_option maxRecDepth 100000 in
theorem m_162 : mI 162 1121 111 0 1120 43 := ⟨⟨⟨rfl, rfl⟩, by decide +kernel⟩, by decide +kernel⟩
set_option maxRecDepth 100000 in
theorem m_163 : mI 163 1125 111 1 1124 44 := ⟨⟨⟨rfl, rfl⟩, by decide +kernel⟩, by decide +kernel⟩
set_option maxRecDepth 100000 in
theorem m_164 : mI 164 1117 111 0 1116 42 := ⟨⟨⟨rfl, rfl⟩, by decide +kernel⟩, by decide +kernel⟩
set_option maxRecDepth 100000 in
theorem m_165 : mI 165 1153 111 2 1152 46 := ⟨⟨⟨rfl, rfl⟩, by decide +kernel⟩, by decide +kernel⟩
set_option maxRecDepth 100000 in
theorem m_166 : mI 166 1168 111 1 1167 47 := ⟨⟨⟨rfl, rfl⟩, by decide +kernel⟩, by decide +kernel⟩
set_option maxRecDepth 100000 in
theorem m_167 : mS 167 1180 111 2 1179 := ⟨⟨⟨rfl, rfl⟩, by decide +kernel⟩, by decide +kernel⟩
set_option maxRecDepth 100000 in
theorem m_168 : mU 168 1261 122 0 1260 := ⟨⟨⟨rfl, rfl⟩, by decide +kernel⟩, by decide +kernel⟩
set_option maxRecDepth 100000 in
theorem m_169 : mI 169 1414 122 0 1412 1413 := ⟨⟨⟨rfl, rfl⟩, by decide +kernel⟩, by decide +kernel⟩
set_option maxRecDepth 100000 in
theorem m_170 : mS 170 1437 122 3 1436 := ⟨⟨⟨rfl, rfl⟩, by decide +kernel⟩, by decide +kernel⟩
set_option maxRecDepth 100000 in
theorem m_171 : mS 171 1492 122 2 1491 := ⟨⟨⟨rfl, rfl⟩, by decide +kernel⟩, by decide +kernel⟩
set_option maxRecDepth 100000 in
theorem m_172 : mS 172 1523 122 2 1522 := ⟨⟨⟨rfl, rfl⟩, by decide +kernel⟩, by decide +kernel⟩
set_option maxRecDepth 100000 in
theorem m_173 : mS 173 1421 122 1 1420 := ⟨⟨⟨rfl, rfl⟩, by decide +kernel⟩, by decide +kernel⟩
set_option maxRecDepth 100000 in
theorem m_174 : mI 174 1425 122 1 1424 49 := ⟨⟨⟨rfl, rfl⟩, by decide +kernel⟩, by decide +kernel⟩
set_option maxRecDepth 100000 in
theorem m_175 : mI 175 1418 122 5 1416 1417 := ⟨⟨⟨rfl, rfl⟩, by decide +kernel⟩, by decide +kernel⟩
set_option maxRecDepth 100000 in
theorem m_176 : mI 176 1429 122 1 1427 1428 := ⟨⟨⟨rfl, rfl⟩, by decide +kernel⟩, by decide +kernel⟩
set_option maxRecDepth 100000 in
theorem m_177 : mI 177 1456 122 0 1455 53 := ⟨⟨⟨rfl, rfl⟩, by decide +kernel⟩, by decide +kernel⟩
set_option maxRecDepth 100000 in
theorem m_178 : mI 178 1460 122 0 1459 54 := ⟨⟨⟨rfl, rfl⟩, by decide +kernel⟩, by decide +kernel⟩
set_option maxRecDepth 100000 in
theorem m_179 : mI 179 1555 122 0 1554 68 := ⟨⟨⟨rfl, rfl⟩, by decide +kernel⟩, by decide +kernel⟩
set_option maxRecDepth 100000 in
theorem m_180 : mI 180 1527 122 1 1526 61 := ⟨⟨⟨rfl, rfl⟩, by decide +kernel⟩, by decide +kernel⟩
set_option maxRecDepth 100000 in
theorem m_181 : mI 181 1506 122 0 1505 57 := ⟨⟨⟨rfl, rfl⟩, by decide +kernel⟩, by decide +kernel⟩
set_option maxRecDepth 100000 in
theorem m_182 : mS 182 1558 122 1 1557 := ⟨⟨⟨rfl, rfl⟩, by decide +kernel⟩, by decide +kernel⟩
set_option maxRecDepth 100000 in
theorem m_183 : mI 183 1551 122 0 1550 67 := ⟨⟨⟨rfl, rfl⟩, by decide +kernel⟩, by decide +kernel⟩
set_option maxRecDepth 100000 in
theorem m_184 : mI 184 1547 122 0 1546 66 := ⟨⟨⟨rfl, rfl⟩, by decide +kernel⟩, by decide +kernel⟩
set_option maxRecDepth 100000 in
theorem m_185 : mI 185 1543 122 0 1542 65 := ⟨⟨⟨rfl, rfl⟩, by decide +kernel⟩, by decide +kernel⟩
set_option maxRecDepth 100000 in
theorem m_186 : mS 186 1565 122 1 1564 := ⟨⟨⟨rfl, rfl⟩, by decide +kernel⟩, by decide +kernel⟩
set_option maxRecDepth 100000 in
theorem m_187 : mI 187 1539 122 2 1538 64 := ⟨⟨⟨rfl, rfl⟩, by decide +kernel⟩, by decide +kernel⟩
set_option maxRecDepth 100000 in
theorem m_188 : mI 188 1569 122 0 1568 69 := ⟨⟨⟨rfl, rfl⟩, by decide +kernel⟩, by decide +kernel⟩
set_option maxRecDepth 100000 in
theorem m_189 : mI 189 1535 122 2 1534 63 := ⟨⟨⟨rfl, rfl⟩, by decide +kernel⟩, by decide +kernel⟩
set_option maxRecDepth 100000 in
theorem m_190 : mI 190 1531 122 2 1530 62 := ⟨⟨⟨rfl, rfl⟩, by decide +kernel⟩, by decide +kernel⟩
set_option maxRecDepth 100000 in
theorem m_191 : mI 191 1520 122 0 1519 60 := ⟨⟨⟨rfl, rfl⟩, by decide +kernel⟩, by decide +kernel⟩
set_option maxRecDepth 100000 in
theorem m_192 : mI 192 1445 122 3 1444 51 := ⟨⟨⟨rfl, rfl⟩, by decide +kernel⟩, by decide +kernel⟩
set_option maxRecDepth 100000 in
theorem m_193 : mI 193 1516 122 3 1515 59 := ⟨⟨⟨rfl, rfl⟩, by decide +kernel⟩, by decide +kernel⟩
set_option maxRecDepth 100000 in
theorem m_194 : mI 194 1510 122 0 1509 58 := ⟨⟨⟨rfl, rfl⟩, by decide +kernel⟩, by decide +kernel⟩
set_option maxRecDepth 100000 in
theorem m_195 : mS 195 1469 122 2 1468 := ⟨⟨⟨rfl, rfl⟩, by decide +kernel⟩, by decide +kernel⟩
set_option maxRecDepth 100000 in
theorem m_196 : mI 196 1502 122 2 1501 56 := ⟨⟨⟨rfl, rfl⟩, by decide +kernel⟩, by decide +kernel⟩
set_option maxRecDepth 100000 in
theorem m_197 : mS 197 1498 122 2 1497 := ⟨⟨⟨rfl, rfl⟩, by decide +kernel⟩, by decide +kernel⟩
set_option maxRecDepth 100000 in
theorem m_198 : mS 198 1495 122 2 1494 := ⟨⟨⟨rfl, rfl⟩, by decide +kernel⟩, by decide +kernel⟩
set_option maxRecDepth 100000 in
theorem m_199 : mS 199 1448 122 2 1447 := ⟨⟨⟨rfl, rfl⟩, by decide +kernel⟩, by decide +kernel⟩
set_option maxRecDepth 100000 in
theorem m_200 : mI 200 1465 122 4 1464 55 := ⟨⟨⟨rfl, rfl⟩, by decide +kernel⟩, by decide +kernel⟩
set_option maxRecDepth 100000 in
theorem m_201 : mI 201 1452 122 0 1451 52 := ⟨⟨⟨rfl, rfl⟩, by decide +kernel⟩, by decide +kernel⟩
set_option maxRecDepth 100000 in
theorem m_202 : mI 202 1441 122 0 1440 50 := ⟨⟨⟨rfl, rfl⟩, by decide +kernel⟩, by decide +kernel⟩
set_option maxRecDepth 100000 in
theorem m_203 : mI 203 1582 122 0 1581 72 := ⟨⟨⟨rfl, rfl⟩, by decide +kernel⟩, by decide +kernel⟩
set_option maxRecDepth 100000 in
theorem m_204 : mI 204 1577 122 1 1576 71 := ⟨⟨⟨rfl, rfl⟩, by decide +kernel⟩, by decide +kernel⟩
set_option maxRecDepth 100000 in
theorem m_205 : mI 205 1573 122 0 1572 70 := ⟨⟨⟨rfl, rfl⟩, by decide +kernel⟩, by decide +kernel⟩
set_option maxRecDepth 100000 in
theorem m_206 : mI 206 1433 122 1 1431 1432 := ⟨⟨⟨rfl, rfl⟩, by decide +kernel⟩, by decide +kernel⟩
set_option maxRecDepth 100000 in
theorem m_207 : mI 207 1586 122 1 1584 1585 := ⟨⟨⟨rfl, rfl⟩, by decide +kernel⟩, by decide +kernel⟩
set_option maxRecDepth 100000 in
theorem m_208 : mS 208 1767 122 2 1766 := ⟨⟨⟨rfl, rfl⟩, by decide +kernel⟩, by decide +kernel⟩
set_option maxRecDepth 100000 in
theorem m_209 : mI 209 1604 122 1 1603 74 := ⟨⟨⟨rfl, rfl⟩, by decide +kernel⟩, by decide +kernel⟩
set_option maxRecDepth 100000 in
theorem m_210 : mI 210 1621 122 1 1620 76 := ⟨⟨⟨rfl, rfl⟩, by decide +kernel⟩, by decide +kernel⟩
set_option maxRecDepth 100000 in
theorem m_211 : mI 211 1591 122 2 1590 73 := ⟨⟨⟨rfl, rfl⟩, by decide +kernel⟩, by decide +kernel⟩
set_option maxRecDepth 100000 in
theorem m_212 : mI 212 1613 122 2 1612 75 := ⟨⟨⟨rfl, rfl⟩, by decide +kernel⟩, by decide +kernel⟩
set_option maxRecDepth 100000 in
theorem m_213 : mI 213 1662 122 1 1661 82 := ⟨⟨⟨rfl, rfl⟩, by decide +kernel⟩, by decide +kernel⟩
set_option maxRecDepth 100000 in
theorem m_214 : mI 214 1678 122 4 1677 86 := ⟨⟨⟨rfl, rfl⟩, by decide +kernel⟩, by decide +kernel⟩
set_option maxRecDepth 100000 in
theorem m_215 : mI 215 1674 122 3 1673 85 := ⟨⟨⟨rfl, rfl⟩, by decide +kernel⟩, by decide +kernel⟩
set_option maxRecDepth 100000 in
theorem m_216 : mI 216 1684 122 2 1683 87 := ⟨⟨⟨rfl, rfl⟩, by decide +kernel⟩, by decide +kernel⟩
set_option maxRecDepth 100000 in
theorem m_217 : mI 217 1654 122 1 1653 80 := ⟨⟨⟨rfl, rfl⟩, by decide +kernel⟩, by decide +kernel⟩
set_option maxRecDepth 100000 in
theorem m_218 : mI 218 1670 122 3 1669 84 := ⟨⟨⟨rfl, rfl⟩, by decide +kernel⟩, by decide +kernel⟩
set_option maxRecDepth 100000 in
theorem m_219 : mI 219 1666 122 2 1665 83 := ⟨⟨⟨rfl, rfl⟩, by decide +kernel⟩, by decide +kernel⟩
set_option maxRecDepth 100000 in
theorem m_220 : mI 220 1658 122 1 1657 81 := ⟨⟨⟨rfl, rfl⟩, by decide +kernel⟩, by decide +kernel⟩
set_option maxRecDepth 100000 in
theorem m_221 : mI 221 1729 122 1 1728 93 := ⟨⟨⟨rfl, rfl⟩, by decide +kernel⟩, by decide +kernel⟩
set_option maxRecDepth 100000 in
theorem m_222 : mI 222 1595 122 1 1593 1594 := ⟨⟨⟨rfl, rfl⟩, by decide +kernel⟩, by decide +kernel⟩
set_option maxRecDepth 100000 in
theorem m_223 : mI 223 1600 122 2 1598 1599 := ⟨⟨⟨rfl, rfl⟩, by decide +kernel⟩, by decide +kernel⟩
set_option maxRecDepth 100000 in
theorem m_224 : mI 224 1609 122 2 1607 1608 := ⟨⟨⟨rfl, rfl⟩, by decide +kernel⟩, by decide +kernel⟩
set_option maxRecDepth 100000 in
theorem m_225 : mI 225 1617 122 2 1615 1616 := ⟨⟨⟨rfl, rfl⟩, by decide +kernel⟩, by decide +kernel⟩
set_option maxRecDepth 100000 in
theorem m_226 : mI 226 1625 122 1 1623 1624 := ⟨⟨⟨rfl, rfl⟩, by decide +kernel⟩, by decide +kernel⟩
set_option maxRecDepth 100000 in
theorem m_227 : mI 227 1629 122 1 1627 1628 := ⟨⟨⟨rfl, rfl⟩, by decide +kernel⟩, by decide +kernel⟩
set_option maxRecDepth 100000 in
theorem m_228 : mI 228 1642 122 0 1641 78 := ⟨⟨⟨rfl, rfl⟩, by decide +kernel⟩, by decide +kernel⟩
set_option maxRecDepth 100000 in
theorem m_229 : mI 229 1638 122 2 1637 77 := ⟨⟨⟨rfl, rfl⟩, by decide +kernel⟩, by decide +kernel⟩
set_option maxRecDepth 100000 in
theorem m_230 : mI 230 1634 122 1 1632 1633 := ⟨⟨⟨rfl, rfl⟩, by decide +kernel⟩, by decide +kernel⟩
set_option maxRecDepth 100000 in
theorem m_231 : mI 231 1650 122 1 1649 79 := ⟨⟨⟨rfl, rfl⟩, by decide +kernel⟩, by decide +kernel⟩
set_option maxRecDepth 100000 in
theorem m_232 : mI 232 1646 122 0 1644 1645 := ⟨⟨⟨rfl, rfl⟩, by decide +kernel⟩, by decide +kernel⟩
set_option maxRecDepth 100000 in
theorem m_233 : mI 233 1693 122 2 1692 88 := ⟨⟨⟨rfl, rfl⟩, by decide +kernel⟩, by decide +kernel⟩
set_option maxRecDepth 100000 in
theorem m_234 : mS 234 1696 122 3 1695 := ⟨⟨⟨rfl, rfl⟩, by decide +kernel⟩, by decide +kernel⟩
set_option maxRecDepth 100000 in
theorem m_235 : mI 235 1689 122 2 1687 1688 := ⟨⟨⟨rfl, rfl⟩, by decide +kernel⟩, by decide +kernel⟩
set_option maxRecDepth 100000 in
theorem m_236 : mI 236 1700 122 2 1698 1699 := ⟨⟨⟨rfl, rfl⟩, by decide +kernel⟩, by decide +kernel⟩
set_option maxRecDepth 100000 in
theorem m_237 : mI 237 1712 122 1 1711 90 := ⟨⟨⟨rfl, rfl⟩, by decide +kernel⟩, by decide +kernel⟩
set_option maxRecDepth 100000 in
theorem m_238 : mI 238 1708 122 1 1707 89 := ⟨⟨⟨rfl, rfl⟩, by decide +kernel⟩, by decide +kernel⟩
set_option maxRecDepth 100000 in
theorem m_239 : mI 239 1716 122 1 1715 91 := ⟨⟨⟨rfl, rfl⟩, by decide +kernel⟩, by decide +kernel⟩
set_option maxRecDepth 100000 in
theorem m_240 : mI 240 1704 122 0 1702 1703 := ⟨⟨⟨rfl, rfl⟩, by decide +kernel⟩, by decide +kernel⟩
set_option maxRecDepth 100000 in
theorem m_241 : mI 241 1724 122 1 1723 92 := ⟨⟨⟨rfl, rfl⟩, by decide +kernel⟩, by decide +kernel⟩
set_option maxRecDepth 100000 in
theorem m_242 : mI 242 1720 122 1 1718 1719 := ⟨⟨⟨rfl, rfl⟩, by decide +kernel⟩, by decide +kernel⟩
set_option maxRecDepth 100000 in
theorem m_243 : mI 243 1737 122 1 1736 94 := ⟨⟨⟨rfl, rfl⟩, by decide +kernel⟩, by decide +kernel⟩
set_option maxRecDepth 100000 in
theorem m_244 : mI 244 1743 122 1 1742 95 := ⟨⟨⟨rfl, rfl⟩, by decide +kernel⟩, by decide +kernel⟩
set_option maxRecDepth 100000 in
theorem m_245 : mI 245 1733 122 2 1731 1732 := ⟨⟨⟨rfl, rfl⟩, by decide +kernel⟩, by decide +kernel⟩
set_option maxRecDepth 100000 in
theorem m_246 : mI 246 1747 122 0 1745 1746 := ⟨⟨⟨rfl, rfl⟩, by decide +kernel⟩, by decide +kernel⟩
set_option maxRecDepth 100000 in
theorem m_247 : mI 247 1751 122 2 1749 1750 := ⟨⟨⟨rfl, rfl⟩, by decide +kernel⟩, by decide +kernel⟩
set_option maxRecDepth 100000 in
theorem m_248 : mI 248 1759 122 1 1758 96 := ⟨⟨⟨rfl, rfl⟩, by decide +kernel⟩, by decide +kernel⟩
set_option maxRecDepth 100000 in
theorem m_249 : mI 249 1755 122 3 1753 1754 := ⟨⟨⟨rfl, rfl⟩, by decide +kernel⟩, by decide +kernel⟩
set_option maxRecDepth 100000 in
theorem m_250 : mI 250 1771 122 2 1770 97 := ⟨⟨⟨rfl, rfl⟩, by decide +kernel⟩, by decide +kernel⟩
set_option maxRecDepth 100000 in
theorem m_251 : mI 251 1775 122 2 1774 98 := ⟨⟨⟨rfl, rfl⟩, by decide +kernel⟩, by decide +kernel⟩
set_option maxRecDepth 100000 in
theorem m_252 : mI 252 1764 122 2 1762 1763 := ⟨⟨⟨rfl, rfl⟩, by decide +kernel⟩, by decide +kernel⟩
set_option maxRecDepth 100000 in
theorem m_253 : mI 253 1779 122 1 1777 1778 := ⟨⟨⟨rfl, rfl⟩, by decide +kernel⟩, by decide +kernel⟩
set_option maxRecDepth 100000 in
theorem m_254 : mI 254 1783 122 2 1781 1782 := ⟨⟨⟨rfl, rfl⟩, by decide +kernel⟩, by decide +kernel⟩
set_option maxRecDepth 100000 in
theorem m_255 : mI 255 1787 122 2 1785 1786 := ⟨⟨⟨rfl, rfl⟩, by decide +kernel⟩, by decide +kernel⟩
set_option maxRecDepth 100000 in
theorem m_256 : mI 256 1799 122 2 1798 100 := ⟨⟨⟨rfl, rfl⟩, by decide +kernel⟩, by decide +kernel⟩
set_option maxRecDepth 100000 in
theorem m_257 : mI 257 1795 122 1 1794 99 := ⟨⟨⟨rfl, rfl⟩, by decide +kernel⟩, by decide +kernel⟩
set_option maxRecDepth 100000 in
theorem m_258 : mI 258 1791 122 1 1789 1790 := ⟨⟨⟨rfl, rfl⟩, by decide +kernel⟩, by decide +kernel⟩
set_option maxRecDepth 100000 in
theorem m_259 : mI 259 1803 122 0 1801 1802 := ⟨⟨⟨rfl, rfl⟩, by decide +kernel⟩, by decide +kernel⟩
set_option maxRecDepth 100000 in
theorem m_260 : mI 260 1811 122 4 1810 101 := ⟨⟨⟨rfl, rfl⟩, by decide +kernel⟩, by decide +kernel⟩
set_option maxRecDepth 100000 in
theorem m_261 : mI 261 1807 122 1 1805 1806 := ⟨⟨⟨rfl, rfl⟩, by decide +kernel⟩, by decide +kernel⟩
set_option maxRecDepth 100000 in
theorem m_262 : mI 262 1815 122 3 1813 1814 := ⟨⟨⟨rfl, rfl⟩, by decide +kernel⟩, by decide +kernel⟩
set_option maxRecDepth 100000 in
theorem m_263 : mI 263 1831 122 1 1830 104 := ⟨⟨⟨rfl, rfl⟩, by decide +kernel⟩, by decide +kernel⟩
set_option maxRecDepth 100000 in
theorem m_264 : mI 264 1827 122 0 1826 103 := ⟨⟨⟨rfl, rfl⟩, by decide +kernel⟩, by decide +kernel⟩
set_option maxRecDepth 100000 in
theorem m_265 : mI 265 1823 122 0 1822 102 := ⟨⟨⟨rfl, rfl⟩, by decide +kernel⟩, by decide +kernel⟩
set_option maxRecDepth 100000 in
theorem m_266 : mI 266 1819 122 0 1817 1818 := ⟨⟨⟨rfl, rfl⟩, by decide +kernel⟩, by decide +kernel⟩
set_option maxRecDepth 100000 in
theorem m_267 : mI 267 1839 122 1 1838 105 := ⟨⟨⟨rfl, rfl⟩, by decide +kernel⟩, by decide +kernel⟩
set_option maxRecDepth 100000 in
theorem m_268 : mI 268 1835 122 2 1833 1834 := ⟨⟨⟨rfl, rfl⟩, by decide +kernel⟩, by decide +kernel⟩
set_option maxRecDepth 100000 in
theorem m_269 : mI 269 1844 122 2 1842 1843 := ⟨⟨⟨rfl, rfl⟩, by decide +kernel⟩, by decide +kernel⟩
set_option maxRecDepth 100000 in
theorem m_270 : mI 270 1849 122 1 1847 1848 := ⟨⟨⟨rfl, rfl⟩, by decide +kernel⟩, by decide +kernel⟩
set_option maxRecDepth 100000 in
theorem m_271 : mI 271 1854 122 0 1852 1853 := ⟨⟨⟨rfl, rfl⟩, by decide +kernel⟩, by decide +kernel⟩
set_option maxRecDepth 100000 in
theorem m_272 : mI 272 1862 122 1 1861 106 := ⟨⟨⟨rfl, rfl⟩, by decide +kernel⟩, by decide +kernel⟩
set_option maxRecDepth 100000 in
theorem m_273 : mI 273 1858 122 1 1856 1857 := ⟨⟨⟨rfl, rfl⟩, by decide +kernel⟩, by decide +kernel⟩
set_option maxRecDepth 100000 in
theorem m_274 : mI 274 1867 122 1 1865 1866 := ⟨⟨⟨rfl, rfl⟩, by decide +kernel⟩, by decide +kernel⟩
set_option maxRecDepth 100000 in
theorem m_275 : mI 275 1875 122 2 1874 107 := ⟨⟨⟨rfl, rfl⟩, by decide +kernel⟩, by decide +kernel⟩
set_option maxRecDepth 100000 in
theorem m_276 : mI 276 1871 122 2 1869 1870 := ⟨⟨⟨rfl, rfl⟩, by decide +kernel⟩, by decide +kernel⟩
set_option maxRecDepth 100000 in
theorem m_277 : mI 277 1879 122 0 1877 1878 := ⟨⟨⟨rfl, rfl⟩, by decide +kernel⟩, by decide +kernel⟩
set_option maxRecDepth 100000 in
theorem m_278 : mI 278 1883 122 1 1881 1882 := ⟨⟨⟨rfl, rfl⟩, by decide +kernel⟩, by decide +kernel⟩
set_option maxRecDepth 100000 in
theorem m_279 : mI 279 1887 122 0 1885 1886 := ⟨⟨⟨rfl, rfl⟩, by decide +kernel⟩, by decide +kernel⟩
set_option maxRecDepth 100000 in
theorem m_280 : mI 280 1891 122 1 1889 1890 := ⟨⟨⟨rfl, rfl⟩, by decide +kernel⟩, by decide +kernel⟩
set_option maxRecDepth 100000 in
theorem m_281 : mI 281 1895 122 0 1893 1894 := ⟨⟨⟨rfl, rfl⟩, by decide +kernel⟩, by decide +kernel⟩
set_option maxRecDepth 100000 in
theorem m_282 : mI 282 1899 122 0 1897 1898 := ⟨⟨⟨rfl, rfl⟩, by decide +kernel⟩, by decide +kernel⟩
set_option maxRecDepth 100000 in
theorem m_283 : mI 283 1903 122 0 1901 1902 := ⟨⟨⟨rfl, rfl⟩, by decide +kernel⟩, by decide +kernel⟩
set_option maxRecDepth 100000 in
theorem m_284 : mI 284 1907 122 1 1905 1906 := ⟨⟨⟨rfl, rfl⟩, by decide +kernel⟩, by decide +kernel⟩
set_option maxRecDepth 100000 in
theorem m_285 : mI 285 1915 122 2 1914 108 := ⟨⟨⟨rfl, rfl⟩, by decide +kernel⟩, by decide +kernel⟩
set_option maxRecDepth 100000 in
theorem m_286 : mI 286 1919 122 4 1918 109 := ⟨⟨⟨rfl, rfl⟩, by decide +kernel⟩, by decide +kernel⟩
set_option maxRecDepth 100000 in
theorem m_287 : mI 287 1911 122 4 1909 1910 := ⟨⟨⟨rfl, rfl⟩, by decide +kernel⟩, by decide +kernel⟩
set_option maxRecDepth 100000 in
theorem m_288 : mI 288 1923 122 3 1921 1922 := ⟨⟨⟨rfl, rfl⟩, by decide +kernel⟩, by decide +kernel⟩
set_option maxRecDepth 100000 in
theorem m_289 : mI 289 1927 122 0 1925 1926 := ⟨⟨⟨rfl, rfl⟩, by decide +kernel⟩, by decide +kernel⟩
set_option maxRecDepth 100000 in
theorem m_290 : mI 290 1931 122 0 1929 1930 := ⟨⟨⟨rfl, rfl⟩, by decide +kernel⟩, by decide +kernel⟩
set_option maxRecDepth 100000 in
theorem m_291 : mI 291 1935 122 1 1933 1934 := ⟨⟨⟨rfl, rfl⟩, by decide +kernel⟩, by decide +kernel⟩
set_option maxRecDepth 100000 in
theorem m_295 : mS 295 889 135 1 888 := ⟨⟨⟨rfl, rfl⟩, by decide +kernel⟩, by decide +kernel⟩
set_option maxRecDepth 100000 in
theorem m_301 : mI 301 452 124 0 450 451 := ⟨⟨⟨rfl, rfl⟩, by decide +kernel⟩, by decide +kernel⟩
set_option maxRecDepth 100000 in
theorem m_302 : mI 302 1473 124 1 1471 1472 := ⟨⟨⟨rfl, rfl⟩, by decide +kernel⟩, by decide +kernel⟩
set_option maxRecDepth 100000 in
theorem m_303 : mI 303 467 124 1 465 466 := ⟨⟨⟨rfl, rfl⟩, by decide +kernel⟩, by decide +kernel⟩
set_option maxRecDepth 100000 in
theorem m_304 : mI 304 471 124 2 469 470 := ⟨⟨⟨rfl, rfl⟩, by decide +kernel⟩, by decide +kernel⟩
set_option maxRecDepth 100000 in
theorem m_305 : mI 305 456 124 0 454 455 := ⟨⟨⟨rfl, rfl⟩, by decide +kernel⟩, by decide +kernel⟩
set_option maxRecDepth 100000 in
theorem m_306 : mI 306 475 124 0 473 474 := ⟨⟨⟨rfl, rfl⟩, by decide +kernel⟩, by decide +kernel⟩
set_option maxRecDepth 100000 in
theorem m_307 : mS 307 1479 124 2 1478 := ⟨⟨⟨rfl, rfl⟩, by decide +kernel⟩, by decide +kernel⟩
set_option maxRecDepth 100000 in
theorem m_308 : mS 308 509 124 3 508 := ⟨⟨⟨rfl, rfl⟩, by decide +kernel⟩, by decide +kernel⟩
set_option maxRecDepth 100000 in
theorem m_309 : mS 309 1476 125 2 1475 := ⟨⟨⟨rfl, rfl⟩, by decide +kernel⟩, by decide +kernel⟩
set_option maxRecDepth 100000 in
theorem m_310 : mS 310 482 125 1 481 := ⟨⟨⟨rfl, rfl⟩, by decide +kernel⟩, by decide +kernel⟩
set_option maxRecDepth 100000 in
theorem m_311 : mS 311 479 125 4 478 := ⟨⟨⟨rfl, rfl⟩, by decide +kernel⟩, by decide +kernel⟩
set_option maxRecDepth 100000 in
theorem m_312 : mS 312 491 125 4 490 := ⟨⟨⟨rfl, rfl⟩, by decide +kernel⟩, by decide +kernel⟩
set_option maxRecDepth 100000 in
theorem m_322 : mS 322 673 130 2 672 := ⟨⟨⟨rfl, rfl⟩, by decide +kernel⟩, by decide +kernel⟩
set_option maxRecDepth 100000 in
theorem m_323 : mS 323 1482 128 3 1481 := ⟨⟨⟨rfl, rfl⟩, by decide +kernel⟩, by decide +kernel⟩
set_option maxRecDepth 100000 in
theorem m_324 : mS 324 514 128 4 513 := ⟨⟨⟨rfl, rfl⟩, by decide +kernel⟩, by decide +kernel⟩
