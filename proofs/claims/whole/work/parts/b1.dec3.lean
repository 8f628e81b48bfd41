/-! the law's code -/
theorem d_law_666 : decode code 666 = .ok (.iaload, 1) := by decide +kernel
theorem d_law_667 : decode code 667 = .ok (.i2l, 1) := by decide +kernel
theorem d_law_668 : decode code 668 = .ok (.bipush (32), 2) := by decide +kernel
theorem d_law_670 : decode code 670 = .ok (.lshl, 1) := by decide +kernel
theorem d_law_671 : decode code 671 = .ok (.aload_n 0, 1) := by decide +kernel
theorem d_law_672 : decode code 672 = .ok (.iload 4, 2) := by decide +kernel
theorem d_law_674 : decode code 674 = .ok (.iconst (3), 1) := by decide +kernel
theorem d_law_675 : decode code 675 = .ok (.iadd, 1) := by decide +kernel
theorem d_law_676 : decode code 676 = .ok (.iaload, 1) := by decide +kernel
theorem d_law_677 : decode code 677 = .ok (.i2l, 1) := by decide +kernel
theorem d_law_678 : decode code 678 = .ok (.ldc2_w 99, 3) := by decide +kernel
theorem d_law_681 : decode code 681 = .ok (.land, 1) := by decide +kernel
theorem d_law_682 : decode code 682 = .ok (.lor, 1) := by decide +kernel
theorem d_law_683 : decode code 683 = .ok (.invokevirtual 104, 3) := by decide +kernel
theorem d_law_686 : decode code 686 = .ok (.aload_n 2, 1) := by decide +kernel
theorem d_law_687 : decode code 687 = .ok (.invokevirtual 66, 3) := by decide +kernel
theorem d_law_690 : decode code 690 = .ok (.iload 5, 2) := by decide +kernel
theorem d_law_692 : decode code 692 = .ok (.if_icmp .eq (5), 3) := by decide +kernel
theorem d_law_695 : decode code 695 = .ok (.iconst (0), 1) := by decide +kernel
theorem d_law_696 : decode code 696 = .ok (.ireturn, 1) := by decide +kernel
theorem d_law_697 : decode code 697 = .ok (.goto (383), 3) := by decide +kernel
theorem d_law_700 : decode code 700 = .ok (.aload_n 1, 1) := by decide +kernel
theorem d_law_701 : decode code 701 = .ok (.aload_n 0, 1) := by decide +kernel
theorem d_law_702 : decode code 702 = .ok (.iload 4, 2) := by decide +kernel
theorem d_law_704 : decode code 704 = .ok (.iconst (1), 1) := by decide +kernel
theorem d_law_705 : decode code 705 = .ok (.iadd, 1) := by decide +kernel
theorem d_law_706 : decode code 706 = .ok (.iaload, 1) := by decide +kernel
theorem d_law_707 : decode code 707 = .ok (.aload_n 3, 1) := by decide +kernel
theorem d_law_708 : decode code 708 = .ok (.invokestatic 105, 3) := by decide +kernel
theorem d_law_711 : decode code 711 = .ok (.istore 5, 2) := by decide +kernel
theorem d_law_713 : decode code 713 = .ok (.aload_n 2, 1) := by decide +kernel
theorem d_law_714 : decode code 714 = .ok (.aload_n 0, 1) := by decide +kernel
theorem d_law_715 : decode code 715 = .ok (.iload 4, 2) := by decide +kernel
theorem d_law_717 : decode code 717 = .ok (.iconst (1), 1) := by decide +kernel
theorem d_law_718 : decode code 718 = .ok (.iadd, 1) := by decide +kernel
theorem d_law_719 : decode code 719 = .ok (.iaload, 1) := by decide +kernel
theorem d_law_720 : decode code 720 = .ok (.invokevirtual 108, 3) := by decide +kernel
theorem d_law_723 : decode code 723 = .ok (.istore 6, 2) := by decide +kernel
theorem d_law_725 : decode code 725 = .ok (.aload_n 2, 1) := by decide +kernel
theorem d_law_726 : decode code 726 = .ok (.invokevirtual 66, 3) := by decide +kernel
theorem d_law_729 : decode code 729 = .ok (.iload 5, 2) := by decide +kernel
theorem d_law_731 : decode code 731 = .ok (.if_icmp .eq (5), 3) := by decide +kernel
theorem d_law_734 : decode code 734 = .ok (.iconst (0), 1) := by decide +kernel
theorem d_law_735 : decode code 735 = .ok (.ireturn, 1) := by decide +kernel
theorem d_law_736 : decode code 736 = .ok (.iload 5, 2) := by decide +kernel
theorem d_law_738 : decode code 738 = .ok (.ifCond .ne (15), 3) := by decide +kernel
theorem d_law_741 : decode code 741 = .ok (.aload_n 3, 1) := by decide +kernel
theorem d_law_742 : decode code 742 = .ok (.iconst (0), 1) := by decide +kernel
theorem d_law_743 : decode code 743 = .ok (.laload, 1) := by decide +kernel
theorem d_law_744 : decode code 744 = .ok (.iload 6, 2) := by decide +kernel
theorem d_law_746 : decode code 746 = .ok (.i2l, 1) := by decide +kernel
theorem d_law_747 : decode code 747 = .ok (.lcmp, 1) := by decide +kernel
theorem d_law_748 : decode code 748 = .ok (.ifCond .eq (5), 3) := by decide +kernel
theorem d_law_751 : decode code 751 = .ok (.iconst (0), 1) := by decide +kernel
theorem d_law_752 : decode code 752 = .ok (.ireturn, 1) := by decide +kernel
theorem d_law_753 : decode code 753 = .ok (.goto (327), 3) := by decide +kernel
theorem d_law_756 : decode code 756 = .ok (.aload_n 1, 1) := by decide +kernel
theorem d_law_757 : decode code 757 = .ok (.aload_n 0, 1) := by decide +kernel
theorem d_law_758 : decode code 758 = .ok (.iload 4, 2) := by decide +kernel
theorem d_law_760 : decode code 760 = .ok (.iconst (1), 1) := by decide +kernel
theorem d_law_761 : decode code 761 = .ok (.iadd, 1) := by decide +kernel
theorem d_law_762 : decode code 762 = .ok (.iaload, 1) := by decide +kernel
theorem d_law_763 : decode code 763 = .ok (.aload_n 0, 1) := by decide +kernel
theorem d_law_764 : decode code 764 = .ok (.iload 4, 2) := by decide +kernel
theorem d_law_766 : decode code 766 = .ok (.iconst (2), 1) := by decide +kernel
theorem d_law_767 : decode code 767 = .ok (.iadd, 1) := by decide +kernel
theorem d_law_768 : decode code 768 = .ok (.iaload, 1) := by decide +kernel
theorem d_law_769 : decode code 769 = .ok (.invokevirtual 109, 3) := by decide +kernel
theorem d_law_772 : decode code 772 = .ok (.aload_n 2, 1) := by decide +kernel
theorem d_law_773 : decode code 773 = .ok (.aload_n 0, 1) := by decide +kernel
theorem d_law_774 : decode code 774 = .ok (.iload 4, 2) := by decide +kernel
theorem d_law_776 : decode code 776 = .ok (.iconst (1), 1) := by decide +kernel
theorem d_law_777 : decode code 777 = .ok (.iadd, 1) := by decide +kernel
theorem d_law_778 : decode code 778 = .ok (.iaload, 1) := by decide +kernel
theorem d_law_779 : decode code 779 = .ok (.aload_n 0, 1) := by decide +kernel
theorem d_law_780 : decode code 780 = .ok (.iload 4, 2) := by decide +kernel
theorem d_law_782 : decode code 782 = .ok (.iconst (2), 1) := by decide +kernel
theorem d_law_783 : decode code 783 = .ok (.iadd, 1) := by decide +kernel
theorem d_law_784 : decode code 784 = .ok (.iaload, 1) := by decide +kernel
theorem d_law_785 : decode code 785 = .ok (.invokevirtual 113, 3) := by decide +kernel
theorem d_law_788 : decode code 788 = .ok (.if_icmp .eq (292), 3) := by decide +kernel
theorem d_law_791 : decode code 791 = .ok (.iconst (0), 1) := by decide +kernel
theorem d_law_792 : decode code 792 = .ok (.ireturn, 1) := by decide +kernel
theorem d_law_793 : decode code 793 = .ok (.aload_n 1, 1) := by decide +kernel
theorem d_law_794 : decode code 794 = .ok (.aload_n 0, 1) := by decide +kernel
theorem d_law_795 : decode code 795 = .ok (.iload 4, 2) := by decide +kernel
theorem d_law_797 : decode code 797 = .ok (.iconst (1), 1) := by decide +kernel
theorem d_law_798 : decode code 798 = .ok (.iadd, 1) := by decide +kernel
theorem d_law_799 : decode code 799 = .ok (.iaload, 1) := by decide +kernel
theorem d_law_800 : decode code 800 = .ok (.aload_n 0, 1) := by decide +kernel
theorem d_law_801 : decode code 801 = .ok (.iload 4, 2) := by decide +kernel
theorem d_law_803 : decode code 803 = .ok (.iconst (2), 1) := by decide +kernel
theorem d_law_804 : decode code 804 = .ok (.iadd, 1) := by decide +kernel
theorem d_law_805 : decode code 805 = .ok (.iaload, 1) := by decide +kernel
theorem d_law_806 : decode code 806 = .ok (.invokevirtual 114, 3) := by decide +kernel
theorem d_law_809 : decode code 809 = .ok (.aload_n 2, 1) := by decide +kernel
theorem d_law_810 : decode code 810 = .ok (.aload_n 0, 1) := by decide +kernel
theorem d_law_811 : decode code 811 = .ok (.iload 4, 2) := by decide +kernel
theorem d_law_813 : decode code 813 = .ok (.iconst (1), 1) := by decide +kernel
theorem d_law_814 : decode code 814 = .ok (.iadd, 1) := by decide +kernel
theorem d_law_815 : decode code 815 = .ok (.iaload, 1) := by decide +kernel
theorem d_law_816 : decode code 816 = .ok (.aload_n 0, 1) := by decide +kernel
theorem d_law_817 : decode code 817 = .ok (.iload 4, 2) := by decide +kernel
theorem d_law_819 : decode code 819 = .ok (.iconst (2), 1) := by decide +kernel
theorem d_law_820 : decode code 820 = .ok (.iadd, 1) := by decide +kernel
theorem d_law_821 : decode code 821 = .ok (.iaload, 1) := by decide +kernel
theorem d_law_822 : decode code 822 = .ok (.invokevirtual 117, 3) := by decide +kernel
theorem d_law_825 : decode code 825 = .ok (.if_icmp .eq (255), 3) := by decide +kernel
theorem d_law_828 : decode code 828 = .ok (.iconst (0), 1) := by decide +kernel
theorem d_law_829 : decode code 829 = .ok (.ireturn, 1) := by decide +kernel
theorem d_law_830 : decode code 830 = .ok (.aload_n 1, 1) := by decide +kernel
theorem d_law_831 : decode code 831 = .ok (.aload_n 0, 1) := by decide +kernel
theorem d_law_832 : decode code 832 = .ok (.iload 4, 2) := by decide +kernel
theorem d_law_834 : decode code 834 = .ok (.iconst (1), 1) := by decide +kernel
theorem d_law_835 : decode code 835 = .ok (.iadd, 1) := by decide +kernel
theorem d_law_836 : decode code 836 = .ok (.iaload, 1) := by decide +kernel
theorem d_law_837 : decode code 837 = .ok (.aload_n 0, 1) := by decide +kernel
theorem d_law_838 : decode code 838 = .ok (.iload 4, 2) := by decide +kernel
theorem d_law_840 : decode code 840 = .ok (.iconst (2), 1) := by decide +kernel
theorem d_law_841 : decode code 841 = .ok (.iadd, 1) := by decide +kernel
theorem d_law_842 : decode code 842 = .ok (.iaload, 1) := by decide +kernel
theorem d_law_843 : decode code 843 = .ok (.invokevirtual 118, 3) := by decide +kernel
theorem d_law_846 : decode code 846 = .ok (.aload_n 2, 1) := by decide +kernel
theorem d_law_847 : decode code 847 = .ok (.aload_n 0, 1) := by decide +kernel
theorem d_law_848 : decode code 848 = .ok (.iload 4, 2) := by decide +kernel
theorem d_law_850 : decode code 850 = .ok (.iconst (1), 1) := by decide +kernel
theorem d_law_851 : decode code 851 = .ok (.iadd, 1) := by decide +kernel
theorem d_law_852 : decode code 852 = .ok (.iaload, 1) := by decide +kernel
theorem d_law_853 : decode code 853 = .ok (.aload_n 0, 1) := by decide +kernel
theorem d_law_854 : decode code 854 = .ok (.iload 4, 2) := by decide +kernel
