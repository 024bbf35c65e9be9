theorem dd_L_law_715 : decode bb_L_law 715 = .ok (.ifCond .eq 5, 3) := by decide +kernel
theorem dd_L_law_718 : decode bb_L_law 718 = .ok (.iconst 0, 1) := by decide +kernel
theorem dd_L_law_719 : decode bb_L_law 719 = .ok (.ireturn, 1) := by decide +kernel
theorem dd_L_law_720 : decode bb_L_law 720 = .ok (.goto 178, 3) := by decide +kernel
theorem dd_L_law_723 : decode bb_L_law 723 = .ok (.aload_n 1, 1) := by decide +kernel
theorem dd_L_law_724 : decode bb_L_law 724 = .ok (.aload_n 3, 1) := by decide +kernel
theorem dd_L_law_725 : decode bb_L_law 725 = .ok (.invokestatic 119, 3) := by decide +kernel
theorem dd_L_law_728 : decode bb_L_law 728 = .ok (.istore 5, 2) := by decide +kernel
theorem dd_L_law_730 : decode bb_L_law 730 = .ok (.aload_n 2, 1) := by decide +kernel
theorem dd_L_law_731 : decode bb_L_law 731 = .ok (.invokevirtual 121, 3) := by decide +kernel
theorem dd_L_law_734 : decode bb_L_law 734 = .ok (.istore 6, 2) := by decide +kernel
theorem dd_L_law_736 : decode bb_L_law 736 = .ok (.aload_n 2, 1) := by decide +kernel
theorem dd_L_law_737 : decode bb_L_law 737 = .ok (.invokevirtual 69, 3) := by decide +kernel
theorem dd_L_law_740 : decode bb_L_law 740 = .ok (.iload 5, 2) := by decide +kernel
theorem dd_L_law_742 : decode bb_L_law 742 = .ok (.if_icmp .eq 5, 3) := by decide +kernel
theorem dd_L_law_745 : decode bb_L_law 745 = .ok (.iconst 0, 1) := by decide +kernel
theorem dd_L_law_746 : decode bb_L_law 746 = .ok (.ireturn, 1) := by decide +kernel
theorem dd_L_law_747 : decode bb_L_law 747 = .ok (.iload 5, 2) := by decide +kernel
theorem dd_L_law_749 : decode bb_L_law 749 = .ok (.ifCond .ne 15, 3) := by decide +kernel
theorem dd_L_law_752 : decode bb_L_law 752 = .ok (.aload_n 3, 1) := by decide +kernel
theorem dd_L_law_753 : decode bb_L_law 753 = .ok (.iconst 0, 1) := by decide +kernel
theorem dd_L_law_754 : decode bb_L_law 754 = .ok (.laload, 1) := by decide +kernel
theorem dd_L_law_755 : decode bb_L_law 755 = .ok (.iload 6, 2) := by decide +kernel
theorem dd_L_law_757 : decode bb_L_law 757 = .ok (.i2l, 1) := by decide +kernel
theorem dd_L_law_758 : decode bb_L_law 758 = .ok (.lcmp, 1) := by decide +kernel
theorem dd_L_law_759 : decode bb_L_law 759 = .ok (.ifCond .eq 5, 3) := by decide +kernel
theorem dd_L_law_762 : decode bb_L_law 762 = .ok (.iconst 0, 1) := by decide +kernel
theorem dd_L_law_763 : decode bb_L_law 763 = .ok (.ireturn, 1) := by decide +kernel
theorem dd_L_law_764 : decode bb_L_law 764 = .ok (.goto 134, 3) := by decide +kernel
theorem dd_L_law_767 : decode bb_L_law 767 = .ok (.aload_n 1, 1) := by decide +kernel
theorem dd_L_law_768 : decode bb_L_law 768 = .ok (.aload_n 0, 1) := by decide +kernel
theorem dd_L_law_769 : decode bb_L_law 769 = .ok (.iload 4, 2) := by decide +kernel
theorem dd_L_law_771 : decode bb_L_law 771 = .ok (.iconst 1, 1) := by decide +kernel
theorem dd_L_law_772 : decode bb_L_law 772 = .ok (.iadd, 1) := by decide +kernel
theorem dd_L_law_773 : decode bb_L_law 773 = .ok (.iaload, 1) := by decide +kernel
theorem dd_L_law_774 : decode bb_L_law 774 = .ok (.aload_n 0, 1) := by decide +kernel
theorem dd_L_law_775 : decode bb_L_law 775 = .ok (.iload 4, 2) := by decide +kernel
theorem dd_L_law_777 : decode bb_L_law 777 = .ok (.iconst 2, 1) := by decide +kernel
theorem dd_L_law_778 : decode bb_L_law 778 = .ok (.iadd, 1) := by decide +kernel
theorem dd_L_law_779 : decode bb_L_law 779 = .ok (.iaload, 1) := by decide +kernel
theorem dd_L_law_780 : decode bb_L_law 780 = .ok (.aload_n 3, 1) := by decide +kernel
theorem dd_L_law_781 : decode bb_L_law 781 = .ok (.invokestatic 122, 3) := by decide +kernel
theorem dd_L_law_784 : decode bb_L_law 784 = .ok (.istore 5, 2) := by decide +kernel
theorem dd_L_law_786 : decode bb_L_law 786 = .ok (.aload_n 2, 1) := by decide +kernel
theorem dd_L_law_787 : decode bb_L_law 787 = .ok (.aload_n 0, 1) := by decide +kernel
theorem dd_L_law_788 : decode bb_L_law 788 = .ok (.iload 4, 2) := by decide +kernel
theorem dd_L_law_790 : decode bb_L_law 790 = .ok (.iconst 1, 1) := by decide +kernel
theorem dd_L_law_791 : decode bb_L_law 791 = .ok (.iadd, 1) := by decide +kernel
theorem dd_L_law_792 : decode bb_L_law 792 = .ok (.iaload, 1) := by decide +kernel
theorem dd_L_law_793 : decode bb_L_law 793 = .ok (.aload_n 0, 1) := by decide +kernel
theorem dd_L_law_794 : decode bb_L_law 794 = .ok (.iload 4, 2) := by decide +kernel
theorem dd_L_law_796 : decode bb_L_law 796 = .ok (.iconst 2, 1) := by decide +kernel
theorem dd_L_law_797 : decode bb_L_law 797 = .ok (.iadd, 1) := by decide +kernel
theorem dd_L_law_798 : decode bb_L_law 798 = .ok (.iaload, 1) := by decide +kernel
theorem dd_L_law_799 : decode bb_L_law 799 = .ok (.invokevirtual 124, 3) := by decide +kernel
theorem dd_L_law_802 : decode bb_L_law 802 = .ok (.istore 6, 2) := by decide +kernel
theorem dd_L_law_804 : decode bb_L_law 804 = .ok (.aload_n 2, 1) := by decide +kernel
theorem dd_L_law_805 : decode bb_L_law 805 = .ok (.invokevirtual 69, 3) := by decide +kernel
theorem dd_L_law_808 : decode bb_L_law 808 = .ok (.iload 5, 2) := by decide +kernel
theorem dd_L_law_810 : decode bb_L_law 810 = .ok (.if_icmp .eq 5, 3) := by decide +kernel
theorem dd_L_law_813 : decode bb_L_law 813 = .ok (.iconst 0, 1) := by decide +kernel
theorem dd_L_law_814 : decode bb_L_law 814 = .ok (.ireturn, 1) := by decide +kernel
theorem dd_L_law_815 : decode bb_L_law 815 = .ok (.iload 5, 2) := by decide +kernel
theorem dd_L_law_817 : decode bb_L_law 817 = .ok (.ifCond .ne 22, 3) := by decide +kernel
theorem dd_L_law_820 : decode bb_L_law 820 = .ok (.aload_n 3, 1) := by decide +kernel
theorem dd_L_law_821 : decode bb_L_law 821 = .ok (.iconst 0, 1) := by decide +kernel
theorem dd_L_law_822 : decode bb_L_law 822 = .ok (.laload, 1) := by decide +kernel
theorem dd_L_law_823 : decode bb_L_law 823 = .ok (.iload 6, 2) := by decide +kernel
theorem dd_L_law_825 : decode bb_L_law 825 = .ok (.ifCond .eq 7, 3) := by decide +kernel
theorem dd_L_law_828 : decode bb_L_law 828 = .ok (.lconst 1, 1) := by decide +kernel
theorem dd_L_law_829 : decode bb_L_law 829 = .ok (.goto 4, 3) := by decide +kernel
theorem dd_L_law_832 : decode bb_L_law 832 = .ok (.lconst 0, 1) := by decide +kernel
theorem dd_L_law_833 : decode bb_L_law 833 = .ok (.lcmp, 1) := by decide +kernel
theorem dd_L_law_834 : decode bb_L_law 834 = .ok (.ifCond .eq 5, 3) := by decide +kernel
theorem dd_L_law_837 : decode bb_L_law 837 = .ok (.iconst 0, 1) := by decide +kernel
theorem dd_L_law_838 : decode bb_L_law 838 = .ok (.ireturn, 1) := by decide +kernel
theorem dd_L_law_839 : decode bb_L_law 839 = .ok (.goto 59, 3) := by decide +kernel
theorem dd_L_law_842 : decode bb_L_law 842 = .ok (.aload_n 1, 1) := by decide +kernel
theorem dd_L_law_843 : decode bb_L_law 843 = .ok (.aload_n 0, 1) := by decide +kernel
theorem dd_L_law_844 : decode bb_L_law 844 = .ok (.iload 4, 2) := by decide +kernel
theorem dd_L_law_846 : decode bb_L_law 846 = .ok (.iconst 1, 1) := by decide +kernel
theorem dd_L_law_847 : decode bb_L_law 847 = .ok (.iadd, 1) := by decide +kernel
theorem dd_L_law_848 : decode bb_L_law 848 = .ok (.iaload, 1) := by decide +kernel
theorem dd_L_law_849 : decode bb_L_law 849 = .ok (.aload_n 3, 1) := by decide +kernel
theorem dd_L_law_850 : decode bb_L_law 850 = .ok (.invokestatic 125, 3) := by decide +kernel
theorem dd_L_law_853 : decode bb_L_law 853 = .ok (.istore 5, 2) := by decide +kernel
theorem dd_L_law_855 : decode bb_L_law 855 = .ok (.aload_n 2, 1) := by decide +kernel
theorem dd_L_law_856 : decode bb_L_law 856 = .ok (.aload_n 0, 1) := by decide +kernel
theorem dd_L_law_857 : decode bb_L_law 857 = .ok (.iload 4, 2) := by decide +kernel
theorem dd_L_law_859 : decode bb_L_law 859 = .ok (.iconst 1, 1) := by decide +kernel
theorem dd_L_law_860 : decode bb_L_law 860 = .ok (.iadd, 1) := by decide +kernel
theorem dd_L_law_861 : decode bb_L_law 861 = .ok (.iaload, 1) := by decide +kernel
theorem dd_L_law_862 : decode bb_L_law 862 = .ok (.invokevirtual 127, 3) := by decide +kernel
theorem dd_L_law_865 : decode bb_L_law 865 = .ok (.istore 6, 2) := by decide +kernel
theorem dd_L_law_867 : decode bb_L_law 867 = .ok (.aload_n 2, 1) := by decide +kernel
theorem dd_L_law_868 : decode bb_L_law 868 = .ok (.invokevirtual 69, 3) := by decide +kernel
theorem dd_L_law_871 : decode bb_L_law 871 = .ok (.iload 5, 2) := by decide +kernel
theorem dd_L_law_873 : decode bb_L_law 873 = .ok (.if_icmp .eq 5, 3) := by decide +kernel
theorem dd_L_law_876 : decode bb_L_law 876 = .ok (.iconst 0, 1) := by decide +kernel
theorem dd_L_law_877 : decode bb_L_law 877 = .ok (.ireturn, 1) := by decide +kernel
theorem dd_L_law_878 : decode bb_L_law 878 = .ok (.iload 5, 2) := by decide +kernel
theorem dd_L_law_880 : decode bb_L_law 880 = .ok (.ifCond .ne 15, 3) := by decide +kernel
theorem dd_L_law_883 : decode bb_L_law 883 = .ok (.aload_n 3, 1) := by decide +kernel
theorem dd_L_law_884 : decode bb_L_law 884 = .ok (.iconst 0, 1) := by decide +kernel
theorem dd_L_law_885 : decode bb_L_law 885 = .ok (.laload, 1) := by decide +kernel
theorem dd_L_law_886 : decode bb_L_law 886 = .ok (.iload 6, 2) := by decide +kernel
theorem dd_L_law_888 : decode bb_L_law 888 = .ok (.i2l, 1) := by decide +kernel
theorem dd_L_law_889 : decode bb_L_law 889 = .ok (.lcmp, 1) := by decide +kernel
theorem dd_L_law_890 : decode bb_L_law 890 = .ok (.ifCond .eq 5, 3) := by decide +kernel
theorem dd_L_law_893 : decode bb_L_law 893 = .ok (.iconst 0, 1) := by decide +kernel
theorem dd_L_law_894 : decode bb_L_law 894 = .ok (.ireturn, 1) := by decide +kernel
theorem dd_L_law_895 : decode bb_L_law 895 = .ok (.goto 3, 3) := by decide +kernel
theorem dd_L_law_898 : decode bb_L_law 898 = .ok (.iinc 4 4, 3) := by decide +kernel
theorem dd_L_law_901 : decode bb_L_law 901 = .ok (.goto (-878), 3) := by decide +kernel
theorem dd_L_law_904 : decode bb_L_law 904 = .ok (.iconst 1, 1) := by decide +kernel
theorem dd_L_law_905 : decode bb_L_law 905 = .ok (.ireturn, 1) := by decide +kernel
