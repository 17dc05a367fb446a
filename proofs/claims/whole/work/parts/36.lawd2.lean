-- the law: its instructions, 2
theorem d_law_668 : decode code 668 = .ok (.iaload, 1) := by decide +kernel
theorem d_law_669 : decode code 669 = .ok (.aload_n 0, 1) := by decide +kernel
theorem d_law_670 : decode code 670 = .ok (.iload 5, 2) := by decide +kernel
theorem d_law_672 : decode code 672 = .ok (.iconst 2, 1) := by decide +kernel
theorem d_law_673 : decode code 673 = .ok (.iadd, 1) := by decide +kernel
theorem d_law_674 : decode code 674 = .ok (.iaload, 1) := by decide +kernel
theorem d_law_675 : decode code 675 = .ok (.aload_n 3, 1) := by decide +kernel
theorem d_law_676 : decode code 676 = .ok (.invokestatic 112, 3) := by decide +kernel
theorem d_law_679 : decode code 679 = .ok (.istore 6, 2) := by decide +kernel
theorem d_law_681 : decode code 681 = .ok (.aload_n 2, 1) := by decide +kernel
theorem d_law_682 : decode code 682 = .ok (.aload_n 0, 1) := by decide +kernel
theorem d_law_683 : decode code 683 = .ok (.iload 5, 2) := by decide +kernel
theorem d_law_685 : decode code 685 = .ok (.iconst 1, 1) := by decide +kernel
theorem d_law_686 : decode code 686 = .ok (.iadd, 1) := by decide +kernel
theorem d_law_687 : decode code 687 = .ok (.iaload, 1) := by decide +kernel
theorem d_law_688 : decode code 688 = .ok (.aload_n 0, 1) := by decide +kernel
theorem d_law_689 : decode code 689 = .ok (.iload 5, 2) := by decide +kernel
theorem d_law_691 : decode code 691 = .ok (.iconst 2, 1) := by decide +kernel
theorem d_law_692 : decode code 692 = .ok (.iadd, 1) := by decide +kernel
theorem d_law_693 : decode code 693 = .ok (.iaload, 1) := by decide +kernel
theorem d_law_694 : decode code 694 = .ok (.invokevirtual 114, 3) := by decide +kernel
theorem d_law_697 : decode code 697 = .ok (.istore 7, 2) := by decide +kernel
theorem d_law_699 : decode code 699 = .ok (.aload_n 2, 1) := by decide +kernel
theorem d_law_700 : decode code 700 = .ok (.invokevirtual 86, 3) := by decide +kernel
theorem d_law_703 : decode code 703 = .ok (.iload 6, 2) := by decide +kernel
theorem d_law_705 : decode code 705 = .ok (.if_icmp .eq 5, 3) := by decide +kernel
theorem d_law_708 : decode code 708 = .ok (.iconst 0, 1) := by decide +kernel
theorem d_law_709 : decode code 709 = .ok (.ireturn, 1) := by decide +kernel
theorem d_law_710 : decode code 710 = .ok (.iload 6, 2) := by decide +kernel
theorem d_law_712 : decode code 712 = .ok (.ifCond .ne 15, 3) := by decide +kernel
theorem d_law_715 : decode code 715 = .ok (.aload_n 3, 1) := by decide +kernel
theorem d_law_716 : decode code 716 = .ok (.iconst 0, 1) := by decide +kernel
theorem d_law_717 : decode code 717 = .ok (.laload, 1) := by decide +kernel
theorem d_law_718 : decode code 718 = .ok (.iload 7, 2) := by decide +kernel
theorem d_law_720 : decode code 720 = .ok (.i2l, 1) := by decide +kernel
theorem d_law_721 : decode code 721 = .ok (.lcmp, 1) := by decide +kernel
theorem d_law_722 : decode code 722 = .ok (.ifCond .eq 5, 3) := by decide +kernel
theorem d_law_725 : decode code 725 = .ok (.iconst 0, 1) := by decide +kernel
theorem d_law_726 : decode code 726 = .ok (.ireturn, 1) := by decide +kernel
theorem d_law_727 : decode code 727 = .ok (.goto 614, 3) := by decide +kernel
theorem d_law_730 : decode code 730 = .ok (.aload_n 1, 1) := by decide +kernel
theorem d_law_731 : decode code 731 = .ok (.aload_n 0, 1) := by decide +kernel
theorem d_law_732 : decode code 732 = .ok (.iload 5, 2) := by decide +kernel
theorem d_law_734 : decode code 734 = .ok (.iconst 1, 1) := by decide +kernel
theorem d_law_735 : decode code 735 = .ok (.iadd, 1) := by decide +kernel
theorem d_law_736 : decode code 736 = .ok (.iaload, 1) := by decide +kernel
theorem d_law_737 : decode code 737 = .ok (.aload_n 0, 1) := by decide +kernel
theorem d_law_738 : decode code 738 = .ok (.iload 5, 2) := by decide +kernel
theorem d_law_740 : decode code 740 = .ok (.iconst 2, 1) := by decide +kernel
theorem d_law_741 : decode code 741 = .ok (.iadd, 1) := by decide +kernel
theorem d_law_742 : decode code 742 = .ok (.iaload, 1) := by decide +kernel
theorem d_law_743 : decode code 743 = .ok (.i2d, 1) := by decide +kernel
theorem d_law_744 : decode code 744 = .ok (.ldc2_w 78, 3) := by decide +kernel
theorem d_law_747 : decode code 747 = .ok (.dmul, 1) := by decide +kernel
theorem d_law_748 : decode code 748 = .ok (.aload_n 0, 1) := by decide +kernel
theorem d_law_749 : decode code 749 = .ok (.iload 5, 2) := by decide +kernel
theorem d_law_751 : decode code 751 = .ok (.iconst 3, 1) := by decide +kernel
theorem d_law_752 : decode code 752 = .ok (.iadd, 1) := by decide +kernel
theorem d_law_753 : decode code 753 = .ok (.iaload, 1) := by decide +kernel
theorem d_law_754 : decode code 754 = .ok (.aload_n 3, 1) := by decide +kernel
theorem d_law_755 : decode code 755 = .ok (.invokestatic 115, 3) := by decide +kernel
theorem d_law_758 : decode code 758 = .ok (.istore 6, 2) := by decide +kernel
theorem d_law_760 : decode code 760 = .ok (.aload_n 2, 1) := by decide +kernel
theorem d_law_761 : decode code 761 = .ok (.aload_n 0, 1) := by decide +kernel
theorem d_law_762 : decode code 762 = .ok (.iload 5, 2) := by decide +kernel
theorem d_law_764 : decode code 764 = .ok (.iconst 1, 1) := by decide +kernel
theorem d_law_765 : decode code 765 = .ok (.iadd, 1) := by decide +kernel
theorem d_law_766 : decode code 766 = .ok (.iaload, 1) := by decide +kernel
theorem d_law_767 : decode code 767 = .ok (.aload_n 0, 1) := by decide +kernel
theorem d_law_768 : decode code 768 = .ok (.iload 5, 2) := by decide +kernel
theorem d_law_770 : decode code 770 = .ok (.iconst 2, 1) := by decide +kernel
theorem d_law_771 : decode code 771 = .ok (.iadd, 1) := by decide +kernel
theorem d_law_772 : decode code 772 = .ok (.iaload, 1) := by decide +kernel
theorem d_law_773 : decode code 773 = .ok (.i2d, 1) := by decide +kernel
theorem d_law_774 : decode code 774 = .ok (.ldc2_w 78, 3) := by decide +kernel
theorem d_law_777 : decode code 777 = .ok (.dmul, 1) := by decide +kernel
theorem d_law_778 : decode code 778 = .ok (.aload_n 0, 1) := by decide +kernel
theorem d_law_779 : decode code 779 = .ok (.iload 5, 2) := by decide +kernel
theorem d_law_781 : decode code 781 = .ok (.iconst 3, 1) := by decide +kernel
theorem d_law_782 : decode code 782 = .ok (.iadd, 1) := by decide +kernel
theorem d_law_783 : decode code 783 = .ok (.iaload, 1) := by decide +kernel
theorem d_law_784 : decode code 784 = .ok (.invokevirtual 118, 3) := by decide +kernel
theorem d_law_787 : decode code 787 = .ok (.istore 7, 2) := by decide +kernel
theorem d_law_789 : decode code 789 = .ok (.aload_n 2, 1) := by decide +kernel
theorem d_law_790 : decode code 790 = .ok (.invokevirtual 86, 3) := by decide +kernel
theorem d_law_793 : decode code 793 = .ok (.iload 6, 2) := by decide +kernel
theorem d_law_795 : decode code 795 = .ok (.if_icmp .eq 5, 3) := by decide +kernel
theorem d_law_798 : decode code 798 = .ok (.iconst 0, 1) := by decide +kernel
theorem d_law_799 : decode code 799 = .ok (.ireturn, 1) := by decide +kernel
theorem d_law_800 : decode code 800 = .ok (.iload 6, 2) := by decide +kernel
theorem d_law_802 : decode code 802 = .ok (.ifCond .ne 15, 3) := by decide +kernel
theorem d_law_805 : decode code 805 = .ok (.aload_n 3, 1) := by decide +kernel
theorem d_law_806 : decode code 806 = .ok (.iconst 0, 1) := by decide +kernel
theorem d_law_807 : decode code 807 = .ok (.laload, 1) := by decide +kernel
theorem d_law_808 : decode code 808 = .ok (.iload 7, 2) := by decide +kernel
theorem d_law_810 : decode code 810 = .ok (.i2l, 1) := by decide +kernel
theorem d_law_811 : decode code 811 = .ok (.lcmp, 1) := by decide +kernel
theorem d_law_812 : decode code 812 = .ok (.ifCond .eq 5, 3) := by decide +kernel
theorem d_law_815 : decode code 815 = .ok (.iconst 0, 1) := by decide +kernel
theorem d_law_816 : decode code 816 = .ok (.ireturn, 1) := by decide +kernel
theorem d_law_817 : decode code 817 = .ok (.goto 524, 3) := by decide +kernel
theorem d_law_820 : decode code 820 = .ok (.aload_n 1, 1) := by decide +kernel
theorem d_law_821 : decode code 821 = .ok (.aload_n 0, 1) := by decide +kernel
theorem d_law_822 : decode code 822 = .ok (.iload 5, 2) := by decide +kernel
theorem d_law_824 : decode code 824 = .ok (.iconst 1, 1) := by decide +kernel
theorem d_law_825 : decode code 825 = .ok (.iadd, 1) := by decide +kernel
theorem d_law_826 : decode code 826 = .ok (.iaload, 1) := by decide +kernel
theorem d_law_827 : decode code 827 = .ok (.aload_n 0, 1) := by decide +kernel
theorem d_law_828 : decode code 828 = .ok (.iload 5, 2) := by decide +kernel
theorem d_law_830 : decode code 830 = .ok (.iconst 2, 1) := by decide +kernel
theorem d_law_831 : decode code 831 = .ok (.iadd, 1) := by decide +kernel
theorem d_law_832 : decode code 832 = .ok (.iaload, 1) := by decide +kernel
theorem d_law_833 : decode code 833 = .ok (.ifCond .eq 7, 3) := by decide +kernel
theorem d_law_836 : decode code 836 = .ok (.iconst 1, 1) := by decide +kernel
theorem d_law_837 : decode code 837 = .ok (.goto 4, 3) := by decide +kernel
theorem d_law_840 : decode code 840 = .ok (.iconst 0, 1) := by decide +kernel
theorem d_law_841 : decode code 841 = .ok (.aload_n 3, 1) := by decide +kernel
theorem d_law_842 : decode code 842 = .ok (.invokestatic 119, 3) := by decide +kernel
theorem d_law_845 : decode code 845 = .ok (.istore 6, 2) := by decide +kernel
theorem d_law_847 : decode code 847 = .ok (.aload_n 2, 1) := by decide +kernel
theorem d_law_848 : decode code 848 = .ok (.aload_n 0, 1) := by decide +kernel
theorem d_law_849 : decode code 849 = .ok (.iload 5, 2) := by decide +kernel
theorem d_law_851 : decode code 851 = .ok (.iconst 1, 1) := by decide +kernel
theorem d_law_852 : decode code 852 = .ok (.iadd, 1) := by decide +kernel
theorem d_law_853 : decode code 853 = .ok (.iaload, 1) := by decide +kernel
theorem d_law_854 : decode code 854 = .ok (.aload_n 0, 1) := by decide +kernel
theorem d_law_855 : decode code 855 = .ok (.iload 5, 2) := by decide +kernel
theorem d_law_857 : decode code 857 = .ok (.iconst 2, 1) := by decide +kernel
theorem d_law_858 : decode code 858 = .ok (.iadd, 1) := by decide +kernel
theorem d_law_859 : decode code 859 = .ok (.iaload, 1) := by decide +kernel
theorem d_law_860 : decode code 860 = .ok (.ifCond .eq 7, 3) := by decide +kernel
theorem d_law_863 : decode code 863 = .ok (.iconst 1, 1) := by decide +kernel
theorem d_law_864 : decode code 864 = .ok (.goto 4, 3) := by decide +kernel
theorem d_law_867 : decode code 867 = .ok (.iconst 0, 1) := by decide +kernel
theorem d_law_868 : decode code 868 = .ok (.invokevirtual 122, 3) := by decide +kernel
theorem d_law_871 : decode code 871 = .ok (.istore 7, 2) := by decide +kernel
theorem d_law_873 : decode code 873 = .ok (.aload_n 2, 1) := by decide +kernel
theorem d_law_874 : decode code 874 = .ok (.invokevirtual 86, 3) := by decide +kernel
theorem d_law_877 : decode code 877 = .ok (.iload 6, 2) := by decide +kernel
theorem d_law_879 : decode code 879 = .ok (.if_icmp .eq 5, 3) := by decide +kernel
theorem d_law_882 : decode code 882 = .ok (.iconst 0, 1) := by decide +kernel
theorem d_law_883 : decode code 883 = .ok (.ireturn, 1) := by decide +kernel
theorem d_law_884 : decode code 884 = .ok (.iload 6, 2) := by decide +kernel
theorem d_law_886 : decode code 886 = .ok (.ifCond .ne 15, 3) := by decide +kernel
theorem d_law_889 : decode code 889 = .ok (.aload_n 3, 1) := by decide +kernel
theorem d_law_890 : decode code 890 = .ok (.iconst 0, 1) := by decide +kernel
theorem d_law_891 : decode code 891 = .ok (.laload, 1) := by decide +kernel
theorem d_law_892 : decode code 892 = .ok (.iload 7, 2) := by decide +kernel
theorem d_law_894 : decode code 894 = .ok (.i2l, 1) := by decide +kernel
theorem d_law_895 : decode code 895 = .ok (.lcmp, 1) := by decide +kernel
theorem d_law_896 : decode code 896 = .ok (.ifCond .eq 5, 3) := by decide +kernel
theorem d_law_899 : decode code 899 = .ok (.iconst 0, 1) := by decide +kernel
theorem d_law_900 : decode code 900 = .ok (.ireturn, 1) := by decide +kernel
theorem d_law_901 : decode code 901 = .ok (.goto 440, 3) := by decide +kernel
theorem d_law_904 : decode code 904 = .ok (.aload_n 1, 1) := by decide +kernel
theorem d_law_905 : decode code 905 = .ok (.aload_n 0, 1) := by decide +kernel
theorem d_law_906 : decode code 906 = .ok (.iload 5, 2) := by decide +kernel
theorem d_law_908 : decode code 908 = .ok (.iconst 1, 1) := by decide +kernel
theorem d_law_909 : decode code 909 = .ok (.iadd, 1) := by decide +kernel
theorem d_law_910 : decode code 910 = .ok (.iaload, 1) := by decide +kernel
theorem d_law_911 : decode code 911 = .ok (.aload_n 3, 1) := by decide +kernel
theorem d_law_912 : decode code 912 = .ok (.invokestatic 123, 3) := by decide +kernel
theorem d_law_915 : decode code 915 = .ok (.istore 6, 2) := by decide +kernel
theorem d_law_917 : decode code 917 = .ok (.aload_n 2, 1) := by decide +kernel
theorem d_law_918 : decode code 918 = .ok (.aload_n 0, 1) := by decide +kernel
theorem d_law_919 : decode code 919 = .ok (.iload 5, 2) := by decide +kernel
theorem d_law_921 : decode code 921 = .ok (.iconst 1, 1) := by decide +kernel
theorem d_law_922 : decode code 922 = .ok (.iadd, 1) := by decide +kernel
theorem d_law_923 : decode code 923 = .ok (.iaload, 1) := by decide +kernel
theorem d_law_924 : decode code 924 = .ok (.invokevirtual 125, 3) := by decide +kernel
theorem d_law_927 : decode code 927 = .ok (.istore 7, 2) := by decide +kernel
theorem d_law_929 : decode code 929 = .ok (.aload_n 2, 1) := by decide +kernel
theorem d_law_930 : decode code 930 = .ok (.invokevirtual 86, 3) := by decide +kernel
theorem d_law_933 : decode code 933 = .ok (.iload 6, 2) := by decide +kernel
theorem d_law_935 : decode code 935 = .ok (.if_icmp .eq 5, 3) := by decide +kernel
theorem d_law_938 : decode code 938 = .ok (.iconst 0, 1) := by decide +kernel
theorem d_law_939 : decode code 939 = .ok (.ireturn, 1) := by decide +kernel
theorem d_law_940 : decode code 940 = .ok (.iload 6, 2) := by decide +kernel
theorem d_law_942 : decode code 942 = .ok (.ifCond .ne 15, 3) := by decide +kernel
theorem d_law_945 : decode code 945 = .ok (.aload_n 3, 1) := by decide +kernel
theorem d_law_946 : decode code 946 = .ok (.iconst 0, 1) := by decide +kernel
theorem d_law_947 : decode code 947 = .ok (.laload, 1) := by decide +kernel
theorem d_law_948 : decode code 948 = .ok (.iload 7, 2) := by decide +kernel
theorem d_law_950 : decode code 950 = .ok (.i2l, 1) := by decide +kernel
theorem d_law_951 : decode code 951 = .ok (.lcmp, 1) := by decide +kernel
theorem d_law_952 : decode code 952 = .ok (.ifCond .eq 5, 3) := by decide +kernel
theorem d_law_955 : decode code 955 = .ok (.iconst 0, 1) := by decide +kernel
theorem d_law_956 : decode code 956 = .ok (.ireturn, 1) := by decide +kernel
theorem d_law_957 : decode code 957 = .ok (.goto 384, 3) := by decide +kernel
theorem d_law_960 : decode code 960 = .ok (.aload_n 1, 1) := by decide +kernel
