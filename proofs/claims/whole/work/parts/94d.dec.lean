theorem dl_744 : decode code 744 = .ok (.goto 1955, 3) := by decide +kernel
theorem dl_747 : decode code 747 = .ok (.aload_n 1, 1) := by decide +kernel
theorem dl_748 : decode code 748 = .ok (.aload_n 0, 1) := by decide +kernel
theorem dl_749 : decode code 749 = .ok (.iload 4, 2) := by decide +kernel
theorem dl_751 : decode code 751 = .ok (.iconst 1, 1) := by decide +kernel
theorem dl_752 : decode code 752 = .ok (.iadd, 1) := by decide +kernel
theorem dl_753 : decode code 753 = .ok (.iaload, 1) := by decide +kernel
theorem dl_754 : decode code 754 = .ok (.aload_n 0, 1) := by decide +kernel
theorem dl_755 : decode code 755 = .ok (.iload 4, 2) := by decide +kernel
theorem dl_757 : decode code 757 = .ok (.iconst 2, 1) := by decide +kernel
theorem dl_758 : decode code 758 = .ok (.iadd, 1) := by decide +kernel
theorem dl_759 : decode code 759 = .ok (.iaload, 1) := by decide +kernel
theorem dl_760 : decode code 760 = .ok (.aload_n 0, 1) := by decide +kernel
theorem dl_761 : decode code 761 = .ok (.iload 4, 2) := by decide +kernel
theorem dl_763 : decode code 763 = .ok (.iconst 3, 1) := by decide +kernel
theorem dl_764 : decode code 764 = .ok (.iadd, 1) := by decide +kernel
theorem dl_765 : decode code 765 = .ok (.iaload, 1) := by decide +kernel
theorem dl_766 : decode code 766 = .ok (.aload_n 3, 1) := by decide +kernel
theorem dl_767 : decode code 767 = .ok (.invokestatic 156, 3) := by decide +kernel
theorem dl_770 : decode code 770 = .ok (.istore 5, 2) := by decide +kernel
theorem dl_772 : decode code 772 = .ok (.aload_n 2, 1) := by decide +kernel
theorem dl_773 : decode code 773 = .ok (.aload_n 0, 1) := by decide +kernel
theorem dl_774 : decode code 774 = .ok (.iload 4, 2) := by decide +kernel
theorem dl_776 : decode code 776 = .ok (.iconst 1, 1) := by decide +kernel
theorem dl_777 : decode code 777 = .ok (.iadd, 1) := by decide +kernel
theorem dl_778 : decode code 778 = .ok (.iaload, 1) := by decide +kernel
theorem dl_779 : decode code 779 = .ok (.aload_n 0, 1) := by decide +kernel
theorem dl_780 : decode code 780 = .ok (.iload 4, 2) := by decide +kernel
theorem dl_782 : decode code 782 = .ok (.iconst 2, 1) := by decide +kernel
theorem dl_783 : decode code 783 = .ok (.iadd, 1) := by decide +kernel
theorem dl_784 : decode code 784 = .ok (.iaload, 1) := by decide +kernel
theorem dl_785 : decode code 785 = .ok (.aload_n 0, 1) := by decide +kernel
theorem dl_786 : decode code 786 = .ok (.iload 4, 2) := by decide +kernel
theorem dl_788 : decode code 788 = .ok (.iconst 3, 1) := by decide +kernel
theorem dl_789 : decode code 789 = .ok (.iadd, 1) := by decide +kernel
theorem dl_790 : decode code 790 = .ok (.iaload, 1) := by decide +kernel
theorem dl_791 : decode code 791 = .ok (.invokevirtual 158, 3) := by decide +kernel
theorem dl_794 : decode code 794 = .ok (.istore 6, 2) := by decide +kernel
theorem dl_796 : decode code 796 = .ok (.aload_n 2, 1) := by decide +kernel
theorem dl_797 : decode code 797 = .ok (.invokevirtual 131, 3) := by decide +kernel
theorem dl_800 : decode code 800 = .ok (.iload 5, 2) := by decide +kernel
theorem dl_802 : decode code 802 = .ok (.if_icmp .eq 5, 3) := by decide +kernel
theorem dl_805 : decode code 805 = .ok (.iconst 0, 1) := by decide +kernel
theorem dl_806 : decode code 806 = .ok (.ireturn, 1) := by decide +kernel
theorem dl_807 : decode code 807 = .ok (.iload 5, 2) := by decide +kernel
theorem dl_809 : decode code 809 = .ok (.ifCond .ne 15, 3) := by decide +kernel
theorem dl_812 : decode code 812 = .ok (.aload_n 3, 1) := by decide +kernel
theorem dl_813 : decode code 813 = .ok (.iconst 0, 1) := by decide +kernel
theorem dl_814 : decode code 814 = .ok (.laload, 1) := by decide +kernel
theorem dl_815 : decode code 815 = .ok (.iload 6, 2) := by decide +kernel
theorem dl_817 : decode code 817 = .ok (.i2l, 1) := by decide +kernel
theorem dl_818 : decode code 818 = .ok (.lcmp, 1) := by decide +kernel
theorem dl_819 : decode code 819 = .ok (.ifCond .eq 5, 3) := by decide +kernel
theorem dl_822 : decode code 822 = .ok (.iconst 0, 1) := by decide +kernel
theorem dl_823 : decode code 823 = .ok (.ireturn, 1) := by decide +kernel
theorem dl_824 : decode code 824 = .ok (.goto 1875, 3) := by decide +kernel
theorem dl_827 : decode code 827 = .ok (.aload_n 1, 1) := by decide +kernel
theorem dl_828 : decode code 828 = .ok (.aload_n 0, 1) := by decide +kernel
theorem dl_829 : decode code 829 = .ok (.iload 4, 2) := by decide +kernel
theorem dl_831 : decode code 831 = .ok (.iconst 1, 1) := by decide +kernel
theorem dl_832 : decode code 832 = .ok (.iadd, 1) := by decide +kernel
theorem dl_833 : decode code 833 = .ok (.iaload, 1) := by decide +kernel
theorem dl_834 : decode code 834 = .ok (.aload_n 3, 1) := by decide +kernel
theorem dl_835 : decode code 835 = .ok (.invokestatic 159, 3) := by decide +kernel
theorem dl_838 : decode code 838 = .ok (.istore 5, 2) := by decide +kernel
theorem dl_840 : decode code 840 = .ok (.aload_n 2, 1) := by decide +kernel
theorem dl_841 : decode code 841 = .ok (.aload_n 0, 1) := by decide +kernel
theorem dl_842 : decode code 842 = .ok (.iload 4, 2) := by decide +kernel
theorem dl_844 : decode code 844 = .ok (.iconst 1, 1) := by decide +kernel
theorem dl_845 : decode code 845 = .ok (.iadd, 1) := by decide +kernel
theorem dl_846 : decode code 846 = .ok (.iaload, 1) := by decide +kernel
theorem dl_847 : decode code 847 = .ok (.invokevirtual 161, 3) := by decide +kernel
theorem dl_850 : decode code 850 = .ok (.istore 6, 2) := by decide +kernel
theorem dl_852 : decode code 852 = .ok (.aload_n 2, 1) := by decide +kernel
theorem dl_853 : decode code 853 = .ok (.invokevirtual 131, 3) := by decide +kernel
theorem dl_856 : decode code 856 = .ok (.iload 5, 2) := by decide +kernel
theorem dl_858 : decode code 858 = .ok (.if_icmp .eq 5, 3) := by decide +kernel
theorem dl_861 : decode code 861 = .ok (.iconst 0, 1) := by decide +kernel
theorem dl_862 : decode code 862 = .ok (.ireturn, 1) := by decide +kernel
theorem dl_863 : decode code 863 = .ok (.iload 5, 2) := by decide +kernel
theorem dl_865 : decode code 865 = .ok (.ifCond .ne 15, 3) := by decide +kernel
theorem dl_868 : decode code 868 = .ok (.aload_n 3, 1) := by decide +kernel
theorem dl_869 : decode code 869 = .ok (.iconst 0, 1) := by decide +kernel
theorem dl_870 : decode code 870 = .ok (.laload, 1) := by decide +kernel
theorem dl_871 : decode code 871 = .ok (.iload 6, 2) := by decide +kernel
theorem dl_873 : decode code 873 = .ok (.i2l, 1) := by decide +kernel
theorem dl_874 : decode code 874 = .ok (.lcmp, 1) := by decide +kernel
theorem dl_875 : decode code 875 = .ok (.ifCond .eq 5, 3) := by decide +kernel
theorem dl_878 : decode code 878 = .ok (.iconst 0, 1) := by decide +kernel
theorem dl_879 : decode code 879 = .ok (.ireturn, 1) := by decide +kernel
theorem dl_880 : decode code 880 = .ok (.goto 1819, 3) := by decide +kernel
theorem dl_883 : decode code 883 = .ok (.aload_n 1, 1) := by decide +kernel
theorem dl_884 : decode code 884 = .ok (.aload_n 0, 1) := by decide +kernel
theorem dl_885 : decode code 885 = .ok (.iload 4, 2) := by decide +kernel
theorem dl_887 : decode code 887 = .ok (.iconst 1, 1) := by decide +kernel
theorem dl_888 : decode code 888 = .ok (.iadd, 1) := by decide +kernel
theorem dl_889 : decode code 889 = .ok (.iaload, 1) := by decide +kernel
theorem dl_890 : decode code 890 = .ok (.aload_n 3, 1) := by decide +kernel
theorem dl_891 : decode code 891 = .ok (.invokestatic 162, 3) := by decide +kernel
theorem dl_894 : decode code 894 = .ok (.istore 5, 2) := by decide +kernel
theorem dl_896 : decode code 896 = .ok (.aload_n 2, 1) := by decide +kernel
theorem dl_897 : decode code 897 = .ok (.aload_n 0, 1) := by decide +kernel
theorem dl_898 : decode code 898 = .ok (.iload 4, 2) := by decide +kernel
theorem dl_900 : decode code 900 = .ok (.iconst 1, 1) := by decide +kernel
theorem dl_901 : decode code 901 = .ok (.iadd, 1) := by decide +kernel
theorem dl_902 : decode code 902 = .ok (.iaload, 1) := by decide +kernel
theorem dl_903 : decode code 903 = .ok (.invokevirtual 164, 3) := by decide +kernel
theorem dl_906 : decode code 906 = .ok (.istore 6, 2) := by decide +kernel
theorem dl_908 : decode code 908 = .ok (.aload_n 2, 1) := by decide +kernel
theorem dl_909 : decode code 909 = .ok (.invokevirtual 131, 3) := by decide +kernel
