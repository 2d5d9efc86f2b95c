theorem d_Lw_law_772 : decode b_Lw_law 772 = .ok (.iconst 2, 1) := by decide +kernel
theorem d_Lw_law_773 : decode b_Lw_law 773 = .ok (.iadd, 1) := by decide +kernel
theorem d_Lw_law_774 : decode b_Lw_law 774 = .ok (.iaload, 1) := by decide +kernel
theorem d_Lw_law_775 : decode b_Lw_law 775 = .ok (.aload_n 0, 1) := by decide +kernel
theorem d_Lw_law_776 : decode b_Lw_law 776 = .ok (.iload 4, 2) := by decide +kernel
theorem d_Lw_law_778 : decode b_Lw_law 778 = .ok (.iconst 3, 1) := by decide +kernel
theorem d_Lw_law_779 : decode b_Lw_law 779 = .ok (.iadd, 1) := by decide +kernel
theorem d_Lw_law_780 : decode b_Lw_law 780 = .ok (.iaload, 1) := by decide +kernel
theorem d_Lw_law_781 : decode b_Lw_law 781 = .ok (.invokevirtual 90, 3) := by decide +kernel
theorem d_Lw_law_784 : decode b_Lw_law 784 = .ok (.aload_n 2, 1) := by decide +kernel
theorem d_Lw_law_785 : decode b_Lw_law 785 = .ok (.aload_n 0, 1) := by decide +kernel
theorem d_Lw_law_786 : decode b_Lw_law 786 = .ok (.iload 4, 2) := by decide +kernel
theorem d_Lw_law_788 : decode b_Lw_law 788 = .ok (.iconst 1, 1) := by decide +kernel
theorem d_Lw_law_789 : decode b_Lw_law 789 = .ok (.iadd, 1) := by decide +kernel
theorem d_Lw_law_790 : decode b_Lw_law 790 = .ok (.iaload, 1) := by decide +kernel
theorem d_Lw_law_791 : decode b_Lw_law 791 = .ok (.aload_n 0, 1) := by decide +kernel
theorem d_Lw_law_792 : decode b_Lw_law 792 = .ok (.iload 4, 2) := by decide +kernel
theorem d_Lw_law_794 : decode b_Lw_law 794 = .ok (.iconst 2, 1) := by decide +kernel
theorem d_Lw_law_795 : decode b_Lw_law 795 = .ok (.iadd, 1) := by decide +kernel
theorem d_Lw_law_796 : decode b_Lw_law 796 = .ok (.iaload, 1) := by decide +kernel
theorem d_Lw_law_797 : decode b_Lw_law 797 = .ok (.aload_n 0, 1) := by decide +kernel
theorem d_Lw_law_798 : decode b_Lw_law 798 = .ok (.iload 4, 2) := by decide +kernel
theorem d_Lw_law_800 : decode b_Lw_law 800 = .ok (.iconst 3, 1) := by decide +kernel
theorem d_Lw_law_801 : decode b_Lw_law 801 = .ok (.iadd, 1) := by decide +kernel
theorem d_Lw_law_802 : decode b_Lw_law 802 = .ok (.iaload, 1) := by decide +kernel
theorem d_Lw_law_803 : decode b_Lw_law 803 = .ok (.invokevirtual 94, 3) := by decide +kernel
theorem d_Lw_law_806 : decode b_Lw_law 806 = .ok (.if_icmp .eq 298, 3) := by decide +kernel
theorem d_Lw_law_809 : decode b_Lw_law 809 = .ok (.iconst 0, 1) := by decide +kernel
theorem d_Lw_law_810 : decode b_Lw_law 810 = .ok (.ireturn, 1) := by decide +kernel
theorem d_Lw_law_811 : decode b_Lw_law 811 = .ok (.aload_n 1, 1) := by decide +kernel
theorem d_Lw_law_812 : decode b_Lw_law 812 = .ok (.aload_n 0, 1) := by decide +kernel
theorem d_Lw_law_813 : decode b_Lw_law 813 = .ok (.iload 4, 2) := by decide +kernel
theorem d_Lw_law_815 : decode b_Lw_law 815 = .ok (.iconst 1, 1) := by decide +kernel
theorem d_Lw_law_816 : decode b_Lw_law 816 = .ok (.iadd, 1) := by decide +kernel
theorem d_Lw_law_817 : decode b_Lw_law 817 = .ok (.iaload, 1) := by decide +kernel
theorem d_Lw_law_818 : decode b_Lw_law 818 = .ok (.invokevirtual 95, 3) := by decide +kernel
theorem d_Lw_law_821 : decode b_Lw_law 821 = .ok (.aload_n 2, 1) := by decide +kernel
theorem d_Lw_law_822 : decode b_Lw_law 822 = .ok (.aload_n 0, 1) := by decide +kernel
theorem d_Lw_law_823 : decode b_Lw_law 823 = .ok (.iload 4, 2) := by decide +kernel
theorem d_Lw_law_825 : decode b_Lw_law 825 = .ok (.iconst 1, 1) := by decide +kernel
theorem d_Lw_law_826 : decode b_Lw_law 826 = .ok (.iadd, 1) := by decide +kernel
theorem d_Lw_law_827 : decode b_Lw_law 827 = .ok (.iaload, 1) := by decide +kernel
theorem d_Lw_law_828 : decode b_Lw_law 828 = .ok (.invokevirtual 98, 3) := by decide +kernel
theorem d_Lw_law_831 : decode b_Lw_law 831 = .ok (.if_icmp .eq 273, 3) := by decide +kernel
theorem d_Lw_law_834 : decode b_Lw_law 834 = .ok (.iconst 0, 1) := by decide +kernel
theorem d_Lw_law_835 : decode b_Lw_law 835 = .ok (.ireturn, 1) := by decide +kernel
theorem d_Lw_law_836 : decode b_Lw_law 836 = .ok (.aload_n 1, 1) := by decide +kernel
theorem d_Lw_law_837 : decode b_Lw_law 837 = .ok (.aload_n 0, 1) := by decide +kernel
theorem d_Lw_law_838 : decode b_Lw_law 838 = .ok (.iload 4, 2) := by decide +kernel
theorem d_Lw_law_840 : decode b_Lw_law 840 = .ok (.iconst 1, 1) := by decide +kernel
theorem d_Lw_law_841 : decode b_Lw_law 841 = .ok (.iadd, 1) := by decide +kernel
theorem d_Lw_law_842 : decode b_Lw_law 842 = .ok (.iaload, 1) := by decide +kernel
theorem d_Lw_law_843 : decode b_Lw_law 843 = .ok (.invokevirtual 99, 3) := by decide +kernel
theorem d_Lw_law_846 : decode b_Lw_law 846 = .ok (.aload_n 2, 1) := by decide +kernel
theorem d_Lw_law_847 : decode b_Lw_law 847 = .ok (.aload_n 0, 1) := by decide +kernel
theorem d_Lw_law_848 : decode b_Lw_law 848 = .ok (.iload 4, 2) := by decide +kernel
theorem d_Lw_law_850 : decode b_Lw_law 850 = .ok (.iconst 1, 1) := by decide +kernel
theorem d_Lw_law_851 : decode b_Lw_law 851 = .ok (.iadd, 1) := by decide +kernel
theorem d_Lw_law_852 : decode b_Lw_law 852 = .ok (.iaload, 1) := by decide +kernel
theorem d_Lw_law_853 : decode b_Lw_law 853 = .ok (.invokevirtual 102, 3) := by decide +kernel
theorem d_Lw_law_856 : decode b_Lw_law 856 = .ok (.if_icmp .eq 248, 3) := by decide +kernel
theorem d_Lw_law_859 : decode b_Lw_law 859 = .ok (.iconst 0, 1) := by decide +kernel
theorem d_Lw_law_860 : decode b_Lw_law 860 = .ok (.ireturn, 1) := by decide +kernel
theorem d_Lw_law_861 : decode b_Lw_law 861 = .ok (.aload_n 1, 1) := by decide +kernel
theorem d_Lw_law_862 : decode b_Lw_law 862 = .ok (.aload_n 0, 1) := by decide +kernel
theorem d_Lw_law_863 : decode b_Lw_law 863 = .ok (.iload 4, 2) := by decide +kernel
theorem d_Lw_law_865 : decode b_Lw_law 865 = .ok (.iconst 1, 1) := by decide +kernel
theorem d_Lw_law_866 : decode b_Lw_law 866 = .ok (.iadd, 1) := by decide +kernel
theorem d_Lw_law_867 : decode b_Lw_law 867 = .ok (.iaload, 1) := by decide +kernel
theorem d_Lw_law_868 : decode b_Lw_law 868 = .ok (.i2l, 1) := by decide +kernel
theorem d_Lw_law_869 : decode b_Lw_law 869 = .ok (.bipush 32, 2) := by decide +kernel
theorem d_Lw_law_871 : decode b_Lw_law 871 = .ok (.lshl, 1) := by decide +kernel
theorem d_Lw_law_872 : decode b_Lw_law 872 = .ok (.aload_n 0, 1) := by decide +kernel
theorem d_Lw_law_873 : decode b_Lw_law 873 = .ok (.iload 4, 2) := by decide +kernel
theorem d_Lw_law_875 : decode b_Lw_law 875 = .ok (.iconst 2, 1) := by decide +kernel
theorem d_Lw_law_876 : decode b_Lw_law 876 = .ok (.iadd, 1) := by decide +kernel
theorem d_Lw_law_877 : decode b_Lw_law 877 = .ok (.iaload, 1) := by decide +kernel
theorem d_Lw_law_878 : decode b_Lw_law 878 = .ok (.i2l, 1) := by decide +kernel
theorem d_Lw_law_879 : decode b_Lw_law 879 = .ok (.ldc2_w 27, 3) := by decide +kernel
theorem d_Lw_law_882 : decode b_Lw_law 882 = .ok (.land, 1) := by decide +kernel
theorem d_Lw_law_883 : decode b_Lw_law 883 = .ok (.lor, 1) := by decide +kernel
theorem d_Lw_law_884 : decode b_Lw_law 884 = .ok (.invokevirtual 103, 3) := by decide +kernel
theorem d_Lw_law_887 : decode b_Lw_law 887 = .ok (.aload_n 2, 1) := by decide +kernel
theorem d_Lw_law_888 : decode b_Lw_law 888 = .ok (.aload_n 0, 1) := by decide +kernel
theorem d_Lw_law_889 : decode b_Lw_law 889 = .ok (.iload 4, 2) := by decide +kernel
theorem d_Lw_law_891 : decode b_Lw_law 891 = .ok (.iconst 1, 1) := by decide +kernel
theorem d_Lw_law_892 : decode b_Lw_law 892 = .ok (.iadd, 1) := by decide +kernel
theorem d_Lw_law_893 : decode b_Lw_law 893 = .ok (.iaload, 1) := by decide +kernel
theorem d_Lw_law_894 : decode b_Lw_law 894 = .ok (.i2l, 1) := by decide +kernel
theorem d_Lw_law_895 : decode b_Lw_law 895 = .ok (.bipush 32, 2) := by decide +kernel
theorem d_Lw_law_897 : decode b_Lw_law 897 = .ok (.lshl, 1) := by decide +kernel
theorem d_Lw_law_898 : decode b_Lw_law 898 = .ok (.aload_n 0, 1) := by decide +kernel
theorem d_Lw_law_899 : decode b_Lw_law 899 = .ok (.iload 4, 2) := by decide +kernel
theorem d_Lw_law_901 : decode b_Lw_law 901 = .ok (.iconst 2, 1) := by decide +kernel
theorem d_Lw_law_902 : decode b_Lw_law 902 = .ok (.iadd, 1) := by decide +kernel
theorem d_Lw_law_903 : decode b_Lw_law 903 = .ok (.iaload, 1) := by decide +kernel
theorem d_Lw_law_904 : decode b_Lw_law 904 = .ok (.i2l, 1) := by decide +kernel
theorem d_Lw_law_905 : decode b_Lw_law 905 = .ok (.ldc2_w 27, 3) := by decide +kernel
theorem d_Lw_law_908 : decode b_Lw_law 908 = .ok (.land, 1) := by decide +kernel
theorem d_Lw_law_909 : decode b_Lw_law 909 = .ok (.lor, 1) := by decide +kernel
theorem d_Lw_law_910 : decode b_Lw_law 910 = .ok (.invokevirtual 107, 3) := by decide +kernel
theorem d_Lw_law_913 : decode b_Lw_law 913 = .ok (.if_icmp .eq 191, 3) := by decide +kernel
theorem d_Lw_law_916 : decode b_Lw_law 916 = .ok (.iconst 0, 1) := by decide +kernel
theorem d_Lw_law_917 : decode b_Lw_law 917 = .ok (.ireturn, 1) := by decide +kernel
theorem d_Lw_law_918 : decode b_Lw_law 918 = .ok (.aload_n 1, 1) := by decide +kernel
theorem d_Lw_law_919 : decode b_Lw_law 919 = .ok (.aload_n 0, 1) := by decide +kernel
theorem d_Lw_law_920 : decode b_Lw_law 920 = .ok (.iload 4, 2) := by decide +kernel
theorem d_Lw_law_922 : decode b_Lw_law 922 = .ok (.iconst 1, 1) := by decide +kernel
theorem d_Lw_law_923 : decode b_Lw_law 923 = .ok (.iadd, 1) := by decide +kernel
theorem d_Lw_law_924 : decode b_Lw_law 924 = .ok (.iaload, 1) := by decide +kernel
theorem d_Lw_law_925 : decode b_Lw_law 925 = .ok (.aload_n 0, 1) := by decide +kernel
theorem d_Lw_law_926 : decode b_Lw_law 926 = .ok (.iload 4, 2) := by decide +kernel
theorem d_Lw_law_928 : decode b_Lw_law 928 = .ok (.iconst 2, 1) := by decide +kernel
theorem d_Lw_law_929 : decode b_Lw_law 929 = .ok (.iadd, 1) := by decide +kernel
theorem d_Lw_law_930 : decode b_Lw_law 930 = .ok (.iaload, 1) := by decide +kernel
theorem d_Lw_law_931 : decode b_Lw_law 931 = .ok (.aload_n 0, 1) := by decide +kernel
theorem d_Lw_law_932 : decode b_Lw_law 932 = .ok (.iload 4, 2) := by decide +kernel
theorem d_Lw_law_934 : decode b_Lw_law 934 = .ok (.iconst 3, 1) := by decide +kernel
theorem d_Lw_law_935 : decode b_Lw_law 935 = .ok (.iadd, 1) := by decide +kernel
theorem d_Lw_law_936 : decode b_Lw_law 936 = .ok (.iaload, 1) := by decide +kernel
theorem d_Lw_law_937 : decode b_Lw_law 937 = .ok (.invokevirtual 108, 3) := by decide +kernel
theorem d_Lw_law_940 : decode b_Lw_law 940 = .ok (.aload_n 2, 1) := by decide +kernel
theorem d_Lw_law_941 : decode b_Lw_law 941 = .ok (.aload_n 0, 1) := by decide +kernel
theorem d_Lw_law_942 : decode b_Lw_law 942 = .ok (.iload 4, 2) := by decide +kernel
theorem d_Lw_law_944 : decode b_Lw_law 944 = .ok (.iconst 1, 1) := by decide +kernel
