theorem d_L_law_795 : decode code 795 = .ok (.iload 4, 2) := by decide +kernel
theorem d_L_law_797 : decode code 797 = .ok (.iconst 1, 1) := by decide +kernel
theorem d_L_law_798 : decode code 798 = .ok (.iadd, 1) := by decide +kernel
theorem d_L_law_799 : decode code 799 = .ok (.iaload, 1) := by decide +kernel
theorem d_L_law_800 : decode code 800 = .ok (.invokevirtual 121, 3) := by decide +kernel
theorem d_L_law_803 : decode code 803 = .ok (.istore 6, 2) := by decide +kernel
theorem d_L_law_805 : decode code 805 = .ok (.aload_n 2, 1) := by decide +kernel
theorem d_L_law_806 : decode code 806 = .ok (.invokevirtual 75, 3) := by decide +kernel
theorem d_L_law_809 : decode code 809 = .ok (.iload 5, 2) := by decide +kernel
theorem d_L_law_811 : decode code 811 = .ok (.if_icmp .eq 5, 3) := by decide +kernel
theorem d_L_law_814 : decode code 814 = .ok (.iconst 0, 1) := by decide +kernel
theorem d_L_law_815 : decode code 815 = .ok (.ireturn, 1) := by decide +kernel
theorem d_L_law_816 : decode code 816 = .ok (.iload 5, 2) := by decide +kernel
theorem d_L_law_818 : decode code 818 = .ok (.ifCond .ne 15, 3) := by decide +kernel
theorem d_L_law_821 : decode code 821 = .ok (.aload_n 3, 1) := by decide +kernel
theorem d_L_law_822 : decode code 822 = .ok (.iconst 0, 1) := by decide +kernel
theorem d_L_law_823 : decode code 823 = .ok (.laload, 1) := by decide +kernel
theorem d_L_law_824 : decode code 824 = .ok (.iload 6, 2) := by decide +kernel
theorem d_L_law_826 : decode code 826 = .ok (.i2l, 1) := by decide +kernel
theorem d_L_law_827 : decode code 827 = .ok (.lcmp, 1) := by decide +kernel
theorem d_L_law_828 : decode code 828 = .ok (.ifCond .eq 5, 3) := by decide +kernel
theorem d_L_law_831 : decode code 831 = .ok (.iconst 0, 1) := by decide +kernel
theorem d_L_law_832 : decode code 832 = .ok (.ireturn, 1) := by decide +kernel
theorem d_L_law_833 : decode code 833 = .ok (.goto 165, 3) := by decide +kernel
theorem d_L_law_836 : decode code 836 = .ok (.aload_n 1, 1) := by decide +kernel
theorem d_L_law_837 : decode code 837 = .ok (.invokevirtual 122, 3) := by decide +kernel
theorem d_L_law_840 : decode code 840 = .ok (.aload_n 2, 1) := by decide +kernel
theorem d_L_law_841 : decode code 841 = .ok (.invokevirtual 125, 3) := by decide +kernel
theorem d_L_law_844 : decode code 844 = .ok (.if_icmp .eq 154, 3) := by decide +kernel
theorem d_L_law_847 : decode code 847 = .ok (.iconst 0, 1) := by decide +kernel
theorem d_L_law_848 : decode code 848 = .ok (.ireturn, 1) := by decide +kernel
theorem d_L_law_849 : decode code 849 = .ok (.aload_n 1, 1) := by decide +kernel
theorem d_L_law_850 : decode code 850 = .ok (.aload_n 0, 1) := by decide +kernel
theorem d_L_law_851 : decode code 851 = .ok (.iload 4, 2) := by decide +kernel
theorem d_L_law_853 : decode code 853 = .ok (.iconst 1, 1) := by decide +kernel
theorem d_L_law_854 : decode code 854 = .ok (.iadd, 1) := by decide +kernel
theorem d_L_law_855 : decode code 855 = .ok (.iaload, 1) := by decide +kernel
theorem d_L_law_856 : decode code 856 = .ok (.aload_n 0, 1) := by decide +kernel
theorem d_L_law_857 : decode code 857 = .ok (.iload 4, 2) := by decide +kernel
theorem d_L_law_859 : decode code 859 = .ok (.iconst 2, 1) := by decide +kernel
theorem d_L_law_860 : decode code 860 = .ok (.iadd, 1) := by decide +kernel
theorem d_L_law_861 : decode code 861 = .ok (.iaload, 1) := by decide +kernel
theorem d_L_law_862 : decode code 862 = .ok (.aload_n 3, 1) := by decide +kernel
theorem d_L_law_863 : decode code 863 = .ok (.invokestatic 126, 3) := by decide +kernel
theorem d_L_law_866 : decode code 866 = .ok (.istore 5, 2) := by decide +kernel
theorem d_L_law_868 : decode code 868 = .ok (.aload_n 2, 1) := by decide +kernel
theorem d_L_law_869 : decode code 869 = .ok (.aload_n 0, 1) := by decide +kernel
theorem d_L_law_870 : decode code 870 = .ok (.iload 4, 2) := by decide +kernel
theorem d_L_law_872 : decode code 872 = .ok (.iconst 1, 1) := by decide +kernel
theorem d_L_law_873 : decode code 873 = .ok (.iadd, 1) := by decide +kernel
theorem d_L_law_874 : decode code 874 = .ok (.iaload, 1) := by decide +kernel
theorem d_L_law_875 : decode code 875 = .ok (.aload_n 0, 1) := by decide +kernel
theorem d_L_law_876 : decode code 876 = .ok (.iload 4, 2) := by decide +kernel
theorem d_L_law_878 : decode code 878 = .ok (.iconst 2, 1) := by decide +kernel
theorem d_L_law_879 : decode code 879 = .ok (.iadd, 1) := by decide +kernel
theorem d_L_law_880 : decode code 880 = .ok (.iaload, 1) := by decide +kernel
theorem d_L_law_881 : decode code 881 = .ok (.invokevirtual 128, 3) := by decide +kernel
theorem d_L_law_884 : decode code 884 = .ok (.istore 6, 2) := by decide +kernel
theorem d_L_law_886 : decode code 886 = .ok (.aload_n 2, 1) := by decide +kernel
theorem d_L_law_887 : decode code 887 = .ok (.invokevirtual 75, 3) := by decide +kernel
theorem d_L_law_890 : decode code 890 = .ok (.iload 5, 2) := by decide +kernel
theorem d_L_law_892 : decode code 892 = .ok (.if_icmp .eq 5, 3) := by decide +kernel
theorem d_L_law_895 : decode code 895 = .ok (.iconst 0, 1) := by decide +kernel
theorem d_L_law_896 : decode code 896 = .ok (.ireturn, 1) := by decide +kernel
theorem d_L_law_897 : decode code 897 = .ok (.iload 5, 2) := by decide +kernel
theorem d_L_law_899 : decode code 899 = .ok (.ifCond .ne 15, 3) := by decide +kernel
theorem d_L_law_902 : decode code 902 = .ok (.aload_n 3, 1) := by decide +kernel
theorem d_L_law_903 : decode code 903 = .ok (.iconst 0, 1) := by decide +kernel
theorem d_L_law_904 : decode code 904 = .ok (.laload, 1) := by decide +kernel
theorem d_L_law_905 : decode code 905 = .ok (.iload 6, 2) := by decide +kernel
theorem d_L_law_907 : decode code 907 = .ok (.i2l, 1) := by decide +kernel
theorem d_L_law_908 : decode code 908 = .ok (.lcmp, 1) := by decide +kernel
theorem d_L_law_909 : decode code 909 = .ok (.ifCond .eq 5, 3) := by decide +kernel
theorem d_L_law_912 : decode code 912 = .ok (.iconst 0, 1) := by decide +kernel
theorem d_L_law_913 : decode code 913 = .ok (.ireturn, 1) := by decide +kernel
theorem d_L_law_914 : decode code 914 = .ok (.goto 84, 3) := by decide +kernel
theorem d_L_law_917 : decode code 917 = .ok (.aload_n 1, 1) := by decide +kernel
theorem d_L_law_918 : decode code 918 = .ok (.aload_n 0, 1) := by decide +kernel
theorem d_L_law_919 : decode code 919 = .ok (.iload 4, 2) := by decide +kernel
theorem d_L_law_921 : decode code 921 = .ok (.iconst 1, 1) := by decide +kernel
theorem d_L_law_922 : decode code 922 = .ok (.iadd, 1) := by decide +kernel
theorem d_L_law_923 : decode code 923 = .ok (.iaload, 1) := by decide +kernel
theorem d_L_law_924 : decode code 924 = .ok (.aload_n 3, 1) := by decide +kernel
theorem d_L_law_925 : decode code 925 = .ok (.invokestatic 129, 3) := by decide +kernel
theorem d_L_law_928 : decode code 928 = .ok (.istore 5, 2) := by decide +kernel
theorem d_L_law_930 : decode code 930 = .ok (.aload_n 2, 1) := by decide +kernel
theorem d_L_law_931 : decode code 931 = .ok (.aload_n 0, 1) := by decide +kernel
theorem d_L_law_932 : decode code 932 = .ok (.iload 4, 2) := by decide +kernel
theorem d_L_law_934 : decode code 934 = .ok (.iconst 1, 1) := by decide +kernel
theorem d_L_law_935 : decode code 935 = .ok (.iadd, 1) := by decide +kernel
theorem d_L_law_936 : decode code 936 = .ok (.iaload, 1) := by decide +kernel
theorem d_L_law_937 : decode code 937 = .ok (.invokevirtual 131, 3) := by decide +kernel
theorem d_L_law_940 : decode code 940 = .ok (.istore 6, 2) := by decide +kernel
theorem d_L_law_942 : decode code 942 = .ok (.aload_n 2, 1) := by decide +kernel
theorem d_L_law_943 : decode code 943 = .ok (.invokevirtual 75, 3) := by decide +kernel
theorem d_L_law_946 : decode code 946 = .ok (.iload 5, 2) := by decide +kernel
theorem d_L_law_948 : decode code 948 = .ok (.if_icmp .eq 5, 3) := by decide +kernel
theorem d_L_law_951 : decode code 951 = .ok (.iconst 0, 1) := by decide +kernel
theorem d_L_law_952 : decode code 952 = .ok (.ireturn, 1) := by decide +kernel
theorem d_L_law_953 : decode code 953 = .ok (.iload 5, 2) := by decide +kernel
theorem d_L_law_955 : decode code 955 = .ok (.ifCond .ne 15, 3) := by decide +kernel
theorem d_L_law_958 : decode code 958 = .ok (.aload_n 3, 1) := by decide +kernel
theorem d_L_law_959 : decode code 959 = .ok (.iconst 0, 1) := by decide +kernel
theorem d_L_law_960 : decode code 960 = .ok (.laload, 1) := by decide +kernel
theorem d_L_law_961 : decode code 961 = .ok (.iload 6, 2) := by decide +kernel
theorem d_L_law_963 : decode code 963 = .ok (.i2l, 1) := by decide +kernel
theorem d_L_law_964 : decode code 964 = .ok (.lcmp, 1) := by decide +kernel
theorem d_L_law_965 : decode code 965 = .ok (.ifCond .eq 5, 3) := by decide +kernel
theorem d_L_law_968 : decode code 968 = .ok (.iconst 0, 1) := by decide +kernel
theorem d_L_law_969 : decode code 969 = .ok (.ireturn, 1) := by decide +kernel
theorem d_L_law_970 : decode code 970 = .ok (.goto 28, 3) := by decide +kernel
theorem d_L_law_973 : decode code 973 = .ok (.aload_n 1, 1) := by decide +kernel
theorem d_L_law_974 : decode code 974 = .ok (.aload_n 0, 1) := by decide +kernel
theorem d_L_law_975 : decode code 975 = .ok (.iload 4, 2) := by decide +kernel
theorem d_L_law_977 : decode code 977 = .ok (.iconst 1, 1) := by decide +kernel
theorem d_L_law_978 : decode code 978 = .ok (.iadd, 1) := by decide +kernel
theorem d_L_law_979 : decode code 979 = .ok (.iaload, 1) := by decide +kernel
theorem d_L_law_980 : decode code 980 = .ok (.invokevirtual 132, 3) := by decide +kernel
theorem d_L_law_983 : decode code 983 = .ok (.aload_n 2, 1) := by decide +kernel
theorem d_L_law_984 : decode code 984 = .ok (.aload_n 0, 1) := by decide +kernel
theorem d_L_law_985 : decode code 985 = .ok (.iload 4, 2) := by decide +kernel
theorem d_L_law_987 : decode code 987 = .ok (.iconst 1, 1) := by decide +kernel
theorem d_L_law_988 : decode code 988 = .ok (.iadd, 1) := by decide +kernel
theorem d_L_law_989 : decode code 989 = .ok (.iaload, 1) := by decide +kernel
theorem d_L_law_990 : decode code 990 = .ok (.invokevirtual 135, 3) := by decide +kernel
theorem d_L_law_993 : decode code 993 = .ok (.if_icmp .eq 5, 3) := by decide +kernel
theorem d_L_law_996 : decode code 996 = .ok (.iconst 0, 1) := by decide +kernel
theorem d_L_law_997 : decode code 997 = .ok (.ireturn, 1) := by decide +kernel
theorem d_L_law_998 : decode code 998 = .ok (.iinc 4 3, 3) := by decide +kernel
theorem d_L_law_1001 : decode code 1001 = .ok (.goto (-968), 3) := by decide +kernel
theorem d_L_law_1004 : decode code 1004 = .ok (.iconst 1, 1) := by decide +kernel
theorem d_L_law_1005 : decode code 1005 = .ok (.ireturn, 1) := by decide +kernel
