/-! the law's code -/
theorem d_law_856 : decode code 856 = .ok (.iconst (2), 1) := by decide +kernel
theorem d_law_857 : decode code 857 = .ok (.iadd, 1) := by decide +kernel
theorem d_law_858 : decode code 858 = .ok (.iaload, 1) := by decide +kernel
theorem d_law_859 : decode code 859 = .ok (.invokevirtual 121, 3) := by decide +kernel
theorem d_law_862 : decode code 862 = .ok (.if_icmp .eq (218), 3) := by decide +kernel
theorem d_law_865 : decode code 865 = .ok (.iconst (0), 1) := by decide +kernel
theorem d_law_866 : decode code 866 = .ok (.ireturn, 1) := by decide +kernel
theorem d_law_867 : decode code 867 = .ok (.aload_n 1, 1) := by decide +kernel
theorem d_law_868 : decode code 868 = .ok (.aload_n 0, 1) := by decide +kernel
theorem d_law_869 : decode code 869 = .ok (.iload 4, 2) := by decide +kernel
theorem d_law_871 : decode code 871 = .ok (.iconst (1), 1) := by decide +kernel
theorem d_law_872 : decode code 872 = .ok (.iadd, 1) := by decide +kernel
theorem d_law_873 : decode code 873 = .ok (.iaload, 1) := by decide +kernel
theorem d_law_874 : decode code 874 = .ok (.aload_n 0, 1) := by decide +kernel
theorem d_law_875 : decode code 875 = .ok (.iload 4, 2) := by decide +kernel
theorem d_law_877 : decode code 877 = .ok (.iconst (2), 1) := by decide +kernel
theorem d_law_878 : decode code 878 = .ok (.iadd, 1) := by decide +kernel
theorem d_law_879 : decode code 879 = .ok (.iaload, 1) := by decide +kernel
theorem d_law_880 : decode code 880 = .ok (.invokevirtual 122, 3) := by decide +kernel
theorem d_law_883 : decode code 883 = .ok (.aload_n 2, 1) := by decide +kernel
theorem d_law_884 : decode code 884 = .ok (.aload_n 0, 1) := by decide +kernel
theorem d_law_885 : decode code 885 = .ok (.iload 4, 2) := by decide +kernel
theorem d_law_887 : decode code 887 = .ok (.iconst (1), 1) := by decide +kernel
theorem d_law_888 : decode code 888 = .ok (.iadd, 1) := by decide +kernel
theorem d_law_889 : decode code 889 = .ok (.iaload, 1) := by decide +kernel
theorem d_law_890 : decode code 890 = .ok (.aload_n 0, 1) := by decide +kernel
theorem d_law_891 : decode code 891 = .ok (.iload 4, 2) := by decide +kernel
theorem d_law_893 : decode code 893 = .ok (.iconst (2), 1) := by decide +kernel
theorem d_law_894 : decode code 894 = .ok (.iadd, 1) := by decide +kernel
theorem d_law_895 : decode code 895 = .ok (.iaload, 1) := by decide +kernel
theorem d_law_896 : decode code 896 = .ok (.invokevirtual 125, 3) := by decide +kernel
theorem d_law_899 : decode code 899 = .ok (.if_icmp .eq (181), 3) := by decide +kernel
theorem d_law_902 : decode code 902 = .ok (.iconst (0), 1) := by decide +kernel
theorem d_law_903 : decode code 903 = .ok (.ireturn, 1) := by decide +kernel
theorem d_law_904 : decode code 904 = .ok (.aload_n 1, 1) := by decide +kernel
theorem d_law_905 : decode code 905 = .ok (.aload_n 0, 1) := by decide +kernel
theorem d_law_906 : decode code 906 = .ok (.iload 4, 2) := by decide +kernel
theorem d_law_908 : decode code 908 = .ok (.iconst (1), 1) := by decide +kernel
theorem d_law_909 : decode code 909 = .ok (.iadd, 1) := by decide +kernel
theorem d_law_910 : decode code 910 = .ok (.iaload, 1) := by decide +kernel
theorem d_law_911 : decode code 911 = .ok (.aload_n 0, 1) := by decide +kernel
theorem d_law_912 : decode code 912 = .ok (.iload 4, 2) := by decide +kernel
theorem d_law_914 : decode code 914 = .ok (.iconst (2), 1) := by decide +kernel
theorem d_law_915 : decode code 915 = .ok (.iadd, 1) := by decide +kernel
theorem d_law_916 : decode code 916 = .ok (.iaload, 1) := by decide +kernel
theorem d_law_917 : decode code 917 = .ok (.invokevirtual 126, 3) := by decide +kernel
theorem d_law_920 : decode code 920 = .ok (.aload_n 2, 1) := by decide +kernel
theorem d_law_921 : decode code 921 = .ok (.aload_n 0, 1) := by decide +kernel
theorem d_law_922 : decode code 922 = .ok (.iload 4, 2) := by decide +kernel
theorem d_law_924 : decode code 924 = .ok (.iconst (1), 1) := by decide +kernel
theorem d_law_925 : decode code 925 = .ok (.iadd, 1) := by decide +kernel
theorem d_law_926 : decode code 926 = .ok (.iaload, 1) := by decide +kernel
theorem d_law_927 : decode code 927 = .ok (.aload_n 0, 1) := by decide +kernel
theorem d_law_928 : decode code 928 = .ok (.iload 4, 2) := by decide +kernel
theorem d_law_930 : decode code 930 = .ok (.iconst (2), 1) := by decide +kernel
theorem d_law_931 : decode code 931 = .ok (.iadd, 1) := by decide +kernel
theorem d_law_932 : decode code 932 = .ok (.iaload, 1) := by decide +kernel
theorem d_law_933 : decode code 933 = .ok (.invokevirtual 130, 3) := by decide +kernel
theorem d_law_936 : decode code 936 = .ok (.lcmp, 1) := by decide +kernel
theorem d_law_937 : decode code 937 = .ok (.ifCond .eq (143), 3) := by decide +kernel
theorem d_law_940 : decode code 940 = .ok (.iconst (0), 1) := by decide +kernel
theorem d_law_941 : decode code 941 = .ok (.ireturn, 1) := by decide +kernel
theorem d_law_942 : decode code 942 = .ok (.aload_n 1, 1) := by decide +kernel
theorem d_law_943 : decode code 943 = .ok (.aload_n 0, 1) := by decide +kernel
theorem d_law_944 : decode code 944 = .ok (.iload 4, 2) := by decide +kernel
theorem d_law_946 : decode code 946 = .ok (.iconst (1), 1) := by decide +kernel
theorem d_law_947 : decode code 947 = .ok (.iadd, 1) := by decide +kernel
theorem d_law_948 : decode code 948 = .ok (.iaload, 1) := by decide +kernel
theorem d_law_949 : decode code 949 = .ok (.i2l, 1) := by decide +kernel
theorem d_law_950 : decode code 950 = .ok (.bipush (32), 2) := by decide +kernel
theorem d_law_952 : decode code 952 = .ok (.lshl, 1) := by decide +kernel
theorem d_law_953 : decode code 953 = .ok (.aload_n 0, 1) := by decide +kernel
theorem d_law_954 : decode code 954 = .ok (.iload 4, 2) := by decide +kernel
theorem d_law_956 : decode code 956 = .ok (.iconst (2), 1) := by decide +kernel
theorem d_law_957 : decode code 957 = .ok (.iadd, 1) := by decide +kernel
theorem d_law_958 : decode code 958 = .ok (.iaload, 1) := by decide +kernel
theorem d_law_959 : decode code 959 = .ok (.i2l, 1) := by decide +kernel
theorem d_law_960 : decode code 960 = .ok (.ldc2_w 99, 3) := by decide +kernel
theorem d_law_963 : decode code 963 = .ok (.land, 1) := by decide +kernel
theorem d_law_964 : decode code 964 = .ok (.lor, 1) := by decide +kernel
theorem d_law_965 : decode code 965 = .ok (.aload_n 0, 1) := by decide +kernel
theorem d_law_966 : decode code 966 = .ok (.iload 4, 2) := by decide +kernel
theorem d_law_968 : decode code 968 = .ok (.iconst (3), 1) := by decide +kernel
theorem d_law_969 : decode code 969 = .ok (.iadd, 1) := by decide +kernel
theorem d_law_970 : decode code 970 = .ok (.iaload, 1) := by decide +kernel
theorem d_law_971 : decode code 971 = .ok (.invokevirtual 131, 3) := by decide +kernel
theorem d_law_974 : decode code 974 = .ok (.aload_n 2, 1) := by decide +kernel
theorem d_law_975 : decode code 975 = .ok (.aload_n 0, 1) := by decide +kernel
theorem d_law_976 : decode code 976 = .ok (.iload 4, 2) := by decide +kernel
theorem d_law_978 : decode code 978 = .ok (.iconst (1), 1) := by decide +kernel
theorem d_law_979 : decode code 979 = .ok (.iadd, 1) := by decide +kernel
theorem d_law_980 : decode code 980 = .ok (.iaload, 1) := by decide +kernel
theorem d_law_981 : decode code 981 = .ok (.i2l, 1) := by decide +kernel
theorem d_law_982 : decode code 982 = .ok (.bipush (32), 2) := by decide +kernel
theorem d_law_984 : decode code 984 = .ok (.lshl, 1) := by decide +kernel
theorem d_law_985 : decode code 985 = .ok (.aload_n 0, 1) := by decide +kernel
theorem d_law_986 : decode code 986 = .ok (.iload 4, 2) := by decide +kernel
theorem d_law_988 : decode code 988 = .ok (.iconst (2), 1) := by decide +kernel
theorem d_law_989 : decode code 989 = .ok (.iadd, 1) := by decide +kernel
theorem d_law_990 : decode code 990 = .ok (.iaload, 1) := by decide +kernel
theorem d_law_991 : decode code 991 = .ok (.i2l, 1) := by decide +kernel
theorem d_law_992 : decode code 992 = .ok (.ldc2_w 99, 3) := by decide +kernel
theorem d_law_995 : decode code 995 = .ok (.land, 1) := by decide +kernel
theorem d_law_996 : decode code 996 = .ok (.lor, 1) := by decide +kernel
theorem d_law_997 : decode code 997 = .ok (.aload_n 0, 1) := by decide +kernel
theorem d_law_998 : decode code 998 = .ok (.iload 4, 2) := by decide +kernel
theorem d_law_1000 : decode code 1000 = .ok (.iconst (3), 1) := by decide +kernel
theorem d_law_1001 : decode code 1001 = .ok (.iadd, 1) := by decide +kernel
theorem d_law_1002 : decode code 1002 = .ok (.iaload, 1) := by decide +kernel
theorem d_law_1003 : decode code 1003 = .ok (.invokevirtual 135, 3) := by decide +kernel
theorem d_law_1006 : decode code 1006 = .ok (.if_icmp .eq (74), 3) := by decide +kernel
theorem d_law_1009 : decode code 1009 = .ok (.iconst (0), 1) := by decide +kernel
theorem d_law_1010 : decode code 1010 = .ok (.ireturn, 1) := by decide +kernel
theorem d_law_1011 : decode code 1011 = .ok (.aload_n 1, 1) := by decide +kernel
theorem d_law_1012 : decode code 1012 = .ok (.aload_n 0, 1) := by decide +kernel
theorem d_law_1013 : decode code 1013 = .ok (.iload 4, 2) := by decide +kernel
theorem d_law_1015 : decode code 1015 = .ok (.iconst (1), 1) := by decide +kernel
theorem d_law_1016 : decode code 1016 = .ok (.iadd, 1) := by decide +kernel
theorem d_law_1017 : decode code 1017 = .ok (.iaload, 1) := by decide +kernel
theorem d_law_1018 : decode code 1018 = .ok (.i2l, 1) := by decide +kernel
theorem d_law_1019 : decode code 1019 = .ok (.bipush (32), 2) := by decide +kernel
theorem d_law_1021 : decode code 1021 = .ok (.lshl, 1) := by decide +kernel
theorem d_law_1022 : decode code 1022 = .ok (.aload_n 0, 1) := by decide +kernel
theorem d_law_1023 : decode code 1023 = .ok (.iload 4, 2) := by decide +kernel
theorem d_law_1025 : decode code 1025 = .ok (.iconst (2), 1) := by decide +kernel
theorem d_law_1026 : decode code 1026 = .ok (.iadd, 1) := by decide +kernel
theorem d_law_1027 : decode code 1027 = .ok (.iaload, 1) := by decide +kernel
theorem d_law_1028 : decode code 1028 = .ok (.i2l, 1) := by decide +kernel
theorem d_law_1029 : decode code 1029 = .ok (.ldc2_w 99, 3) := by decide +kernel
theorem d_law_1032 : decode code 1032 = .ok (.land, 1) := by decide +kernel
