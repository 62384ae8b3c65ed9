theorem d_law_877 : decode code 877 = .ok (.iload_n 3, 1) := by decide +kernel
theorem d_law_878 : decode code 878 = .ok (.iconst 1, 1) := by decide +kernel
theorem d_law_879 : decode code 879 = .ok (.iadd, 1) := by decide +kernel
theorem d_law_880 : decode code 880 = .ok (.iaload, 1) := by decide +kernel
theorem d_law_881 : decode code 881 = .ok (.invokevirtual 105, 3) := by decide +kernel
theorem d_law_884 : decode code 884 = .ok (.if_icmp .eq 236, 3) := by decide +kernel
theorem d_law_887 : decode code 887 = .ok (.iconst 0, 1) := by decide +kernel
theorem d_law_888 : decode code 888 = .ok (.ireturn, 1) := by decide +kernel
theorem d_law_889 : decode code 889 = .ok (.aload_n 1, 1) := by decide +kernel
theorem d_law_890 : decode code 890 = .ok (.aload_n 0, 1) := by decide +kernel
theorem d_law_891 : decode code 891 = .ok (.iload_n 3, 1) := by decide +kernel
theorem d_law_892 : decode code 892 = .ok (.iconst 1, 1) := by decide +kernel
theorem d_law_893 : decode code 893 = .ok (.iadd, 1) := by decide +kernel
theorem d_law_894 : decode code 894 = .ok (.iaload, 1) := by decide +kernel
theorem d_law_895 : decode code 895 = .ok (.aload_n 0, 1) := by decide +kernel
theorem d_law_896 : decode code 896 = .ok (.iload_n 3, 1) := by decide +kernel
theorem d_law_897 : decode code 897 = .ok (.iconst 2, 1) := by decide +kernel
theorem d_law_898 : decode code 898 = .ok (.iadd, 1) := by decide +kernel
theorem d_law_899 : decode code 899 = .ok (.iaload, 1) := by decide +kernel
theorem d_law_900 : decode code 900 = .ok (.aload_n 0, 1) := by decide +kernel
theorem d_law_901 : decode code 901 = .ok (.iload_n 3, 1) := by decide +kernel
theorem d_law_902 : decode code 902 = .ok (.iconst 3, 1) := by decide +kernel
theorem d_law_903 : decode code 903 = .ok (.iadd, 1) := by decide +kernel
theorem d_law_904 : decode code 904 = .ok (.iaload, 1) := by decide +kernel
theorem d_law_905 : decode code 905 = .ok (.aload_n 0, 1) := by decide +kernel
theorem d_law_906 : decode code 906 = .ok (.iload_n 3, 1) := by decide +kernel
theorem d_law_907 : decode code 907 = .ok (.iconst 4, 1) := by decide +kernel
theorem d_law_908 : decode code 908 = .ok (.iadd, 1) := by decide +kernel
theorem d_law_909 : decode code 909 = .ok (.iaload, 1) := by decide +kernel
theorem d_law_910 : decode code 910 = .ok (.aload_n 0, 1) := by decide +kernel
theorem d_law_911 : decode code 911 = .ok (.iload_n 3, 1) := by decide +kernel
theorem d_law_912 : decode code 912 = .ok (.iconst 5, 1) := by decide +kernel
theorem d_law_913 : decode code 913 = .ok (.iadd, 1) := by decide +kernel
theorem d_law_914 : decode code 914 = .ok (.iaload, 1) := by decide +kernel
theorem d_law_915 : decode code 915 = .ok (.invokevirtual 106, 3) := by decide +kernel
theorem d_law_918 : decode code 918 = .ok (.aload_n 2, 1) := by decide +kernel
theorem d_law_919 : decode code 919 = .ok (.aload_n 0, 1) := by decide +kernel
theorem d_law_920 : decode code 920 = .ok (.iload_n 3, 1) := by decide +kernel
theorem d_law_921 : decode code 921 = .ok (.iconst 1, 1) := by decide +kernel
theorem d_law_922 : decode code 922 = .ok (.iadd, 1) := by decide +kernel
theorem d_law_923 : decode code 923 = .ok (.iaload, 1) := by decide +kernel
theorem d_law_924 : decode code 924 = .ok (.aload_n 0, 1) := by decide +kernel
theorem d_law_925 : decode code 925 = .ok (.iload_n 3, 1) := by decide +kernel
theorem d_law_926 : decode code 926 = .ok (.iconst 2, 1) := by decide +kernel
theorem d_law_927 : decode code 927 = .ok (.iadd, 1) := by decide +kernel
theorem d_law_928 : decode code 928 = .ok (.iaload, 1) := by decide +kernel
theorem d_law_929 : decode code 929 = .ok (.aload_n 0, 1) := by decide +kernel
theorem d_law_930 : decode code 930 = .ok (.iload_n 3, 1) := by decide +kernel
theorem d_law_931 : decode code 931 = .ok (.iconst 3, 1) := by decide +kernel
theorem d_law_932 : decode code 932 = .ok (.iadd, 1) := by decide +kernel
theorem d_law_933 : decode code 933 = .ok (.iaload, 1) := by decide +kernel
theorem d_law_934 : decode code 934 = .ok (.aload_n 0, 1) := by decide +kernel
theorem d_law_935 : decode code 935 = .ok (.iload_n 3, 1) := by decide +kernel
theorem d_law_936 : decode code 936 = .ok (.iconst 4, 1) := by decide +kernel
theorem d_law_937 : decode code 937 = .ok (.iadd, 1) := by decide +kernel
theorem d_law_938 : decode code 938 = .ok (.iaload, 1) := by decide +kernel
theorem d_law_939 : decode code 939 = .ok (.aload_n 0, 1) := by decide +kernel
theorem d_law_940 : decode code 940 = .ok (.iload_n 3, 1) := by decide +kernel
theorem d_law_941 : decode code 941 = .ok (.iconst 5, 1) := by decide +kernel
theorem d_law_942 : decode code 942 = .ok (.iadd, 1) := by decide +kernel
theorem d_law_943 : decode code 943 = .ok (.iaload, 1) := by decide +kernel
theorem d_law_944 : decode code 944 = .ok (.invokevirtual 110, 3) := by decide +kernel
theorem d_law_947 : decode code 947 = .ok (.if_icmp .eq 173, 3) := by decide +kernel
theorem d_law_950 : decode code 950 = .ok (.iconst 0, 1) := by decide +kernel
theorem d_law_951 : decode code 951 = .ok (.ireturn, 1) := by decide +kernel
theorem d_law_952 : decode code 952 = .ok (.aload_n 1, 1) := by decide +kernel
theorem d_law_953 : decode code 953 = .ok (.aload_n 0, 1) := by decide +kernel
theorem d_law_954 : decode code 954 = .ok (.iload_n 3, 1) := by decide +kernel
theorem d_law_955 : decode code 955 = .ok (.iconst 1, 1) := by decide +kernel
theorem d_law_956 : decode code 956 = .ok (.iadd, 1) := by decide +kernel
theorem d_law_957 : decode code 957 = .ok (.iaload, 1) := by decide +kernel
theorem d_law_958 : decode code 958 = .ok (.invokevirtual 111, 3) := by decide +kernel
theorem d_law_961 : decode code 961 = .ok (.aload_n 2, 1) := by decide +kernel
theorem d_law_962 : decode code 962 = .ok (.aload_n 0, 1) := by decide +kernel
theorem d_law_963 : decode code 963 = .ok (.iload_n 3, 1) := by decide +kernel
theorem d_law_964 : decode code 964 = .ok (.iconst 1, 1) := by decide +kernel
theorem d_law_965 : decode code 965 = .ok (.iadd, 1) := by decide +kernel
theorem d_law_966 : decode code 966 = .ok (.iaload, 1) := by decide +kernel
theorem d_law_967 : decode code 967 = .ok (.invokevirtual 114, 3) := by decide +kernel
theorem d_law_970 : decode code 970 = .ok (.if_icmp .eq 150, 3) := by decide +kernel
theorem d_law_973 : decode code 973 = .ok (.iconst 0, 1) := by decide +kernel
theorem d_law_974 : decode code 974 = .ok (.ireturn, 1) := by decide +kernel
theorem d_law_975 : decode code 975 = .ok (.aload_n 1, 1) := by decide +kernel
theorem d_law_976 : decode code 976 = .ok (.aload_n 0, 1) := by decide +kernel
theorem d_law_977 : decode code 977 = .ok (.iload_n 3, 1) := by decide +kernel
theorem d_law_978 : decode code 978 = .ok (.iconst 1, 1) := by decide +kernel
theorem d_law_979 : decode code 979 = .ok (.iadd, 1) := by decide +kernel
theorem d_law_980 : decode code 980 = .ok (.iaload, 1) := by decide +kernel
theorem d_law_981 : decode code 981 = .ok (.invokevirtual 115, 3) := by decide +kernel
theorem d_law_984 : decode code 984 = .ok (.aload_n 2, 1) := by decide +kernel
theorem d_law_985 : decode code 985 = .ok (.aload_n 0, 1) := by decide +kernel
theorem d_law_986 : decode code 986 = .ok (.iload_n 3, 1) := by decide +kernel
theorem d_law_987 : decode code 987 = .ok (.iconst 1, 1) := by decide +kernel
theorem d_law_988 : decode code 988 = .ok (.iadd, 1) := by decide +kernel
theorem d_law_989 : decode code 989 = .ok (.iaload, 1) := by decide +kernel
theorem d_law_990 : decode code 990 = .ok (.invokevirtual 118, 3) := by decide +kernel
theorem d_law_993 : decode code 993 = .ok (.if_icmp .eq 127, 3) := by decide +kernel
theorem d_law_996 : decode code 996 = .ok (.iconst 0, 1) := by decide +kernel
theorem d_law_997 : decode code 997 = .ok (.ireturn, 1) := by decide +kernel
theorem d_law_998 : decode code 998 = .ok (.aload_n 1, 1) := by decide +kernel
theorem d_law_999 : decode code 999 = .ok (.aload_n 0, 1) := by decide +kernel
theorem d_law_1000 : decode code 1000 = .ok (.iload_n 3, 1) := by decide +kernel
theorem d_law_1001 : decode code 1001 = .ok (.iconst 1, 1) := by decide +kernel
theorem d_law_1002 : decode code 1002 = .ok (.iadd, 1) := by decide +kernel
theorem d_law_1003 : decode code 1003 = .ok (.iaload, 1) := by decide +kernel
theorem d_law_1004 : decode code 1004 = .ok (.invokevirtual 119, 3) := by decide +kernel
theorem d_law_1007 : decode code 1007 = .ok (.aload_n 2, 1) := by decide +kernel
theorem d_law_1008 : decode code 1008 = .ok (.aload_n 0, 1) := by decide +kernel
theorem d_law_1009 : decode code 1009 = .ok (.iload_n 3, 1) := by decide +kernel
theorem d_law_1010 : decode code 1010 = .ok (.iconst 1, 1) := by decide +kernel
theorem d_law_1011 : decode code 1011 = .ok (.iadd, 1) := by decide +kernel
theorem d_law_1012 : decode code 1012 = .ok (.iaload, 1) := by decide +kernel
theorem d_law_1013 : decode code 1013 = .ok (.invokevirtual 122, 3) := by decide +kernel
theorem d_law_1016 : decode code 1016 = .ok (.if_icmp .eq 104, 3) := by decide +kernel
theorem d_law_1019 : decode code 1019 = .ok (.iconst 0, 1) := by decide +kernel
theorem d_law_1020 : decode code 1020 = .ok (.ireturn, 1) := by decide +kernel
theorem d_law_1021 : decode code 1021 = .ok (.aload_n 1, 1) := by decide +kernel
theorem d_law_1022 : decode code 1022 = .ok (.aload_n 0, 1) := by decide +kernel
theorem d_law_1023 : decode code 1023 = .ok (.iload_n 3, 1) := by decide +kernel
theorem d_law_1024 : decode code 1024 = .ok (.iconst 1, 1) := by decide +kernel
theorem d_law_1025 : decode code 1025 = .ok (.iadd, 1) := by decide +kernel
theorem d_law_1026 : decode code 1026 = .ok (.iaload, 1) := by decide +kernel
theorem d_law_1027 : decode code 1027 = .ok (.aload_n 0, 1) := by decide +kernel
theorem d_law_1028 : decode code 1028 = .ok (.iload_n 3, 1) := by decide +kernel
theorem d_law_1029 : decode code 1029 = .ok (.iconst 2, 1) := by decide +kernel
theorem d_law_1030 : decode code 1030 = .ok (.iadd, 1) := by decide +kernel
theorem d_law_1031 : decode code 1031 = .ok (.iaload, 1) := by decide +kernel
theorem d_law_1032 : decode code 1032 = .ok (.aload_n 0, 1) := by decide +kernel
theorem d_law_1033 : decode code 1033 = .ok (.iload_n 3, 1) := by decide +kernel
theorem d_law_1034 : decode code 1034 = .ok (.iconst 3, 1) := by decide +kernel
theorem d_law_1035 : decode code 1035 = .ok (.iadd, 1) := by decide +kernel
theorem d_law_1036 : decode code 1036 = .ok (.iaload, 1) := by decide +kernel
theorem d_law_1037 : decode code 1037 = .ok (.aload_n 0, 1) := by decide +kernel
theorem d_law_1038 : decode code 1038 = .ok (.iload_n 3, 1) := by decide +kernel
theorem d_law_1039 : decode code 1039 = .ok (.iconst 4, 1) := by decide +kernel
theorem d_law_1040 : decode code 1040 = .ok (.iadd, 1) := by decide +kernel
theorem d_law_1041 : decode code 1041 = .ok (.iaload, 1) := by decide +kernel
theorem d_law_1042 : decode code 1042 = .ok (.invokevirtual 123, 3) := by decide +kernel
theorem d_law_1045 : decode code 1045 = .ok (.aload_n 2, 1) := by decide +kernel
theorem d_law_1046 : decode code 1046 = .ok (.aload_n 0, 1) := by decide +kernel
theorem d_law_1047 : decode code 1047 = .ok (.iload_n 3, 1) := by decide +kernel
theorem d_law_1048 : decode code 1048 = .ok (.iconst 1, 1) := by decide +kernel
theorem d_law_1049 : decode code 1049 = .ok (.iadd, 1) := by decide +kernel
theorem d_law_1050 : decode code 1050 = .ok (.iaload, 1) := by decide +kernel
theorem d_law_1051 : decode code 1051 = .ok (.aload_n 0, 1) := by decide +kernel
theorem d_law_1052 : decode code 1052 = .ok (.iload_n 3, 1) := by decide +kernel
theorem d_law_1053 : decode code 1053 = .ok (.iconst 2, 1) := by decide +kernel
theorem d_law_1054 : decode code 1054 = .ok (.iadd, 1) := by decide +kernel
theorem d_law_1055 : decode code 1055 = .ok (.iaload, 1) := by decide +kernel
theorem d_law_1056 : decode code 1056 = .ok (.aload_n 0, 1) := by decide +kernel
theorem d_law_1057 : decode code 1057 = .ok (.iload_n 3, 1) := by decide +kernel
theorem d_law_1058 : decode code 1058 = .ok (.iconst 3, 1) := by decide +kernel
theorem d_law_1059 : decode code 1059 = .ok (.iadd, 1) := by decide +kernel
theorem d_law_1060 : decode code 1060 = .ok (.iaload, 1) := by decide +kernel
theorem d_law_1061 : decode code 1061 = .ok (.aload_n 0, 1) := by decide +kernel
theorem d_law_1062 : decode code 1062 = .ok (.iload_n 3, 1) := by decide +kernel
theorem d_law_1063 : decode code 1063 = .ok (.iconst 4, 1) := by decide +kernel
theorem d_law_1064 : decode code 1064 = .ok (.iadd, 1) := by decide +kernel
theorem d_law_1065 : decode code 1065 = .ok (.iaload, 1) := by decide +kernel
theorem d_law_1066 : decode code 1066 = .ok (.invokevirtual 126, 3) := by decide +kernel
theorem d_law_1069 : decode code 1069 = .ok (.if_icmp .eq 51, 3) := by decide +kernel
theorem d_law_1072 : decode code 1072 = .ok (.iconst 0, 1) := by decide +kernel
theorem d_law_1073 : decode code 1073 = .ok (.ireturn, 1) := by decide +kernel
theorem d_law_1074 : decode code 1074 = .ok (.aload_n 1, 1) := by decide +kernel
theorem d_law_1075 : decode code 1075 = .ok (.aload_n 0, 1) := by decide +kernel
theorem d_law_1076 : decode code 1076 = .ok (.iload_n 3, 1) := by decide +kernel
theorem d_law_1077 : decode code 1077 = .ok (.iconst 1, 1) := by decide +kernel
theorem d_law_1078 : decode code 1078 = .ok (.iadd, 1) := by decide +kernel
theorem d_law_1079 : decode code 1079 = .ok (.iaload, 1) := by decide +kernel
theorem d_law_1080 : decode code 1080 = .ok (.invokevirtual 127, 3) := by decide +kernel
theorem d_law_1083 : decode code 1083 = .ok (.aload_n 2, 1) := by decide +kernel
theorem d_law_1084 : decode code 1084 = .ok (.aload_n 0, 1) := by decide +kernel
theorem d_law_1085 : decode code 1085 = .ok (.iload_n 3, 1) := by decide +kernel
theorem d_law_1086 : decode code 1086 = .ok (.iconst 1, 1) := by decide +kernel
theorem d_law_1087 : decode code 1087 = .ok (.iadd, 1) := by decide +kernel
theorem d_law_1088 : decode code 1088 = .ok (.iaload, 1) := by decide +kernel
theorem d_law_1089 : decode code 1089 = .ok (.invokevirtual 130, 3) := by decide +kernel
theorem d_law_1092 : decode code 1092 = .ok (.if_icmp .eq 28, 3) := by decide +kernel
theorem d_law_1095 : decode code 1095 = .ok (.iconst 0, 1) := by decide +kernel
theorem d_law_1096 : decode code 1096 = .ok (.ireturn, 1) := by decide +kernel
theorem d_law_1097 : decode code 1097 = .ok (.aload_n 1, 1) := by decide +kernel
theorem d_law_1098 : decode code 1098 = .ok (.aload_n 0, 1) := by decide +kernel
theorem d_law_1099 : decode code 1099 = .ok (.iload_n 3, 1) := by decide +kernel
theorem d_law_1100 : decode code 1100 = .ok (.iconst 1, 1) := by decide +kernel
theorem d_law_1101 : decode code 1101 = .ok (.iadd, 1) := by decide +kernel
theorem d_law_1102 : decode code 1102 = .ok (.iaload, 1) := by decide +kernel
theorem d_law_1103 : decode code 1103 = .ok (.invokevirtual 131, 3) := by decide +kernel
theorem d_law_1106 : decode code 1106 = .ok (.aload_n 2, 1) := by decide +kernel
theorem d_law_1107 : decode code 1107 = .ok (.aload_n 0, 1) := by decide +kernel
theorem d_law_1108 : decode code 1108 = .ok (.iload_n 3, 1) := by decide +kernel
theorem d_law_1109 : decode code 1109 = .ok (.iconst 1, 1) := by decide +kernel
theorem d_law_1110 : decode code 1110 = .ok (.iadd, 1) := by decide +kernel
theorem d_law_1111 : decode code 1111 = .ok (.iaload, 1) := by decide +kernel
theorem d_law_1112 : decode code 1112 = .ok (.invokevirtual 134, 3) := by decide +kernel
theorem d_law_1115 : decode code 1115 = .ok (.if_icmp .eq 5, 3) := by decide +kernel
theorem d_law_1118 : decode code 1118 = .ok (.iconst 0, 1) := by decide +kernel
theorem d_law_1119 : decode code 1119 = .ok (.ireturn, 1) := by decide +kernel
theorem d_law_1120 : decode code 1120 = .ok (.iinc 3 6, 3) := by decide +kernel
theorem d_law_1123 : decode code 1123 = .ok (.goto (-1105), 3) := by decide +kernel
theorem d_law_1126 : decode code 1126 = .ok (.iconst 1, 1) := by decide +kernel
theorem d_law_1127 : decode code 1127 = .ok (.ireturn, 1) := by decide +kernel
