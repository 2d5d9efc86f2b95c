theorem d_Lw_law_945 : decode b_Lw_law 945 = .ok (.iadd, 1) := by decide +kernel
theorem d_Lw_law_946 : decode b_Lw_law 946 = .ok (.iaload, 1) := by decide +kernel
theorem d_Lw_law_947 : decode b_Lw_law 947 = .ok (.aload_n 0, 1) := by decide +kernel
theorem d_Lw_law_948 : decode b_Lw_law 948 = .ok (.iload 4, 2) := by decide +kernel
theorem d_Lw_law_950 : decode b_Lw_law 950 = .ok (.iconst 2, 1) := by decide +kernel
theorem d_Lw_law_951 : decode b_Lw_law 951 = .ok (.iadd, 1) := by decide +kernel
theorem d_Lw_law_952 : decode b_Lw_law 952 = .ok (.iaload, 1) := by decide +kernel
theorem d_Lw_law_953 : decode b_Lw_law 953 = .ok (.aload_n 0, 1) := by decide +kernel
theorem d_Lw_law_954 : decode b_Lw_law 954 = .ok (.iload 4, 2) := by decide +kernel
theorem d_Lw_law_956 : decode b_Lw_law 956 = .ok (.iconst 3, 1) := by decide +kernel
theorem d_Lw_law_957 : decode b_Lw_law 957 = .ok (.iadd, 1) := by decide +kernel
theorem d_Lw_law_958 : decode b_Lw_law 958 = .ok (.iaload, 1) := by decide +kernel
theorem d_Lw_law_959 : decode b_Lw_law 959 = .ok (.invokevirtual 112, 3) := by decide +kernel
theorem d_Lw_law_962 : decode b_Lw_law 962 = .ok (.lcmp, 1) := by decide +kernel
theorem d_Lw_law_963 : decode b_Lw_law 963 = .ok (.ifCond .eq 141, 3) := by decide +kernel
theorem d_Lw_law_966 : decode b_Lw_law 966 = .ok (.iconst 0, 1) := by decide +kernel
theorem d_Lw_law_967 : decode b_Lw_law 967 = .ok (.ireturn, 1) := by decide +kernel
theorem d_Lw_law_968 : decode b_Lw_law 968 = .ok (.aload_n 1, 1) := by decide +kernel
theorem d_Lw_law_969 : decode b_Lw_law 969 = .ok (.aload_n 0, 1) := by decide +kernel
theorem d_Lw_law_970 : decode b_Lw_law 970 = .ok (.iload 4, 2) := by decide +kernel
theorem d_Lw_law_972 : decode b_Lw_law 972 = .ok (.iconst 1, 1) := by decide +kernel
theorem d_Lw_law_973 : decode b_Lw_law 973 = .ok (.iadd, 1) := by decide +kernel
theorem d_Lw_law_974 : decode b_Lw_law 974 = .ok (.iaload, 1) := by decide +kernel
theorem d_Lw_law_975 : decode b_Lw_law 975 = .ok (.aload_n 0, 1) := by decide +kernel
theorem d_Lw_law_976 : decode b_Lw_law 976 = .ok (.iload 4, 2) := by decide +kernel
theorem d_Lw_law_978 : decode b_Lw_law 978 = .ok (.iconst 2, 1) := by decide +kernel
theorem d_Lw_law_979 : decode b_Lw_law 979 = .ok (.iadd, 1) := by decide +kernel
theorem d_Lw_law_980 : decode b_Lw_law 980 = .ok (.iaload, 1) := by decide +kernel
theorem d_Lw_law_981 : decode b_Lw_law 981 = .ok (.invokevirtual 113, 3) := by decide +kernel
theorem d_Lw_law_984 : decode b_Lw_law 984 = .ok (.aload_n 2, 1) := by decide +kernel
theorem d_Lw_law_985 : decode b_Lw_law 985 = .ok (.aload_n 0, 1) := by decide +kernel
theorem d_Lw_law_986 : decode b_Lw_law 986 = .ok (.iload 4, 2) := by decide +kernel
theorem d_Lw_law_988 : decode b_Lw_law 988 = .ok (.iconst 1, 1) := by decide +kernel
theorem d_Lw_law_989 : decode b_Lw_law 989 = .ok (.iadd, 1) := by decide +kernel
theorem d_Lw_law_990 : decode b_Lw_law 990 = .ok (.iaload, 1) := by decide +kernel
theorem d_Lw_law_991 : decode b_Lw_law 991 = .ok (.aload_n 0, 1) := by decide +kernel
theorem d_Lw_law_992 : decode b_Lw_law 992 = .ok (.iload 4, 2) := by decide +kernel
theorem d_Lw_law_994 : decode b_Lw_law 994 = .ok (.iconst 2, 1) := by decide +kernel
theorem d_Lw_law_995 : decode b_Lw_law 995 = .ok (.iadd, 1) := by decide +kernel
theorem d_Lw_law_996 : decode b_Lw_law 996 = .ok (.iaload, 1) := by decide +kernel
theorem d_Lw_law_997 : decode b_Lw_law 997 = .ok (.invokevirtual 116, 3) := by decide +kernel
theorem d_Lw_law_1000 : decode b_Lw_law 1000 = .ok (.if_icmp .eq 104, 3) := by decide +kernel
theorem d_Lw_law_1003 : decode b_Lw_law 1003 = .ok (.iconst 0, 1) := by decide +kernel
theorem d_Lw_law_1004 : decode b_Lw_law 1004 = .ok (.ireturn, 1) := by decide +kernel
theorem d_Lw_law_1005 : decode b_Lw_law 1005 = .ok (.aload_n 1, 1) := by decide +kernel
theorem d_Lw_law_1006 : decode b_Lw_law 1006 = .ok (.aload_n 0, 1) := by decide +kernel
theorem d_Lw_law_1007 : decode b_Lw_law 1007 = .ok (.iload 4, 2) := by decide +kernel
theorem d_Lw_law_1009 : decode b_Lw_law 1009 = .ok (.iconst 1, 1) := by decide +kernel
theorem d_Lw_law_1010 : decode b_Lw_law 1010 = .ok (.iadd, 1) := by decide +kernel
theorem d_Lw_law_1011 : decode b_Lw_law 1011 = .ok (.iaload, 1) := by decide +kernel
theorem d_Lw_law_1012 : decode b_Lw_law 1012 = .ok (.aload_n 0, 1) := by decide +kernel
theorem d_Lw_law_1013 : decode b_Lw_law 1013 = .ok (.iload 4, 2) := by decide +kernel
theorem d_Lw_law_1015 : decode b_Lw_law 1015 = .ok (.iconst 2, 1) := by decide +kernel
theorem d_Lw_law_1016 : decode b_Lw_law 1016 = .ok (.iadd, 1) := by decide +kernel
theorem d_Lw_law_1017 : decode b_Lw_law 1017 = .ok (.iaload, 1) := by decide +kernel
theorem d_Lw_law_1018 : decode b_Lw_law 1018 = .ok (.aload_n 0, 1) := by decide +kernel
theorem d_Lw_law_1019 : decode b_Lw_law 1019 = .ok (.iload 4, 2) := by decide +kernel
theorem d_Lw_law_1021 : decode b_Lw_law 1021 = .ok (.iconst 3, 1) := by decide +kernel
theorem d_Lw_law_1022 : decode b_Lw_law 1022 = .ok (.iadd, 1) := by decide +kernel
theorem d_Lw_law_1023 : decode b_Lw_law 1023 = .ok (.iaload, 1) := by decide +kernel
theorem d_Lw_law_1024 : decode b_Lw_law 1024 = .ok (.invokevirtual 117, 3) := by decide +kernel
theorem d_Lw_law_1027 : decode b_Lw_law 1027 = .ok (.aload_n 2, 1) := by decide +kernel
theorem d_Lw_law_1028 : decode b_Lw_law 1028 = .ok (.aload_n 0, 1) := by decide +kernel
theorem d_Lw_law_1029 : decode b_Lw_law 1029 = .ok (.iload 4, 2) := by decide +kernel
theorem d_Lw_law_1031 : decode b_Lw_law 1031 = .ok (.iconst 1, 1) := by decide +kernel
theorem d_Lw_law_1032 : decode b_Lw_law 1032 = .ok (.iadd, 1) := by decide +kernel
theorem d_Lw_law_1033 : decode b_Lw_law 1033 = .ok (.iaload, 1) := by decide +kernel
theorem d_Lw_law_1034 : decode b_Lw_law 1034 = .ok (.aload_n 0, 1) := by decide +kernel
theorem d_Lw_law_1035 : decode b_Lw_law 1035 = .ok (.iload 4, 2) := by decide +kernel
theorem d_Lw_law_1037 : decode b_Lw_law 1037 = .ok (.iconst 2, 1) := by decide +kernel
theorem d_Lw_law_1038 : decode b_Lw_law 1038 = .ok (.iadd, 1) := by decide +kernel
theorem d_Lw_law_1039 : decode b_Lw_law 1039 = .ok (.iaload, 1) := by decide +kernel
theorem d_Lw_law_1040 : decode b_Lw_law 1040 = .ok (.aload_n 0, 1) := by decide +kernel
theorem d_Lw_law_1041 : decode b_Lw_law 1041 = .ok (.iload 4, 2) := by decide +kernel
theorem d_Lw_law_1043 : decode b_Lw_law 1043 = .ok (.iconst 3, 1) := by decide +kernel
theorem d_Lw_law_1044 : decode b_Lw_law 1044 = .ok (.iadd, 1) := by decide +kernel
theorem d_Lw_law_1045 : decode b_Lw_law 1045 = .ok (.iaload, 1) := by decide +kernel
theorem d_Lw_law_1046 : decode b_Lw_law 1046 = .ok (.invokevirtual 121, 3) := by decide +kernel
theorem d_Lw_law_1049 : decode b_Lw_law 1049 = .ok (.if_icmp .eq 55, 3) := by decide +kernel
theorem d_Lw_law_1052 : decode b_Lw_law 1052 = .ok (.iconst 0, 1) := by decide +kernel
theorem d_Lw_law_1053 : decode b_Lw_law 1053 = .ok (.ireturn, 1) := by decide +kernel
theorem d_Lw_law_1054 : decode b_Lw_law 1054 = .ok (.aload_n 1, 1) := by decide +kernel
theorem d_Lw_law_1055 : decode b_Lw_law 1055 = .ok (.aload_n 0, 1) := by decide +kernel
theorem d_Lw_law_1056 : decode b_Lw_law 1056 = .ok (.iload 4, 2) := by decide +kernel
theorem d_Lw_law_1058 : decode b_Lw_law 1058 = .ok (.iconst 1, 1) := by decide +kernel
theorem d_Lw_law_1059 : decode b_Lw_law 1059 = .ok (.iadd, 1) := by decide +kernel
theorem d_Lw_law_1060 : decode b_Lw_law 1060 = .ok (.iaload, 1) := by decide +kernel
theorem d_Lw_law_1061 : decode b_Lw_law 1061 = .ok (.invokevirtual 122, 3) := by decide +kernel
theorem d_Lw_law_1064 : decode b_Lw_law 1064 = .ok (.aload_n 2, 1) := by decide +kernel
theorem d_Lw_law_1065 : decode b_Lw_law 1065 = .ok (.aload_n 0, 1) := by decide +kernel
theorem d_Lw_law_1066 : decode b_Lw_law 1066 = .ok (.iload 4, 2) := by decide +kernel
theorem d_Lw_law_1068 : decode b_Lw_law 1068 = .ok (.iconst 1, 1) := by decide +kernel
theorem d_Lw_law_1069 : decode b_Lw_law 1069 = .ok (.iadd, 1) := by decide +kernel
theorem d_Lw_law_1070 : decode b_Lw_law 1070 = .ok (.iaload, 1) := by decide +kernel
theorem d_Lw_law_1071 : decode b_Lw_law 1071 = .ok (.invokevirtual 125, 3) := by decide +kernel
theorem d_Lw_law_1074 : decode b_Lw_law 1074 = .ok (.if_icmp .eq 30, 3) := by decide +kernel
theorem d_Lw_law_1077 : decode b_Lw_law 1077 = .ok (.iconst 0, 1) := by decide +kernel
theorem d_Lw_law_1078 : decode b_Lw_law 1078 = .ok (.ireturn, 1) := by decide +kernel
theorem d_Lw_law_1079 : decode b_Lw_law 1079 = .ok (.aload_n 1, 1) := by decide +kernel
theorem d_Lw_law_1080 : decode b_Lw_law 1080 = .ok (.aload_n 0, 1) := by decide +kernel
theorem d_Lw_law_1081 : decode b_Lw_law 1081 = .ok (.iload 4, 2) := by decide +kernel
theorem d_Lw_law_1083 : decode b_Lw_law 1083 = .ok (.iconst 1, 1) := by decide +kernel
theorem d_Lw_law_1084 : decode b_Lw_law 1084 = .ok (.iadd, 1) := by decide +kernel
theorem d_Lw_law_1085 : decode b_Lw_law 1085 = .ok (.iaload, 1) := by decide +kernel
theorem d_Lw_law_1086 : decode b_Lw_law 1086 = .ok (.invokevirtual 126, 3) := by decide +kernel
theorem d_Lw_law_1089 : decode b_Lw_law 1089 = .ok (.aload_n 2, 1) := by decide +kernel
theorem d_Lw_law_1090 : decode b_Lw_law 1090 = .ok (.aload_n 0, 1) := by decide +kernel
theorem d_Lw_law_1091 : decode b_Lw_law 1091 = .ok (.iload 4, 2) := by decide +kernel
theorem d_Lw_law_1093 : decode b_Lw_law 1093 = .ok (.iconst 1, 1) := by decide +kernel
theorem d_Lw_law_1094 : decode b_Lw_law 1094 = .ok (.iadd, 1) := by decide +kernel
theorem d_Lw_law_1095 : decode b_Lw_law 1095 = .ok (.iaload, 1) := by decide +kernel
theorem d_Lw_law_1096 : decode b_Lw_law 1096 = .ok (.invokevirtual 129, 3) := by decide +kernel
theorem d_Lw_law_1099 : decode b_Lw_law 1099 = .ok (.if_icmp .eq 5, 3) := by decide +kernel
theorem d_Lw_law_1102 : decode b_Lw_law 1102 = .ok (.iconst 0, 1) := by decide +kernel
theorem d_Lw_law_1103 : decode b_Lw_law 1103 = .ok (.ireturn, 1) := by decide +kernel
theorem d_Lw_law_1104 : decode b_Lw_law 1104 = .ok (.iinc 4 6, 3) := by decide +kernel
theorem d_Lw_law_1107 : decode b_Lw_law 1107 = .ok (.goto (-1072), 3) := by decide +kernel
theorem d_Lw_law_1110 : decode b_Lw_law 1110 = .ok (.iconst 1, 1) := by decide +kernel
theorem d_Lw_law_1111 : decode b_Lw_law 1111 = .ok (.ireturn, 1) := by decide +kernel
