theorem dL_law_1018 : decode code 1018 = .ok (.iload 4, 2) := by decide +kernel
theorem dL_law_1020 : decode code 1020 = .ok (.iconst 2, 1) := by decide +kernel
theorem dL_law_1021 : decode code 1021 = .ok (.iadd, 1) := by decide +kernel
theorem dL_law_1022 : decode code 1022 = .ok (.iaload, 1) := by decide +kernel
theorem dL_law_1023 : decode code 1023 = .ok (.aload_n 0, 1) := by decide +kernel
theorem dL_law_1024 : decode code 1024 = .ok (.iload 4, 2) := by decide +kernel
theorem dL_law_1026 : decode code 1026 = .ok (.iconst 3, 1) := by decide +kernel
theorem dL_law_1027 : decode code 1027 = .ok (.iadd, 1) := by decide +kernel
theorem dL_law_1028 : decode code 1028 = .ok (.iaload, 1) := by decide +kernel
theorem dL_law_1029 : decode code 1029 = .ok (.aload_n 3, 1) := by decide +kernel
theorem dL_law_1030 : decode code 1030 = .ok (.invokestatic 136, 3) := by decide +kernel
theorem dL_law_1033 : decode code 1033 = .ok (.istore 5, 2) := by decide +kernel
theorem dL_law_1035 : decode code 1035 = .ok (.aload_n 2, 1) := by decide +kernel
theorem dL_law_1036 : decode code 1036 = .ok (.aload_n 0, 1) := by decide +kernel
theorem dL_law_1037 : decode code 1037 = .ok (.iload 4, 2) := by decide +kernel
theorem dL_law_1039 : decode code 1039 = .ok (.iconst 1, 1) := by decide +kernel
theorem dL_law_1040 : decode code 1040 = .ok (.iadd, 1) := by decide +kernel
theorem dL_law_1041 : decode code 1041 = .ok (.iaload, 1) := by decide +kernel
theorem dL_law_1042 : decode code 1042 = .ok (.aload_n 0, 1) := by decide +kernel
theorem dL_law_1043 : decode code 1043 = .ok (.iload 4, 2) := by decide +kernel
theorem dL_law_1045 : decode code 1045 = .ok (.iconst 2, 1) := by decide +kernel
theorem dL_law_1046 : decode code 1046 = .ok (.iadd, 1) := by decide +kernel
theorem dL_law_1047 : decode code 1047 = .ok (.iaload, 1) := by decide +kernel
theorem dL_law_1048 : decode code 1048 = .ok (.aload_n 0, 1) := by decide +kernel
theorem dL_law_1049 : decode code 1049 = .ok (.iload 4, 2) := by decide +kernel
theorem dL_law_1051 : decode code 1051 = .ok (.iconst 3, 1) := by decide +kernel
theorem dL_law_1052 : decode code 1052 = .ok (.iadd, 1) := by decide +kernel
theorem dL_law_1053 : decode code 1053 = .ok (.iaload, 1) := by decide +kernel
theorem dL_law_1054 : decode code 1054 = .ok (.invokevirtual 139, 3) := by decide +kernel
theorem dL_law_1057 : decode code 1057 = .ok (.istore 6, 2) := by decide +kernel
theorem dL_law_1059 : decode code 1059 = .ok (.aload_n 2, 1) := by decide +kernel
theorem dL_law_1060 : decode code 1060 = .ok (.invokevirtual 67, 3) := by decide +kernel
theorem dL_law_1063 : decode code 1063 = .ok (.iload 5, 2) := by decide +kernel
theorem dL_law_1065 : decode code 1065 = .ok (.if_icmp .eq 5, 3) := by decide +kernel
theorem dL_law_1070 : decode code 1070 = .ok (.iload 5, 2) := by decide +kernel
theorem dL_law_1072 : decode code 1072 = .ok (.ifCond .ne 15, 3) := by decide +kernel
theorem dL_law_1075 : decode code 1075 = .ok (.aload_n 3, 1) := by decide +kernel
theorem dL_law_1076 : decode code 1076 = .ok (.iconst 0, 1) := by decide +kernel
theorem dL_law_1077 : decode code 1077 = .ok (.laload, 1) := by decide +kernel
theorem dL_law_1078 : decode code 1078 = .ok (.iload 6, 2) := by decide +kernel
theorem dL_law_1080 : decode code 1080 = .ok (.i2l, 1) := by decide +kernel
theorem dL_law_1081 : decode code 1081 = .ok (.lcmp, 1) := by decide +kernel
theorem dL_law_1082 : decode code 1082 = .ok (.ifCond .eq 5, 3) := by decide +kernel
theorem dL_law_1087 : decode code 1087 = .ok (.goto 356, 3) := by decide +kernel
theorem dL_law_1090 : decode code 1090 = .ok (.aload_n 1, 1) := by decide +kernel
theorem dL_law_1091 : decode code 1091 = .ok (.aload_n 0, 1) := by decide +kernel
theorem dL_law_1092 : decode code 1092 = .ok (.iload 4, 2) := by decide +kernel
theorem dL_law_1094 : decode code 1094 = .ok (.iconst 1, 1) := by decide +kernel
theorem dL_law_1095 : decode code 1095 = .ok (.iadd, 1) := by decide +kernel
theorem dL_law_1096 : decode code 1096 = .ok (.iaload, 1) := by decide +kernel
theorem dL_law_1097 : decode code 1097 = .ok (.aload_n 0, 1) := by decide +kernel
theorem dL_law_1098 : decode code 1098 = .ok (.iload 4, 2) := by decide +kernel
theorem dL_law_1100 : decode code 1100 = .ok (.iconst 2, 1) := by decide +kernel
theorem dL_law_1101 : decode code 1101 = .ok (.iadd, 1) := by decide +kernel
theorem dL_law_1102 : decode code 1102 = .ok (.iaload, 1) := by decide +kernel
theorem dL_law_1103 : decode code 1103 = .ok (.invokevirtual 140, 3) := by decide +kernel
theorem dL_law_1106 : decode code 1106 = .ok (.aload_n 2, 1) := by decide +kernel
theorem dL_law_1107 : decode code 1107 = .ok (.aload_n 0, 1) := by decide +kernel
theorem dL_law_1108 : decode code 1108 = .ok (.iload 4, 2) := by decide +kernel
theorem dL_law_1110 : decode code 1110 = .ok (.iconst 1, 1) := by decide +kernel
