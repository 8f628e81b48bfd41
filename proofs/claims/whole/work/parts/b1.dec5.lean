/-! the law's code -/
theorem d_law_1033 : decode code 1033 = .ok (.lor, 1) := by decide +kernel
theorem d_law_1034 : decode code 1034 = .ok (.aload_n 0, 1) := by decide +kernel
theorem d_law_1035 : decode code 1035 = .ok (.iload 4, 2) := by decide +kernel
theorem d_law_1037 : decode code 1037 = .ok (.iconst (3), 1) := by decide +kernel
theorem d_law_1038 : decode code 1038 = .ok (.iadd, 1) := by decide +kernel
theorem d_law_1039 : decode code 1039 = .ok (.iaload, 1) := by decide +kernel
theorem d_law_1040 : decode code 1040 = .ok (.invokevirtual 136, 3) := by decide +kernel
theorem d_law_1043 : decode code 1043 = .ok (.aload_n 2, 1) := by decide +kernel
theorem d_law_1044 : decode code 1044 = .ok (.aload_n 0, 1) := by decide +kernel
theorem d_law_1045 : decode code 1045 = .ok (.iload 4, 2) := by decide +kernel
theorem d_law_1047 : decode code 1047 = .ok (.iconst (1), 1) := by decide +kernel
theorem d_law_1048 : decode code 1048 = .ok (.iadd, 1) := by decide +kernel
theorem d_law_1049 : decode code 1049 = .ok (.iaload, 1) := by decide +kernel
theorem d_law_1050 : decode code 1050 = .ok (.i2l, 1) := by decide +kernel
theorem d_law_1051 : decode code 1051 = .ok (.bipush (32), 2) := by decide +kernel
theorem d_law_1053 : decode code 1053 = .ok (.lshl, 1) := by decide +kernel
theorem d_law_1054 : decode code 1054 = .ok (.aload_n 0, 1) := by decide +kernel
theorem d_law_1055 : decode code 1055 = .ok (.iload 4, 2) := by decide +kernel
theorem d_law_1057 : decode code 1057 = .ok (.iconst (2), 1) := by decide +kernel
theorem d_law_1058 : decode code 1058 = .ok (.iadd, 1) := by decide +kernel
theorem d_law_1059 : decode code 1059 = .ok (.iaload, 1) := by decide +kernel
theorem d_law_1060 : decode code 1060 = .ok (.i2l, 1) := by decide +kernel
theorem d_law_1061 : decode code 1061 = .ok (.ldc2_w 99, 3) := by decide +kernel
theorem d_law_1064 : decode code 1064 = .ok (.land, 1) := by decide +kernel
theorem d_law_1065 : decode code 1065 = .ok (.lor, 1) := by decide +kernel
theorem d_law_1066 : decode code 1066 = .ok (.aload_n 0, 1) := by decide +kernel
theorem d_law_1067 : decode code 1067 = .ok (.iload 4, 2) := by decide +kernel
theorem d_law_1069 : decode code 1069 = .ok (.iconst (3), 1) := by decide +kernel
theorem d_law_1070 : decode code 1070 = .ok (.iadd, 1) := by decide +kernel
theorem d_law_1071 : decode code 1071 = .ok (.iaload, 1) := by decide +kernel
theorem d_law_1072 : decode code 1072 = .ok (.invokevirtual 139, 3) := by decide +kernel
theorem d_law_1075 : decode code 1075 = .ok (.if_icmp .eq (5), 3) := by decide +kernel
theorem d_law_1078 : decode code 1078 = .ok (.iconst (0), 1) := by decide +kernel
theorem d_law_1079 : decode code 1079 = .ok (.ireturn, 1) := by decide +kernel
theorem d_law_1080 : decode code 1080 = .ok (.iinc 4 (4), 3) := by decide +kernel
theorem d_law_1083 : decode code 1083 = .ok (.goto (-1060), 3) := by decide +kernel
theorem d_law_1086 : decode code 1086 = .ok (.iconst (1), 1) := by decide +kernel
theorem d_law_1087 : decode code 1087 = .ok (.ireturn, 1) := by decide +kernel
