theorem dL_law_1049 : decode cL_law 1049 = .ok (.goto 865, 3) := dLg_30.2.2.2.2.2.2.2.2.2.1
theorem dL_law_1052 : decode cL_law 1052 = .ok (.aload_n 1, 1) := dLg_30.2.2.2.2.2.2.2.2.2.2.1
theorem dL_law_1053 : decode cL_law 1053 = .ok (.aload_n 0, 1) := dLg_30.2.2.2.2.2.2.2.2.2.2.2.1
theorem dL_law_1054 : decode cL_law 1054 = .ok (.iload_n 3, 1) := dLg_30.2.2.2.2.2.2.2.2.2.2.2.2.1
theorem dL_law_1055 : decode cL_law 1055 = .ok (.iconst 1, 1) := dLg_30.2.2.2.2.2.2.2.2.2.2.2.2.2.1
theorem dL_law_1056 : decode cL_law 1056 = .ok (.iadd, 1) := dLg_30.2.2.2.2.2.2.2.2.2.2.2.2.2.2.1
theorem dL_law_1057 : decode cL_law 1057 = .ok (.iaload, 1) := dLg_30.2.2.2.2.2.2.2.2.2.2.2.2.2.2.2.1
theorem dL_law_1058 : decode cL_law 1058 = .ok (.aload_n 0, 1) := dLg_30.2.2.2.2.2.2.2.2.2.2.2.2.2.2.2.2.1
theorem dL_law_1059 : decode cL_law 1059 = .ok (.iload_n 3, 1) := dLg_30.2.2.2.2.2.2.2.2.2.2.2.2.2.2.2.2.2.1
theorem dL_law_1060 : decode cL_law 1060 = .ok (.iconst 2, 1) := dLg_30.2.2.2.2.2.2.2.2.2.2.2.2.2.2.2.2.2.2.1
theorem dL_law_1061 : decode cL_law 1061 = .ok (.iadd, 1) := dLg_30.2.2.2.2.2.2.2.2.2.2.2.2.2.2.2.2.2.2.2.1
theorem dL_law_1062 : decode cL_law 1062 = .ok (.iaload, 1) := dLg_30.2.2.2.2.2.2.2.2.2.2.2.2.2.2.2.2.2.2.2.2.1
theorem dL_law_1063 : decode cL_law 1063 = .ok (.aload_n 0, 1) := dLg_30.2.2.2.2.2.2.2.2.2.2.2.2.2.2.2.2.2.2.2.2.2.1
theorem dL_law_1064 : decode cL_law 1064 = .ok (.iload_n 3, 1) := dLg_30.2.2.2.2.2.2.2.2.2.2.2.2.2.2.2.2.2.2.2.2.2.2.1
theorem dL_law_1065 : decode cL_law 1065 = .ok (.iconst 3, 1) := dLg_30.2.2.2.2.2.2.2.2.2.2.2.2.2.2.2.2.2.2.2.2.2.2.2
theorem dLg_31 : (decode cL_law 1066 = .ok (.iadd, 1)) ∧ (decode cL_law 1067 = .ok (.iaload, 1)) ∧ (decode cL_law 1068 = .ok (.aload_n 0, 1)) ∧ (decode cL_law 1069 = .ok (.iload_n 3, 1)) ∧ (decode cL_law 1070 = .ok (.iconst 4, 1)) ∧ (decode cL_law 1071 = .ok (.iadd, 1)) ∧ (decode cL_law 1072 = .ok (.iaload, 1)) ∧ (decode cL_law 1073 = .ok (.invokevirtual 102, 3)) ∧ (decode cL_law 1076 = .ok (.pop, 1)) ∧ (decode cL_law 1077 = .ok (.aload_n 2, 1)) ∧ (decode cL_law 1078 = .ok (.aload_n 0, 1)) ∧ (decode cL_law 1079 = .ok (.iload_n 3, 1)) ∧ (decode cL_law 1080 = .ok (.iconst 1, 1)) ∧ (decode cL_law 1081 = .ok (.iadd, 1)) ∧ (decode cL_law 1082 = .ok (.iaload, 1)) ∧ (decode cL_law 1083 = .ok (.aload_n 0, 1)) ∧ (decode cL_law 1084 = .ok (.iload_n 3, 1)) ∧ (decode cL_law 1085 = .ok (.iconst 2, 1)) ∧ (decode cL_law 1086 = .ok (.iadd, 1)) ∧ (decode cL_law 1087 = .ok (.iaload, 1)) ∧ (decode cL_law 1088 = .ok (.aload_n 0, 1)) ∧ (decode cL_law 1089 = .ok (.iload_n 3, 1)) ∧ (decode cL_law 1090 = .ok (.iconst 3, 1)) ∧ (decode cL_law 1091 = .ok (.iadd, 1)) := by decide +kernel
theorem dL_law_1066 : decode cL_law 1066 = .ok (.iadd, 1) := dLg_31.1
theorem dL_law_1067 : decode cL_law 1067 = .ok (.iaload, 1) := dLg_31.2.1
theorem dL_law_1068 : decode cL_law 1068 = .ok (.aload_n 0, 1) := dLg_31.2.2.1
theorem dL_law_1069 : decode cL_law 1069 = .ok (.iload_n 3, 1) := dLg_31.2.2.2.1
theorem dL_law_1070 : decode cL_law 1070 = .ok (.iconst 4, 1) := dLg_31.2.2.2.2.1
theorem dL_law_1071 : decode cL_law 1071 = .ok (.iadd, 1) := dLg_31.2.2.2.2.2.1
theorem dL_law_1072 : decode cL_law 1072 = .ok (.iaload, 1) := dLg_31.2.2.2.2.2.2.1
theorem dL_law_1073 : decode cL_law 1073 = .ok (.invokevirtual 102, 3) := dLg_31.2.2.2.2.2.2.2.1
theorem dL_law_1076 : decode cL_law 1076 = .ok (.pop, 1) := dLg_31.2.2.2.2.2.2.2.2.1
theorem dL_law_1077 : decode cL_law 1077 = .ok (.aload_n 2, 1) := dLg_31.2.2.2.2.2.2.2.2.2.1
theorem dL_law_1078 : decode cL_law 1078 = .ok (.aload_n 0, 1) := dLg_31.2.2.2.2.2.2.2.2.2.2.1
theorem dL_law_1079 : decode cL_law 1079 = .ok (.iload_n 3, 1) := dLg_31.2.2.2.2.2.2.2.2.2.2.2.1
theorem dL_law_1080 : decode cL_law 1080 = .ok (.iconst 1, 1) := dLg_31.2.2.2.2.2.2.2.2.2.2.2.2.1
theorem dL_law_1081 : decode cL_law 1081 = .ok (.iadd, 1) := dLg_31.2.2.2.2.2.2.2.2.2.2.2.2.2.1
theorem dL_law_1082 : decode cL_law 1082 = .ok (.iaload, 1) := dLg_31.2.2.2.2.2.2.2.2.2.2.2.2.2.2.1
theorem dL_law_1083 : decode cL_law 1083 = .ok (.aload_n 0, 1) := dLg_31.2.2.2.2.2.2.2.2.2.2.2.2.2.2.2.1
theorem dL_law_1084 : decode cL_law 1084 = .ok (.iload_n 3, 1) := dLg_31.2.2.2.2.2.2.2.2.2.2.2.2.2.2.2.2.1
theorem dL_law_1085 : decode cL_law 1085 = .ok (.iconst 2, 1) := dLg_31.2.2.2.2.2.2.2.2.2.2.2.2.2.2.2.2.2.1
theorem dL_law_1086 : decode cL_law 1086 = .ok (.iadd, 1) := dLg_31.2.2.2.2.2.2.2.2.2.2.2.2.2.2.2.2.2.2.1
theorem dL_law_1087 : decode cL_law 1087 = .ok (.iaload, 1) := dLg_31.2.2.2.2.2.2.2.2.2.2.2.2.2.2.2.2.2.2.2.1
theorem dL_law_1088 : decode cL_law 1088 = .ok (.aload_n 0, 1) := dLg_31.2.2.2.2.2.2.2.2.2.2.2.2.2.2.2.2.2.2.2.2.1
theorem dL_law_1089 : decode cL_law 1089 = .ok (.iload_n 3, 1) := dLg_31.2.2.2.2.2.2.2.2.2.2.2.2.2.2.2.2.2.2.2.2.2.1
theorem dL_law_1090 : decode cL_law 1090 = .ok (.iconst 3, 1) := dLg_31.2.2.2.2.2.2.2.2.2.2.2.2.2.2.2.2.2.2.2.2.2.2.1
theorem dL_law_1091 : decode cL_law 1091 = .ok (.iadd, 1) := dLg_31.2.2.2.2.2.2.2.2.2.2.2.2.2.2.2.2.2.2.2.2.2.2.2
theorem dLg_32 : (decode cL_law 1092 = .ok (.iaload, 1)) ∧ (decode cL_law 1093 = .ok (.aload_n 0, 1)) ∧ (decode cL_law 1094 = .ok (.iload_n 3, 1)) ∧ (decode cL_law 1095 = .ok (.iconst 4, 1)) ∧ (decode cL_law 1096 = .ok (.iadd, 1)) ∧ (decode cL_law 1097 = .ok (.iaload, 1)) ∧ (decode cL_law 1098 = .ok (.invokevirtual 105, 3)) ∧ (decode cL_law 1101 = .ok (.pop, 1)) ∧ (decode cL_law 1102 = .ok (.goto 812, 3)) ∧ (decode cL_law 1105 = .ok (.aload_n 1, 1)) ∧ (decode cL_law 1106 = .ok (.aload_n 0, 1)) ∧ (decode cL_law 1107 = .ok (.iload_n 3, 1)) ∧ (decode cL_law 1108 = .ok (.iconst 1, 1)) ∧ (decode cL_law 1109 = .ok (.iadd, 1)) ∧ (decode cL_law 1110 = .ok (.iaload, 1)) ∧ (decode cL_law 1111 = .ok (.aload_n 0, 1)) ∧ (decode cL_law 1112 = .ok (.iload_n 3, 1)) ∧ (decode cL_law 1113 = .ok (.iconst 2, 1)) ∧ (decode cL_law 1114 = .ok (.iadd, 1)) ∧ (decode cL_law 1115 = .ok (.iaload, 1)) ∧ (decode cL_law 1116 = .ok (.aload_n 0, 1)) ∧ (decode cL_law 1117 = .ok (.iload_n 3, 1)) ∧ (decode cL_law 1118 = .ok (.iconst 3, 1)) ∧ (decode cL_law 1119 = .ok (.iadd, 1)) := by decide +kernel
theorem dL_law_1092 : decode cL_law 1092 = .ok (.iaload, 1) := dLg_32.1
theorem dL_law_1093 : decode cL_law 1093 = .ok (.aload_n 0, 1) := dLg_32.2.1
theorem dL_law_1094 : decode cL_law 1094 = .ok (.iload_n 3, 1) := dLg_32.2.2.1
theorem dL_law_1095 : decode cL_law 1095 = .ok (.iconst 4, 1) := dLg_32.2.2.2.1
theorem dL_law_1096 : decode cL_law 1096 = .ok (.iadd, 1) := dLg_32.2.2.2.2.1
theorem dL_law_1097 : decode cL_law 1097 = .ok (.iaload, 1) := dLg_32.2.2.2.2.2.1
theorem dL_law_1098 : decode cL_law 1098 = .ok (.invokevirtual 105, 3) := dLg_32.2.2.2.2.2.2.1
theorem dL_law_1101 : decode cL_law 1101 = .ok (.pop, 1) := dLg_32.2.2.2.2.2.2.2.1
theorem dL_law_1102 : decode cL_law 1102 = .ok (.goto 812, 3) := dLg_32.2.2.2.2.2.2.2.2.1
theorem dL_law_1105 : decode cL_law 1105 = .ok (.aload_n 1, 1) := dLg_32.2.2.2.2.2.2.2.2.2.1
theorem dL_law_1106 : decode cL_law 1106 = .ok (.aload_n 0, 1) := dLg_32.2.2.2.2.2.2.2.2.2.2.1
theorem dL_law_1107 : decode cL_law 1107 = .ok (.iload_n 3, 1) := dLg_32.2.2.2.2.2.2.2.2.2.2.2.1
theorem dL_law_1108 : decode cL_law 1108 = .ok (.iconst 1, 1) := dLg_32.2.2.2.2.2.2.2.2.2.2.2.2.1
theorem dL_law_1109 : decode cL_law 1109 = .ok (.iadd, 1) := dLg_32.2.2.2.2.2.2.2.2.2.2.2.2.2.1
theorem dL_law_1110 : decode cL_law 1110 = .ok (.iaload, 1) := dLg_32.2.2.2.2.2.2.2.2.2.2.2.2.2.2.1
theorem dL_law_1111 : decode cL_law 1111 = .ok (.aload_n 0, 1) := dLg_32.2.2.2.2.2.2.2.2.2.2.2.2.2.2.2.1
theorem dL_law_1112 : decode cL_law 1112 = .ok (.iload_n 3, 1) := dLg_32.2.2.2.2.2.2.2.2.2.2.2.2.2.2.2.2.1
theorem dL_law_1113 : decode cL_law 1113 = .ok (.iconst 2, 1) := dLg_32.2.2.2.2.2.2.2.2.2.2.2.2.2.2.2.2.2.1
theorem dL_law_1114 : decode cL_law 1114 = .ok (.iadd, 1) := dLg_32.2.2.2.2.2.2.2.2.2.2.2.2.2.2.2.2.2.2.1
theorem dL_law_1115 : decode cL_law 1115 = .ok (.iaload, 1) := dLg_32.2.2.2.2.2.2.2.2.2.2.2.2.2.2.2.2.2.2.2.1
theorem dL_law_1116 : decode cL_law 1116 = .ok (.aload_n 0, 1) := dLg_32.2.2.2.2.2.2.2.2.2.2.2.2.2.2.2.2.2.2.2.2.1
theorem dL_law_1117 : decode cL_law 1117 = .ok (.iload_n 3, 1) := dLg_32.2.2.2.2.2.2.2.2.2.2.2.2.2.2.2.2.2.2.2.2.2.1
theorem dL_law_1118 : decode cL_law 1118 = .ok (.iconst 3, 1) := dLg_32.2.2.2.2.2.2.2.2.2.2.2.2.2.2.2.2.2.2.2.2.2.2.1
theorem dL_law_1119 : decode cL_law 1119 = .ok (.iadd, 1) := dLg_32.2.2.2.2.2.2.2.2.2.2.2.2.2.2.2.2.2.2.2.2.2.2.2
theorem dLg_33 : (decode cL_law 1120 = .ok (.iaload, 1)) ∧ (decode cL_law 1121 = .ok (.aload_n 0, 1)) ∧ (decode cL_law 1122 = .ok (.iload_n 3, 1)) ∧ (decode cL_law 1123 = .ok (.iconst 4, 1)) ∧ (decode cL_law 1124 = .ok (.iadd, 1)) ∧ (decode cL_law 1125 = .ok (.iaload, 1)) ∧ (decode cL_law 1126 = .ok (.invokevirtual 106, 3)) ∧ (decode cL_law 1129 = .ok (.pop, 1)) ∧ (decode cL_law 1130 = .ok (.aload_n 2, 1)) ∧ (decode cL_law 1131 = .ok (.aload_n 0, 1)) ∧ (decode cL_law 1132 = .ok (.iload_n 3, 1)) ∧ (decode cL_law 1133 = .ok (.iconst 1, 1)) ∧ (decode cL_law 1134 = .ok (.iadd, 1)) ∧ (decode cL_law 1135 = .ok (.iaload, 1)) ∧ (decode cL_law 1136 = .ok (.aload_n 0, 1)) ∧ (decode cL_law 1137 = .ok (.iload_n 3, 1)) ∧ (decode cL_law 1138 = .ok (.iconst 2, 1)) ∧ (decode cL_law 1139 = .ok (.iadd, 1)) ∧ (decode cL_law 1140 = .ok (.iaload, 1)) ∧ (decode cL_law 1141 = .ok (.aload_n 0, 1)) ∧ (decode cL_law 1142 = .ok (.iload_n 3, 1)) ∧ (decode cL_law 1143 = .ok (.iconst 3, 1)) ∧ (decode cL_law 1144 = .ok (.iadd, 1)) ∧ (decode cL_law 1145 = .ok (.iaload, 1)) := by decide +kernel
theorem dL_law_1120 : decode cL_law 1120 = .ok (.iaload, 1) := dLg_33.1
theorem dL_law_1121 : decode cL_law 1121 = .ok (.aload_n 0, 1) := dLg_33.2.1
theorem dL_law_1122 : decode cL_law 1122 = .ok (.iload_n 3, 1) := dLg_33.2.2.1
theorem dL_law_1123 : decode cL_law 1123 = .ok (.iconst 4, 1) := dLg_33.2.2.2.1
theorem dL_law_1124 : decode cL_law 1124 = .ok (.iadd, 1) := dLg_33.2.2.2.2.1
theorem dL_law_1125 : decode cL_law 1125 = .ok (.iaload, 1) := dLg_33.2.2.2.2.2.1
theorem dL_law_1126 : decode cL_law 1126 = .ok (.invokevirtual 106, 3) := dLg_33.2.2.2.2.2.2.1
theorem dL_law_1129 : decode cL_law 1129 = .ok (.pop, 1) := dLg_33.2.2.2.2.2.2.2.1
theorem dL_law_1130 : decode cL_law 1130 = .ok (.aload_n 2, 1) := dLg_33.2.2.2.2.2.2.2.2.1
theorem dL_law_1131 : decode cL_law 1131 = .ok (.aload_n 0, 1) := dLg_33.2.2.2.2.2.2.2.2.2.1
theorem dL_law_1132 : decode cL_law 1132 = .ok (.iload_n 3, 1) := dLg_33.2.2.2.2.2.2.2.2.2.2.1
theorem dL_law_1133 : decode cL_law 1133 = .ok (.iconst 1, 1) := dLg_33.2.2.2.2.2.2.2.2.2.2.2.1
theorem dL_law_1134 : decode cL_law 1134 = .ok (.iadd, 1) := dLg_33.2.2.2.2.2.2.2.2.2.2.2.2.1
theorem dL_law_1135 : decode cL_law 1135 = .ok (.iaload, 1) := dLg_33.2.2.2.2.2.2.2.2.2.2.2.2.2.1
theorem dL_law_1136 : decode cL_law 1136 = .ok (.aload_n 0, 1) := dLg_33.2.2.2.2.2.2.2.2.2.2.2.2.2.2.1
theorem dL_law_1137 : decode cL_law 1137 = .ok (.iload_n 3, 1) := dLg_33.2.2.2.2.2.2.2.2.2.2.2.2.2.2.2.1
theorem dL_law_1138 : decode cL_law 1138 = .ok (.iconst 2, 1) := dLg_33.2.2.2.2.2.2.2.2.2.2.2.2.2.2.2.2.1
theorem dL_law_1139 : decode cL_law 1139 = .ok (.iadd, 1) := dLg_33.2.2.2.2.2.2.2.2.2.2.2.2.2.2.2.2.2.1
theorem dL_law_1140 : decode cL_law 1140 = .ok (.iaload, 1) := dLg_33.2.2.2.2.2.2.2.2.2.2.2.2.2.2.2.2.2.2.1
theorem dL_law_1141 : decode cL_law 1141 = .ok (.aload_n 0, 1) := dLg_33.2.2.2.2.2.2.2.2.2.2.2.2.2.2.2.2.2.2.2.1
theorem dL_law_1142 : decode cL_law 1142 = .ok (.iload_n 3, 1) := dLg_33.2.2.2.2.2.2.2.2.2.2.2.2.2.2.2.2.2.2.2.2.1
theorem dL_law_1143 : decode cL_law 1143 = .ok (.iconst 3, 1) := dLg_33.2.2.2.2.2.2.2.2.2.2.2.2.2.2.2.2.2.2.2.2.2.1
theorem dL_law_1144 : decode cL_law 1144 = .ok (.iadd, 1) := dLg_33.2.2.2.2.2.2.2.2.2.2.2.2.2.2.2.2.2.2.2.2.2.2.1
theorem dL_law_1145 : decode cL_law 1145 = .ok (.iaload, 1) := dLg_33.2.2.2.2.2.2.2.2.2.2.2.2.2.2.2.2.2.2.2.2.2.2.2
theorem dLg_34 : (decode cL_law 1146 = .ok (.aload_n 0, 1)) ∧ (decode cL_law 1147 = .ok (.iload_n 3, 1)) ∧ (decode cL_law 1148 = .ok (.iconst 4, 1)) ∧ (decode cL_law 1149 = .ok (.iadd, 1)) ∧ (decode cL_law 1150 = .ok (.iaload, 1)) ∧ (decode cL_law 1151 = .ok (.invokevirtual 109, 3)) ∧ (decode cL_law 1154 = .ok (.pop, 1)) ∧ (decode cL_law 1155 = .ok (.goto 759, 3)) ∧ (decode cL_law 1158 = .ok (.aload_n 1, 1)) ∧ (decode cL_law 1159 = .ok (.aload_n 0, 1)) ∧ (decode cL_law 1160 = .ok (.iload_n 3, 1)) ∧ (decode cL_law 1161 = .ok (.iconst 1, 1)) ∧ (decode cL_law 1162 = .ok (.iadd, 1)) ∧ (decode cL_law 1163 = .ok (.iaload, 1)) ∧ (decode cL_law 1164 = .ok (.aload_n 0, 1)) ∧ (decode cL_law 1165 = .ok (.iload_n 3, 1)) ∧ (decode cL_law 1166 = .ok (.iconst 2, 1)) ∧ (decode cL_law 1167 = .ok (.iadd, 1)) ∧ (decode cL_law 1168 = .ok (.iaload, 1)) ∧ (decode cL_law 1169 = .ok (.invokevirtual 110, 3)) ∧ (decode cL_law 1172 = .ok (.pop, 1)) ∧ (decode cL_law 1173 = .ok (.aload_n 2, 1)) ∧ (decode cL_law 1174 = .ok (.aload_n 0, 1)) ∧ (decode cL_law 1175 = .ok (.iload_n 3, 1)) := by decide +kernel
theorem dL_law_1146 : decode cL_law 1146 = .ok (.aload_n 0, 1) := dLg_34.1
theorem dL_law_1147 : decode cL_law 1147 = .ok (.iload_n 3, 1) := dLg_34.2.1
theorem dL_law_1148 : decode cL_law 1148 = .ok (.iconst 4, 1) := dLg_34.2.2.1
theorem dL_law_1149 : decode cL_law 1149 = .ok (.iadd, 1) := dLg_34.2.2.2.1
theorem dL_law_1150 : decode cL_law 1150 = .ok (.iaload, 1) := dLg_34.2.2.2.2.1
theorem dL_law_1151 : decode cL_law 1151 = .ok (.invokevirtual 109, 3) := dLg_34.2.2.2.2.2.1
theorem dL_law_1154 : decode cL_law 1154 = .ok (.pop, 1) := dLg_34.2.2.2.2.2.2.1
theorem dL_law_1155 : decode cL_law 1155 = .ok (.goto 759, 3) := dLg_34.2.2.2.2.2.2.2.1
theorem dL_law_1158 : decode cL_law 1158 = .ok (.aload_n 1, 1) := dLg_34.2.2.2.2.2.2.2.2.1
theorem dL_law_1159 : decode cL_law 1159 = .ok (.aload_n 0, 1) := dLg_34.2.2.2.2.2.2.2.2.2.1
theorem dL_law_1160 : decode cL_law 1160 = .ok (.iload_n 3, 1) := dLg_34.2.2.2.2.2.2.2.2.2.2.1
theorem dL_law_1161 : decode cL_law 1161 = .ok (.iconst 1, 1) := dLg_34.2.2.2.2.2.2.2.2.2.2.2.1
theorem dL_law_1162 : decode cL_law 1162 = .ok (.iadd, 1) := dLg_34.2.2.2.2.2.2.2.2.2.2.2.2.1
theorem dL_law_1163 : decode cL_law 1163 = .ok (.iaload, 1) := dLg_34.2.2.2.2.2.2.2.2.2.2.2.2.2.1
theorem dL_law_1164 : decode cL_law 1164 = .ok (.aload_n 0, 1) := dLg_34.2.2.2.2.2.2.2.2.2.2.2.2.2.2.1
theorem dL_law_1165 : decode cL_law 1165 = .ok (.iload_n 3, 1) := dLg_34.2.2.2.2.2.2.2.2.2.2.2.2.2.2.2.1
theorem dL_law_1166 : decode cL_law 1166 = .ok (.iconst 2, 1) := dLg_34.2.2.2.2.2.2.2.2.2.2.2.2.2.2.2.2.1
theorem dL_law_1167 : decode cL_law 1167 = .ok (.iadd, 1) := dLg_34.2.2.2.2.2.2.2.2.2.2.2.2.2.2.2.2.2.1
theorem dL_law_1168 : decode cL_law 1168 = .ok (.iaload, 1) := dLg_34.2.2.2.2.2.2.2.2.2.2.2.2.2.2.2.2.2.2.1
theorem dL_law_1169 : decode cL_law 1169 = .ok (.invokevirtual 110, 3) := dLg_34.2.2.2.2.2.2.2.2.2.2.2.2.2.2.2.2.2.2.2.1
theorem dL_law_1172 : decode cL_law 1172 = .ok (.pop, 1) := dLg_34.2.2.2.2.2.2.2.2.2.2.2.2.2.2.2.2.2.2.2.2.1
theorem dL_law_1173 : decode cL_law 1173 = .ok (.aload_n 2, 1) := dLg_34.2.2.2.2.2.2.2.2.2.2.2.2.2.2.2.2.2.2.2.2.2.1
theorem dL_law_1174 : decode cL_law 1174 = .ok (.aload_n 0, 1) := dLg_34.2.2.2.2.2.2.2.2.2.2.2.2.2.2.2.2.2.2.2.2.2.2.1
theorem dL_law_1175 : decode cL_law 1175 = .ok (.iload_n 3, 1) := dLg_34.2.2.2.2.2.2.2.2.2.2.2.2.2.2.2.2.2.2.2.2.2.2.2
theorem dLg_35 : (decode cL_law 1176 = .ok (.iconst 1, 1)) ∧ (decode cL_law 1177 = .ok (.iadd, 1)) ∧ (decode cL_law 1178 = .ok (.iaload, 1)) ∧ (decode cL_law 1179 = .ok (.aload_n 0, 1)) ∧ (decode cL_law 1180 = .ok (.iload_n 3, 1)) ∧ (decode cL_law 1181 = .ok (.iconst 2, 1)) ∧ (decode cL_law 1182 = .ok (.iadd, 1)) ∧ (decode cL_law 1183 = .ok (.iaload, 1)) ∧ (decode cL_law 1184 = .ok (.invokevirtual 113, 3)) ∧ (decode cL_law 1187 = .ok (.pop, 1)) ∧ (decode cL_law 1188 = .ok (.goto 726, 3)) ∧ (decode cL_law 1191 = .ok (.aload_n 1, 1)) ∧ (decode cL_law 1192 = .ok (.aload_n 0, 1)) ∧ (decode cL_law 1193 = .ok (.iload_n 3, 1)) ∧ (decode cL_law 1194 = .ok (.iconst 1, 1)) ∧ (decode cL_law 1195 = .ok (.iadd, 1)) ∧ (decode cL_law 1196 = .ok (.iaload, 1)) ∧ (decode cL_law 1197 = .ok (.aload_n 0, 1)) ∧ (decode cL_law 1198 = .ok (.iload_n 3, 1)) ∧ (decode cL_law 1199 = .ok (.iconst 2, 1)) ∧ (decode cL_law 1200 = .ok (.iadd, 1)) ∧ (decode cL_law 1201 = .ok (.iaload, 1)) ∧ (decode cL_law 1202 = .ok (.invokevirtual 114, 3)) ∧ (decode cL_law 1205 = .ok (.pop, 1)) := by decide +kernel
theorem dL_law_1176 : decode cL_law 1176 = .ok (.iconst 1, 1) := dLg_35.1
theorem dL_law_1177 : decode cL_law 1177 = .ok (.iadd, 1) := dLg_35.2.1
theorem dL_law_1178 : decode cL_law 1178 = .ok (.iaload, 1) := dLg_35.2.2.1
theorem dL_law_1179 : decode cL_law 1179 = .ok (.aload_n 0, 1) := dLg_35.2.2.2.1
theorem dL_law_1180 : decode cL_law 1180 = .ok (.iload_n 3, 1) := dLg_35.2.2.2.2.1
theorem dL_law_1181 : decode cL_law 1181 = .ok (.iconst 2, 1) := dLg_35.2.2.2.2.2.1
theorem dL_law_1182 : decode cL_law 1182 = .ok (.iadd, 1) := dLg_35.2.2.2.2.2.2.1
theorem dL_law_1183 : decode cL_law 1183 = .ok (.iaload, 1) := dLg_35.2.2.2.2.2.2.2.1
theorem dL_law_1184 : decode cL_law 1184 = .ok (.invokevirtual 113, 3) := dLg_35.2.2.2.2.2.2.2.2.1
theorem dL_law_1187 : decode cL_law 1187 = .ok (.pop, 1) := dLg_35.2.2.2.2.2.2.2.2.2.1
theorem dL_law_1188 : decode cL_law 1188 = .ok (.goto 726, 3) := dLg_35.2.2.2.2.2.2.2.2.2.2.1
theorem dL_law_1191 : decode cL_law 1191 = .ok (.aload_n 1, 1) := dLg_35.2.2.2.2.2.2.2.2.2.2.2.1
theorem dL_law_1192 : decode cL_law 1192 = .ok (.aload_n 0, 1) := dLg_35.2.2.2.2.2.2.2.2.2.2.2.2.1
theorem dL_law_1193 : decode cL_law 1193 = .ok (.iload_n 3, 1) := dLg_35.2.2.2.2.2.2.2.2.2.2.2.2.2.1
theorem dL_law_1194 : decode cL_law 1194 = .ok (.iconst 1, 1) := dLg_35.2.2.2.2.2.2.2.2.2.2.2.2.2.2.1
theorem dL_law_1195 : decode cL_law 1195 = .ok (.iadd, 1) := dLg_35.2.2.2.2.2.2.2.2.2.2.2.2.2.2.2.1
theorem dL_law_1196 : decode cL_law 1196 = .ok (.iaload, 1) := dLg_35.2.2.2.2.2.2.2.2.2.2.2.2.2.2.2.2.1
theorem dL_law_1197 : decode cL_law 1197 = .ok (.aload_n 0, 1) := dLg_35.2.2.2.2.2.2.2.2.2.2.2.2.2.2.2.2.2.1
theorem dL_law_1198 : decode cL_law 1198 = .ok (.iload_n 3, 1) := dLg_35.2.2.2.2.2.2.2.2.2.2.2.2.2.2.2.2.2.2.1
theorem dL_law_1199 : decode cL_law 1199 = .ok (.iconst 2, 1) := dLg_35.2.2.2.2.2.2.2.2.2.2.2.2.2.2.2.2.2.2.2.1
theorem dL_law_1200 : decode cL_law 1200 = .ok (.iadd, 1) := dLg_35.2.2.2.2.2.2.2.2.2.2.2.2.2.2.2.2.2.2.2.2.1
theorem dL_law_1201 : decode cL_law 1201 = .ok (.iaload, 1) := dLg_35.2.2.2.2.2.2.2.2.2.2.2.2.2.2.2.2.2.2.2.2.2.1
theorem dL_law_1202 : decode cL_law 1202 = .ok (.invokevirtual 114, 3) := dLg_35.2.2.2.2.2.2.2.2.2.2.2.2.2.2.2.2.2.2.2.2.2.2.1
theorem dL_law_1205 : decode cL_law 1205 = .ok (.pop, 1) := dLg_35.2.2.2.2.2.2.2.2.2.2.2.2.2.2.2.2.2.2.2.2.2.2.2
theorem dLg_36 : (decode cL_law 1206 = .ok (.aload_n 2, 1)) ∧ (decode cL_law 1207 = .ok (.aload_n 0, 1)) ∧ (decode cL_law 1208 = .ok (.iload_n 3, 1)) ∧ (decode cL_law 1209 = .ok (.iconst 1, 1)) ∧ (decode cL_law 1210 = .ok (.iadd, 1)) ∧ (decode cL_law 1211 = .ok (.iaload, 1)) ∧ (decode cL_law 1212 = .ok (.aload_n 0, 1)) ∧ (decode cL_law 1213 = .ok (.iload_n 3, 1)) ∧ (decode cL_law 1214 = .ok (.iconst 2, 1)) ∧ (decode cL_law 1215 = .ok (.iadd, 1)) ∧ (decode cL_law 1216 = .ok (.iaload, 1)) ∧ (decode cL_law 1217 = .ok (.invokevirtual 117, 3)) ∧ (decode cL_law 1220 = .ok (.pop, 1)) ∧ (decode cL_law 1221 = .ok (.goto 693, 3)) ∧ (decode cL_law 1224 = .ok (.aload_n 1, 1)) ∧ (decode cL_law 1225 = .ok (.aload_n 0, 1)) ∧ (decode cL_law 1226 = .ok (.iload_n 3, 1)) ∧ (decode cL_law 1227 = .ok (.iconst 1, 1)) ∧ (decode cL_law 1228 = .ok (.iadd, 1)) ∧ (decode cL_law 1229 = .ok (.iaload, 1)) ∧ (decode cL_law 1230 = .ok (.invokevirtual 118, 3)) ∧ (decode cL_law 1233 = .ok (.pop, 1)) ∧ (decode cL_law 1234 = .ok (.aload_n 2, 1)) ∧ (decode cL_law 1235 = .ok (.aload_n 0, 1)) := by decide +kernel
theorem dL_law_1206 : decode cL_law 1206 = .ok (.aload_n 2, 1) := dLg_36.1
theorem dL_law_1207 : decode cL_law 1207 = .ok (.aload_n 0, 1) := dLg_36.2.1
theorem dL_law_1208 : decode cL_law 1208 = .ok (.iload_n 3, 1) := dLg_36.2.2.1
theorem dL_law_1209 : decode cL_law 1209 = .ok (.iconst 1, 1) := dLg_36.2.2.2.1
theorem dL_law_1210 : decode cL_law 1210 = .ok (.iadd, 1) := dLg_36.2.2.2.2.1
theorem dL_law_1211 : decode cL_law 1211 = .ok (.iaload, 1) := dLg_36.2.2.2.2.2.1
theorem dL_law_1212 : decode cL_law 1212 = .ok (.aload_n 0, 1) := dLg_36.2.2.2.2.2.2.1
theorem dL_law_1213 : decode cL_law 1213 = .ok (.iload_n 3, 1) := dLg_36.2.2.2.2.2.2.2.1
theorem dL_law_1214 : decode cL_law 1214 = .ok (.iconst 2, 1) := dLg_36.2.2.2.2.2.2.2.2.1
theorem dL_law_1215 : decode cL_law 1215 = .ok (.iadd, 1) := dLg_36.2.2.2.2.2.2.2.2.2.1
theorem dL_law_1216 : decode cL_law 1216 = .ok (.iaload, 1) := dLg_36.2.2.2.2.2.2.2.2.2.2.1
theorem dL_law_1217 : decode cL_law 1217 = .ok (.invokevirtual 117, 3) := dLg_36.2.2.2.2.2.2.2.2.2.2.2.1
theorem dL_law_1220 : decode cL_law 1220 = .ok (.pop, 1) := dLg_36.2.2.2.2.2.2.2.2.2.2.2.2.1
theorem dL_law_1221 : decode cL_law 1221 = .ok (.goto 693, 3) := dLg_36.2.2.2.2.2.2.2.2.2.2.2.2.2.1
theorem dL_law_1224 : decode cL_law 1224 = .ok (.aload_n 1, 1) := dLg_36.2.2.2.2.2.2.2.2.2.2.2.2.2.2.1
theorem dL_law_1225 : decode cL_law 1225 = .ok (.aload_n 0, 1) := dLg_36.2.2.2.2.2.2.2.2.2.2.2.2.2.2.2.1
theorem dL_law_1226 : decode cL_law 1226 = .ok (.iload_n 3, 1) := dLg_36.2.2.2.2.2.2.2.2.2.2.2.2.2.2.2.2.1
theorem dL_law_1227 : decode cL_law 1227 = .ok (.iconst 1, 1) := dLg_36.2.2.2.2.2.2.2.2.2.2.2.2.2.2.2.2.2.1
theorem dL_law_1228 : decode cL_law 1228 = .ok (.iadd, 1) := dLg_36.2.2.2.2.2.2.2.2.2.2.2.2.2.2.2.2.2.2.1
theorem dL_law_1229 : decode cL_law 1229 = .ok (.iaload, 1) := dLg_36.2.2.2.2.2.2.2.2.2.2.2.2.2.2.2.2.2.2.2.1
theorem dL_law_1230 : decode cL_law 1230 = .ok (.invokevirtual 118, 3) := dLg_36.2.2.2.2.2.2.2.2.2.2.2.2.2.2.2.2.2.2.2.2.1
theorem dL_law_1233 : decode cL_law 1233 = .ok (.pop, 1) := dLg_36.2.2.2.2.2.2.2.2.2.2.2.2.2.2.2.2.2.2.2.2.2.1
theorem dL_law_1234 : decode cL_law 1234 = .ok (.aload_n 2, 1) := dLg_36.2.2.2.2.2.2.2.2.2.2.2.2.2.2.2.2.2.2.2.2.2.2.1
theorem dL_law_1235 : decode cL_law 1235 = .ok (.aload_n 0, 1) := dLg_36.2.2.2.2.2.2.2.2.2.2.2.2.2.2.2.2.2.2.2.2.2.2.2
theorem dLg_37 : (decode cL_law 1236 = .ok (.iload_n 3, 1)) ∧ (decode cL_law 1237 = .ok (.iconst 1, 1)) ∧ (decode cL_law 1238 = .ok (.iadd, 1)) ∧ (decode cL_law 1239 = .ok (.iaload, 1)) ∧ (decode cL_law 1240 = .ok (.invokevirtual 121, 3)) ∧ (decode cL_law 1243 = .ok (.pop, 1)) ∧ (decode cL_law 1244 = .ok (.goto 670, 3)) ∧ (decode cL_law 1247 = .ok (.aload_n 1, 1)) ∧ (decode cL_law 1248 = .ok (.aload_n 0, 1)) ∧ (decode cL_law 1249 = .ok (.iload_n 3, 1)) ∧ (decode cL_law 1250 = .ok (.iconst 1, 1)) ∧ (decode cL_law 1251 = .ok (.iadd, 1)) ∧ (decode cL_law 1252 = .ok (.iaload, 1)) ∧ (decode cL_law 1253 = .ok (.aload_n 0, 1)) ∧ (decode cL_law 1254 = .ok (.iload_n 3, 1)) ∧ (decode cL_law 1255 = .ok (.iconst 2, 1)) ∧ (decode cL_law 1256 = .ok (.iadd, 1)) ∧ (decode cL_law 1257 = .ok (.iaload, 1)) ∧ (decode cL_law 1258 = .ok (.aload_n 0, 1)) ∧ (decode cL_law 1259 = .ok (.iload_n 3, 1)) ∧ (decode cL_law 1260 = .ok (.iconst 3, 1)) ∧ (decode cL_law 1261 = .ok (.iadd, 1)) ∧ (decode cL_law 1262 = .ok (.iaload, 1)) ∧ (decode cL_law 1263 = .ok (.aload_n 0, 1)) := by decide +kernel
theorem dL_law_1236 : decode cL_law 1236 = .ok (.iload_n 3, 1) := dLg_37.1
theorem dL_law_1237 : decode cL_law 1237 = .ok (.iconst 1, 1) := dLg_37.2.1
theorem dL_law_1238 : decode cL_law 1238 = .ok (.iadd, 1) := dLg_37.2.2.1
theorem dL_law_1239 : decode cL_law 1239 = .ok (.iaload, 1) := dLg_37.2.2.2.1
theorem dL_law_1240 : decode cL_law 1240 = .ok (.invokevirtual 121, 3) := dLg_37.2.2.2.2.1
theorem dL_law_1243 : decode cL_law 1243 = .ok (.pop, 1) := dLg_37.2.2.2.2.2.1
theorem dL_law_1244 : decode cL_law 1244 = .ok (.goto 670, 3) := dLg_37.2.2.2.2.2.2.1
theorem dL_law_1247 : decode cL_law 1247 = .ok (.aload_n 1, 1) := dLg_37.2.2.2.2.2.2.2.1
theorem dL_law_1248 : decode cL_law 1248 = .ok (.aload_n 0, 1) := dLg_37.2.2.2.2.2.2.2.2.1
theorem dL_law_1249 : decode cL_law 1249 = .ok (.iload_n 3, 1) := dLg_37.2.2.2.2.2.2.2.2.2.1
theorem dL_law_1250 : decode cL_law 1250 = .ok (.iconst 1, 1) := dLg_37.2.2.2.2.2.2.2.2.2.2.1
theorem dL_law_1251 : decode cL_law 1251 = .ok (.iadd, 1) := dLg_37.2.2.2.2.2.2.2.2.2.2.2.1
theorem dL_law_1252 : decode cL_law 1252 = .ok (.iaload, 1) := dLg_37.2.2.2.2.2.2.2.2.2.2.2.2.1
theorem dL_law_1253 : decode cL_law 1253 = .ok (.aload_n 0, 1) := dLg_37.2.2.2.2.2.2.2.2.2.2.2.2.2.1
theorem dL_law_1254 : decode cL_law 1254 = .ok (.iload_n 3, 1) := dLg_37.2.2.2.2.2.2.2.2.2.2.2.2.2.2.1
theorem dL_law_1255 : decode cL_law 1255 = .ok (.iconst 2, 1) := dLg_37.2.2.2.2.2.2.2.2.2.2.2.2.2.2.2.1
theorem dL_law_1256 : decode cL_law 1256 = .ok (.iadd, 1) := dLg_37.2.2.2.2.2.2.2.2.2.2.2.2.2.2.2.2.1
theorem dL_law_1257 : decode cL_law 1257 = .ok (.iaload, 1) := dLg_37.2.2.2.2.2.2.2.2.2.2.2.2.2.2.2.2.2.1
theorem dL_law_1258 : decode cL_law 1258 = .ok (.aload_n 0, 1) := dLg_37.2.2.2.2.2.2.2.2.2.2.2.2.2.2.2.2.2.2.1
theorem dL_law_1259 : decode cL_law 1259 = .ok (.iload_n 3, 1) := dLg_37.2.2.2.2.2.2.2.2.2.2.2.2.2.2.2.2.2.2.2.1
theorem dL_law_1260 : decode cL_law 1260 = .ok (.iconst 3, 1) := dLg_37.2.2.2.2.2.2.2.2.2.2.2.2.2.2.2.2.2.2.2.2.1
theorem dL_law_1261 : decode cL_law 1261 = .ok (.iadd, 1) := dLg_37.2.2.2.2.2.2.2.2.2.2.2.2.2.2.2.2.2.2.2.2.2.1
theorem dL_law_1262 : decode cL_law 1262 = .ok (.iaload, 1) := dLg_37.2.2.2.2.2.2.2.2.2.2.2.2.2.2.2.2.2.2.2.2.2.2.1
theorem dL_law_1263 : decode cL_law 1263 = .ok (.aload_n 0, 1) := dLg_37.2.2.2.2.2.2.2.2.2.2.2.2.2.2.2.2.2.2.2.2.2.2.2
theorem dLg_38 : (decode cL_law 1264 = .ok (.iload_n 3, 1)) ∧ (decode cL_law 1265 = .ok (.iconst 4, 1)) ∧ (decode cL_law 1266 = .ok (.iadd, 1)) ∧ (decode cL_law 1267 = .ok (.iaload, 1)) ∧ (decode cL_law 1268 = .ok (.invokevirtual 122, 3)) ∧ (decode cL_law 1271 = .ok (.pop, 1)) ∧ (decode cL_law 1272 = .ok (.aload_n 2, 1)) ∧ (decode cL_law 1273 = .ok (.aload_n 0, 1)) ∧ (decode cL_law 1274 = .ok (.iload_n 3, 1)) ∧ (decode cL_law 1275 = .ok (.iconst 1, 1)) ∧ (decode cL_law 1276 = .ok (.iadd, 1)) ∧ (decode cL_law 1277 = .ok (.iaload, 1)) ∧ (decode cL_law 1278 = .ok (.aload_n 0, 1)) ∧ (decode cL_law 1279 = .ok (.iload_n 3, 1)) ∧ (decode cL_law 1280 = .ok (.iconst 2, 1)) ∧ (decode cL_law 1281 = .ok (.iadd, 1)) ∧ (decode cL_law 1282 = .ok (.iaload, 1)) ∧ (decode cL_law 1283 = .ok (.aload_n 0, 1)) ∧ (decode cL_law 1284 = .ok (.iload_n 3, 1)) ∧ (decode cL_law 1285 = .ok (.iconst 3, 1)) ∧ (decode cL_law 1286 = .ok (.iadd, 1)) ∧ (decode cL_law 1287 = .ok (.iaload, 1)) ∧ (decode cL_law 1288 = .ok (.aload_n 0, 1)) ∧ (decode cL_law 1289 = .ok (.iload_n 3, 1)) := by decide +kernel
theorem dL_law_1264 : decode cL_law 1264 = .ok (.iload_n 3, 1) := dLg_38.1
theorem dL_law_1265 : decode cL_law 1265 = .ok (.iconst 4, 1) := dLg_38.2.1
theorem dL_law_1266 : decode cL_law 1266 = .ok (.iadd, 1) := dLg_38.2.2.1
theorem dL_law_1267 : decode cL_law 1267 = .ok (.iaload, 1) := dLg_38.2.2.2.1
theorem dL_law_1268 : decode cL_law 1268 = .ok (.invokevirtual 122, 3) := dLg_38.2.2.2.2.1
theorem dL_law_1271 : decode cL_law 1271 = .ok (.pop, 1) := dLg_38.2.2.2.2.2.1
theorem dL_law_1272 : decode cL_law 1272 = .ok (.aload_n 2, 1) := dLg_38.2.2.2.2.2.2.1
theorem dL_law_1273 : decode cL_law 1273 = .ok (.aload_n 0, 1) := dLg_38.2.2.2.2.2.2.2.1
theorem dL_law_1274 : decode cL_law 1274 = .ok (.iload_n 3, 1) := dLg_38.2.2.2.2.2.2.2.2.1
theorem dL_law_1275 : decode cL_law 1275 = .ok (.iconst 1, 1) := dLg_38.2.2.2.2.2.2.2.2.2.1
theorem dL_law_1276 : decode cL_law 1276 = .ok (.iadd, 1) := dLg_38.2.2.2.2.2.2.2.2.2.2.1
theorem dL_law_1277 : decode cL_law 1277 = .ok (.iaload, 1) := dLg_38.2.2.2.2.2.2.2.2.2.2.2.1
theorem dL_law_1278 : decode cL_law 1278 = .ok (.aload_n 0, 1) := dLg_38.2.2.2.2.2.2.2.2.2.2.2.2.1
theorem dL_law_1279 : decode cL_law 1279 = .ok (.iload_n 3, 1) := dLg_38.2.2.2.2.2.2.2.2.2.2.2.2.2.1
theorem dL_law_1280 : decode cL_law 1280 = .ok (.iconst 2, 1) := dLg_38.2.2.2.2.2.2.2.2.2.2.2.2.2.2.1
theorem dL_law_1281 : decode cL_law 1281 = .ok (.iadd, 1) := dLg_38.2.2.2.2.2.2.2.2.2.2.2.2.2.2.2.1
theorem dL_law_1282 : decode cL_law 1282 = .ok (.iaload, 1) := dLg_38.2.2.2.2.2.2.2.2.2.2.2.2.2.2.2.2.1
theorem dL_law_1283 : decode cL_law 1283 = .ok (.aload_n 0, 1) := dLg_38.2.2.2.2.2.2.2.2.2.2.2.2.2.2.2.2.2.1
theorem dL_law_1284 : decode cL_law 1284 = .ok (.iload_n 3, 1) := dLg_38.2.2.2.2.2.2.2.2.2.2.2.2.2.2.2.2.2.2.1
theorem dL_law_1285 : decode cL_law 1285 = .ok (.iconst 3, 1) := dLg_38.2.2.2.2.2.2.2.2.2.2.2.2.2.2.2.2.2.2.2.1
theorem dL_law_1286 : decode cL_law 1286 = .ok (.iadd, 1) := dLg_38.2.2.2.2.2.2.2.2.2.2.2.2.2.2.2.2.2.2.2.2.1
theorem dL_law_1287 : decode cL_law 1287 = .ok (.iaload, 1) := dLg_38.2.2.2.2.2.2.2.2.2.2.2.2.2.2.2.2.2.2.2.2.2.1
theorem dL_law_1288 : decode cL_law 1288 = .ok (.aload_n 0, 1) := dLg_38.2.2.2.2.2.2.2.2.2.2.2.2.2.2.2.2.2.2.2.2.2.2.1
theorem dL_law_1289 : decode cL_law 1289 = .ok (.iload_n 3, 1) := dLg_38.2.2.2.2.2.2.2.2.2.2.2.2.2.2.2.2.2.2.2.2.2.2.2
theorem dLg_39 : (decode cL_law 1290 = .ok (.iconst 4, 1)) ∧ (decode cL_law 1291 = .ok (.iadd, 1)) ∧ (decode cL_law 1292 = .ok (.iaload, 1)) ∧ (decode cL_law 1293 = .ok (.invokevirtual 125, 3)) ∧ (decode cL_law 1296 = .ok (.pop, 1)) ∧ (decode cL_law 1297 = .ok (.goto 617, 3)) ∧ (decode cL_law 1300 = .ok (.aload_n 1, 1)) ∧ (decode cL_law 1301 = .ok (.aload_n 0, 1)) ∧ (decode cL_law 1302 = .ok (.iload_n 3, 1)) ∧ (decode cL_law 1303 = .ok (.iconst 1, 1)) ∧ (decode cL_law 1304 = .ok (.iadd, 1)) ∧ (decode cL_law 1305 = .ok (.iaload, 1)) ∧ (decode cL_law 1306 = .ok (.aload_n 0, 1)) ∧ (decode cL_law 1307 = .ok (.iload_n 3, 1)) ∧ (decode cL_law 1308 = .ok (.iconst 2, 1)) ∧ (decode cL_law 1309 = .ok (.iadd, 1)) ∧ (decode cL_law 1310 = .ok (.iaload, 1)) ∧ (decode cL_law 1311 = .ok (.invokevirtual 126, 3)) ∧ (decode cL_law 1314 = .ok (.pop, 1)) ∧ (decode cL_law 1315 = .ok (.aload_n 2, 1)) ∧ (decode cL_law 1316 = .ok (.aload_n 0, 1)) ∧ (decode cL_law 1317 = .ok (.iload_n 3, 1)) ∧ (decode cL_law 1318 = .ok (.iconst 1, 1)) ∧ (decode cL_law 1319 = .ok (.iadd, 1)) := by decide +kernel
theorem dL_law_1290 : decode cL_law 1290 = .ok (.iconst 4, 1) := dLg_39.1
theorem dL_law_1291 : decode cL_law 1291 = .ok (.iadd, 1) := dLg_39.2.1
theorem dL_law_1292 : decode cL_law 1292 = .ok (.iaload, 1) := dLg_39.2.2.1
theorem dL_law_1293 : decode cL_law 1293 = .ok (.invokevirtual 125, 3) := dLg_39.2.2.2.1
theorem dL_law_1296 : decode cL_law 1296 = .ok (.pop, 1) := dLg_39.2.2.2.2.1
theorem dL_law_1297 : decode cL_law 1297 = .ok (.goto 617, 3) := dLg_39.2.2.2.2.2.1
theorem dL_law_1300 : decode cL_law 1300 = .ok (.aload_n 1, 1) := dLg_39.2.2.2.2.2.2.1
theorem dL_law_1301 : decode cL_law 1301 = .ok (.aload_n 0, 1) := dLg_39.2.2.2.2.2.2.2.1
theorem dL_law_1302 : decode cL_law 1302 = .ok (.iload_n 3, 1) := dLg_39.2.2.2.2.2.2.2.2.1
theorem dL_law_1303 : decode cL_law 1303 = .ok (.iconst 1, 1) := dLg_39.2.2.2.2.2.2.2.2.2.1
theorem dL_law_1304 : decode cL_law 1304 = .ok (.iadd, 1) := dLg_39.2.2.2.2.2.2.2.2.2.2.1
theorem dL_law_1305 : decode cL_law 1305 = .ok (.iaload, 1) := dLg_39.2.2.2.2.2.2.2.2.2.2.2.1
theorem dL_law_1306 : decode cL_law 1306 = .ok (.aload_n 0, 1) := dLg_39.2.2.2.2.2.2.2.2.2.2.2.2.1
theorem dL_law_1307 : decode cL_law 1307 = .ok (.iload_n 3, 1) := dLg_39.2.2.2.2.2.2.2.2.2.2.2.2.2.1
theorem dL_law_1308 : decode cL_law 1308 = .ok (.iconst 2, 1) := dLg_39.2.2.2.2.2.2.2.2.2.2.2.2.2.2.1
theorem dL_law_1309 : decode cL_law 1309 = .ok (.iadd, 1) := dLg_39.2.2.2.2.2.2.2.2.2.2.2.2.2.2.2.1
theorem dL_law_1310 : decode cL_law 1310 = .ok (.iaload, 1) := dLg_39.2.2.2.2.2.2.2.2.2.2.2.2.2.2.2.2.1
theorem dL_law_1311 : decode cL_law 1311 = .ok (.invokevirtual 126, 3) := dLg_39.2.2.2.2.2.2.2.2.2.2.2.2.2.2.2.2.2.1
theorem dL_law_1314 : decode cL_law 1314 = .ok (.pop, 1) := dLg_39.2.2.2.2.2.2.2.2.2.2.2.2.2.2.2.2.2.2.1
theorem dL_law_1315 : decode cL_law 1315 = .ok (.aload_n 2, 1) := dLg_39.2.2.2.2.2.2.2.2.2.2.2.2.2.2.2.2.2.2.2.1
theorem dL_law_1316 : decode cL_law 1316 = .ok (.aload_n 0, 1) := dLg_39.2.2.2.2.2.2.2.2.2.2.2.2.2.2.2.2.2.2.2.2.1
theorem dL_law_1317 : decode cL_law 1317 = .ok (.iload_n 3, 1) := dLg_39.2.2.2.2.2.2.2.2.2.2.2.2.2.2.2.2.2.2.2.2.2.1
theorem dL_law_1318 : decode cL_law 1318 = .ok (.iconst 1, 1) := dLg_39.2.2.2.2.2.2.2.2.2.2.2.2.2.2.2.2.2.2.2.2.2.2.1
theorem dL_law_1319 : decode cL_law 1319 = .ok (.iadd, 1) := dLg_39.2.2.2.2.2.2.2.2.2.2.2.2.2.2.2.2.2.2.2.2.2.2.2
theorem dLg_40 : (decode cL_law 1320 = .ok (.iaload, 1)) ∧ (decode cL_law 1321 = .ok (.aload_n 0, 1)) ∧ (decode cL_law 1322 = .ok (.iload_n 3, 1)) ∧ (decode cL_law 1323 = .ok (.iconst 2, 1)) ∧ (decode cL_law 1324 = .ok (.iadd, 1)) ∧ (decode cL_law 1325 = .ok (.iaload, 1)) ∧ (decode cL_law 1326 = .ok (.invokevirtual 129, 3)) ∧ (decode cL_law 1329 = .ok (.pop, 1)) ∧ (decode cL_law 1330 = .ok (.goto 584, 3)) ∧ (decode cL_law 1333 = .ok (.aload_n 1, 1)) ∧ (decode cL_law 1334 = .ok (.aload_n 0, 1)) ∧ (decode cL_law 1335 = .ok (.iload_n 3, 1)) ∧ (decode cL_law 1336 = .ok (.iconst 1, 1)) ∧ (decode cL_law 1337 = .ok (.iadd, 1)) ∧ (decode cL_law 1338 = .ok (.iaload, 1)) ∧ (decode cL_law 1339 = .ok (.aload_n 0, 1)) ∧ (decode cL_law 1340 = .ok (.iload_n 3, 1)) ∧ (decode cL_law 1341 = .ok (.iconst 2, 1)) ∧ (decode cL_law 1342 = .ok (.iadd, 1)) ∧ (decode cL_law 1343 = .ok (.iaload, 1)) ∧ (decode cL_law 1344 = .ok (.aload_n 0, 1)) ∧ (decode cL_law 1345 = .ok (.iload_n 3, 1)) ∧ (decode cL_law 1346 = .ok (.iconst 3, 1)) ∧ (decode cL_law 1347 = .ok (.iadd, 1)) := by decide +kernel
theorem dL_law_1320 : decode cL_law 1320 = .ok (.iaload, 1) := dLg_40.1
theorem dL_law_1321 : decode cL_law 1321 = .ok (.aload_n 0, 1) := dLg_40.2.1
theorem dL_law_1322 : decode cL_law 1322 = .ok (.iload_n 3, 1) := dLg_40.2.2.1
theorem dL_law_1323 : decode cL_law 1323 = .ok (.iconst 2, 1) := dLg_40.2.2.2.1
theorem dL_law_1324 : decode cL_law 1324 = .ok (.iadd, 1) := dLg_40.2.2.2.2.1
theorem dL_law_1325 : decode cL_law 1325 = .ok (.iaload, 1) := dLg_40.2.2.2.2.2.1
theorem dL_law_1326 : decode cL_law 1326 = .ok (.invokevirtual 129, 3) := dLg_40.2.2.2.2.2.2.1
theorem dL_law_1329 : decode cL_law 1329 = .ok (.pop, 1) := dLg_40.2.2.2.2.2.2.2.1
theorem dL_law_1330 : decode cL_law 1330 = .ok (.goto 584, 3) := dLg_40.2.2.2.2.2.2.2.2.1
theorem dL_law_1333 : decode cL_law 1333 = .ok (.aload_n 1, 1) := dLg_40.2.2.2.2.2.2.2.2.2.1
theorem dL_law_1334 : decode cL_law 1334 = .ok (.aload_n 0, 1) := dLg_40.2.2.2.2.2.2.2.2.2.2.1
theorem dL_law_1335 : decode cL_law 1335 = .ok (.iload_n 3, 1) := dLg_40.2.2.2.2.2.2.2.2.2.2.2.1
theorem dL_law_1336 : decode cL_law 1336 = .ok (.iconst 1, 1) := dLg_40.2.2.2.2.2.2.2.2.2.2.2.2.1
theorem dL_law_1337 : decode cL_law 1337 = .ok (.iadd, 1) := dLg_40.2.2.2.2.2.2.2.2.2.2.2.2.2.1
theorem dL_law_1338 : decode cL_law 1338 = .ok (.iaload, 1) := dLg_40.2.2.2.2.2.2.2.2.2.2.2.2.2.2.1
theorem dL_law_1339 : decode cL_law 1339 = .ok (.aload_n 0, 1) := dLg_40.2.2.2.2.2.2.2.2.2.2.2.2.2.2.2.1
theorem dL_law_1340 : decode cL_law 1340 = .ok (.iload_n 3, 1) := dLg_40.2.2.2.2.2.2.2.2.2.2.2.2.2.2.2.2.1
theorem dL_law_1341 : decode cL_law 1341 = .ok (.iconst 2, 1) := dLg_40.2.2.2.2.2.2.2.2.2.2.2.2.2.2.2.2.2.1
theorem dL_law_1342 : decode cL_law 1342 = .ok (.iadd, 1) := dLg_40.2.2.2.2.2.2.2.2.2.2.2.2.2.2.2.2.2.2.1
theorem dL_law_1343 : decode cL_law 1343 = .ok (.iaload, 1) := dLg_40.2.2.2.2.2.2.2.2.2.2.2.2.2.2.2.2.2.2.2.1
theorem dL_law_1344 : decode cL_law 1344 = .ok (.aload_n 0, 1) := dLg_40.2.2.2.2.2.2.2.2.2.2.2.2.2.2.2.2.2.2.2.2.1
theorem dL_law_1345 : decode cL_law 1345 = .ok (.iload_n 3, 1) := dLg_40.2.2.2.2.2.2.2.2.2.2.2.2.2.2.2.2.2.2.2.2.2.1
theorem dL_law_1346 : decode cL_law 1346 = .ok (.iconst 3, 1) := dLg_40.2.2.2.2.2.2.2.2.2.2.2.2.2.2.2.2.2.2.2.2.2.2.1
theorem dL_law_1347 : decode cL_law 1347 = .ok (.iadd, 1) := dLg_40.2.2.2.2.2.2.2.2.2.2.2.2.2.2.2.2.2.2.2.2.2.2.2
theorem dLg_41 : (decode cL_law 1348 = .ok (.iaload, 1)) ∧ (decode cL_law 1349 = .ok (.invokevirtual 130, 3)) ∧ (decode cL_law 1352 = .ok (.pop, 1)) ∧ (decode cL_law 1353 = .ok (.aload_n 2, 1)) ∧ (decode cL_law 1354 = .ok (.aload_n 0, 1)) ∧ (decode cL_law 1355 = .ok (.iload_n 3, 1)) ∧ (decode cL_law 1356 = .ok (.iconst 1, 1)) ∧ (decode cL_law 1357 = .ok (.iadd, 1)) ∧ (decode cL_law 1358 = .ok (.iaload, 1)) ∧ (decode cL_law 1359 = .ok (.aload_n 0, 1)) ∧ (decode cL_law 1360 = .ok (.iload_n 3, 1)) ∧ (decode cL_law 1361 = .ok (.iconst 2, 1)) ∧ (decode cL_law 1362 = .ok (.iadd, 1)) ∧ (decode cL_law 1363 = .ok (.iaload, 1)) ∧ (decode cL_law 1364 = .ok (.aload_n 0, 1)) ∧ (decode cL_law 1365 = .ok (.iload_n 3, 1)) ∧ (decode cL_law 1366 = .ok (.iconst 3, 1)) ∧ (decode cL_law 1367 = .ok (.iadd, 1)) ∧ (decode cL_law 1368 = .ok (.iaload, 1)) ∧ (decode cL_law 1369 = .ok (.invokevirtual 133, 3)) ∧ (decode cL_law 1372 = .ok (.pop, 1)) ∧ (decode cL_law 1373 = .ok (.goto 541, 3)) ∧ (decode cL_law 1376 = .ok (.aload_n 1, 1)) ∧ (decode cL_law 1377 = .ok (.aload_n 0, 1)) := by decide +kernel
theorem dL_law_1348 : decode cL_law 1348 = .ok (.iaload, 1) := dLg_41.1
theorem dL_law_1349 : decode cL_law 1349 = .ok (.invokevirtual 130, 3) := dLg_41.2.1
theorem dL_law_1352 : decode cL_law 1352 = .ok (.pop, 1) := dLg_41.2.2.1
theorem dL_law_1353 : decode cL_law 1353 = .ok (.aload_n 2, 1) := dLg_41.2.2.2.1
theorem dL_law_1354 : decode cL_law 1354 = .ok (.aload_n 0, 1) := dLg_41.2.2.2.2.1
theorem dL_law_1355 : decode cL_law 1355 = .ok (.iload_n 3, 1) := dLg_41.2.2.2.2.2.1
theorem dL_law_1356 : decode cL_law 1356 = .ok (.iconst 1, 1) := dLg_41.2.2.2.2.2.2.1
theorem dL_law_1357 : decode cL_law 1357 = .ok (.iadd, 1) := dLg_41.2.2.2.2.2.2.2.1
theorem dL_law_1358 : decode cL_law 1358 = .ok (.iaload, 1) := dLg_41.2.2.2.2.2.2.2.2.1
theorem dL_law_1359 : decode cL_law 1359 = .ok (.aload_n 0, 1) := dLg_41.2.2.2.2.2.2.2.2.2.1
theorem dL_law_1360 : decode cL_law 1360 = .ok (.iload_n 3, 1) := dLg_41.2.2.2.2.2.2.2.2.2.2.1
theorem dL_law_1361 : decode cL_law 1361 = .ok (.iconst 2, 1) := dLg_41.2.2.2.2.2.2.2.2.2.2.2.1
theorem dL_law_1362 : decode cL_law 1362 = .ok (.iadd, 1) := dLg_41.2.2.2.2.2.2.2.2.2.2.2.2.1
theorem dL_law_1363 : decode cL_law 1363 = .ok (.iaload, 1) := dLg_41.2.2.2.2.2.2.2.2.2.2.2.2.2.1
theorem dL_law_1364 : decode cL_law 1364 = .ok (.aload_n 0, 1) := dLg_41.2.2.2.2.2.2.2.2.2.2.2.2.2.2.1
theorem dL_law_1365 : decode cL_law 1365 = .ok (.iload_n 3, 1) := dLg_41.2.2.2.2.2.2.2.2.2.2.2.2.2.2.2.1
theorem dL_law_1366 : decode cL_law 1366 = .ok (.iconst 3, 1) := dLg_41.2.2.2.2.2.2.2.2.2.2.2.2.2.2.2.2.1
theorem dL_law_1367 : decode cL_law 1367 = .ok (.iadd, 1) := dLg_41.2.2.2.2.2.2.2.2.2.2.2.2.2.2.2.2.2.1
theorem dL_law_1368 : decode cL_law 1368 = .ok (.iaload, 1) := dLg_41.2.2.2.2.2.2.2.2.2.2.2.2.2.2.2.2.2.2.1
theorem dL_law_1369 : decode cL_law 1369 = .ok (.invokevirtual 133, 3) := dLg_41.2.2.2.2.2.2.2.2.2.2.2.2.2.2.2.2.2.2.2.1
theorem dL_law_1372 : decode cL_law 1372 = .ok (.pop, 1) := dLg_41.2.2.2.2.2.2.2.2.2.2.2.2.2.2.2.2.2.2.2.2.1
theorem dL_law_1373 : decode cL_law 1373 = .ok (.goto 541, 3) := dLg_41.2.2.2.2.2.2.2.2.2.2.2.2.2.2.2.2.2.2.2.2.2.1
theorem dL_law_1376 : decode cL_law 1376 = .ok (.aload_n 1, 1) := dLg_41.2.2.2.2.2.2.2.2.2.2.2.2.2.2.2.2.2.2.2.2.2.2.1
theorem dL_law_1377 : decode cL_law 1377 = .ok (.aload_n 0, 1) := dLg_41.2.2.2.2.2.2.2.2.2.2.2.2.2.2.2.2.2.2.2.2.2.2.2
theorem dLg_42 : (decode cL_law 1378 = .ok (.iload_n 3, 1)) ∧ (decode cL_law 1379 = .ok (.iconst 1, 1)) ∧ (decode cL_law 1380 = .ok (.iadd, 1)) ∧ (decode cL_law 1381 = .ok (.iaload, 1)) ∧ (decode cL_law 1382 = .ok (.aload_n 0, 1)) ∧ (decode cL_law 1383 = .ok (.iload_n 3, 1)) ∧ (decode cL_law 1384 = .ok (.iconst 2, 1)) ∧ (decode cL_law 1385 = .ok (.iadd, 1)) ∧ (decode cL_law 1386 = .ok (.iaload, 1)) ∧ (decode cL_law 1387 = .ok (.aload_n 0, 1)) ∧ (decode cL_law 1388 = .ok (.iload_n 3, 1)) ∧ (decode cL_law 1389 = .ok (.iconst 3, 1)) ∧ (decode cL_law 1390 = .ok (.iadd, 1)) ∧ (decode cL_law 1391 = .ok (.iaload, 1)) ∧ (decode cL_law 1392 = .ok (.invokevirtual 134, 3)) ∧ (decode cL_law 1395 = .ok (.pop, 1)) ∧ (decode cL_law 1396 = .ok (.aload_n 2, 1)) ∧ (decode cL_law 1397 = .ok (.aload_n 0, 1)) ∧ (decode cL_law 1398 = .ok (.iload_n 3, 1)) ∧ (decode cL_law 1399 = .ok (.iconst 1, 1)) ∧ (decode cL_law 1400 = .ok (.iadd, 1)) ∧ (decode cL_law 1401 = .ok (.iaload, 1)) ∧ (decode cL_law 1402 = .ok (.aload_n 0, 1)) ∧ (decode cL_law 1403 = .ok (.iload_n 3, 1)) := by decide +kernel
theorem dL_law_1378 : decode cL_law 1378 = .ok (.iload_n 3, 1) := dLg_42.1
theorem dL_law_1379 : decode cL_law 1379 = .ok (.iconst 1, 1) := dLg_42.2.1
theorem dL_law_1380 : decode cL_law 1380 = .ok (.iadd, 1) := dLg_42.2.2.1
theorem dL_law_1381 : decode cL_law 1381 = .ok (.iaload, 1) := dLg_42.2.2.2.1
theorem dL_law_1382 : decode cL_law 1382 = .ok (.aload_n 0, 1) := dLg_42.2.2.2.2.1
theorem dL_law_1383 : decode cL_law 1383 = .ok (.iload_n 3, 1) := dLg_42.2.2.2.2.2.1
theorem dL_law_1384 : decode cL_law 1384 = .ok (.iconst 2, 1) := dLg_42.2.2.2.2.2.2.1
theorem dL_law_1385 : decode cL_law 1385 = .ok (.iadd, 1) := dLg_42.2.2.2.2.2.2.2.1
theorem dL_law_1386 : decode cL_law 1386 = .ok (.iaload, 1) := dLg_42.2.2.2.2.2.2.2.2.1
theorem dL_law_1387 : decode cL_law 1387 = .ok (.aload_n 0, 1) := dLg_42.2.2.2.2.2.2.2.2.2.1
theorem dL_law_1388 : decode cL_law 1388 = .ok (.iload_n 3, 1) := dLg_42.2.2.2.2.2.2.2.2.2.2.1
theorem dL_law_1389 : decode cL_law 1389 = .ok (.iconst 3, 1) := dLg_42.2.2.2.2.2.2.2.2.2.2.2.1
theorem dL_law_1390 : decode cL_law 1390 = .ok (.iadd, 1) := dLg_42.2.2.2.2.2.2.2.2.2.2.2.2.1
theorem dL_law_1391 : decode cL_law 1391 = .ok (.iaload, 1) := dLg_42.2.2.2.2.2.2.2.2.2.2.2.2.2.1
theorem dL_law_1392 : decode cL_law 1392 = .ok (.invokevirtual 134, 3) := dLg_42.2.2.2.2.2.2.2.2.2.2.2.2.2.2.1
theorem dL_law_1395 : decode cL_law 1395 = .ok (.pop, 1) := dLg_42.2.2.2.2.2.2.2.2.2.2.2.2.2.2.2.1
theorem dL_law_1396 : decode cL_law 1396 = .ok (.aload_n 2, 1) := dLg_42.2.2.2.2.2.2.2.2.2.2.2.2.2.2.2.2.1
theorem dL_law_1397 : decode cL_law 1397 = .ok (.aload_n 0, 1) := dLg_42.2.2.2.2.2.2.2.2.2.2.2.2.2.2.2.2.2.1
theorem dL_law_1398 : decode cL_law 1398 = .ok (.iload_n 3, 1) := dLg_42.2.2.2.2.2.2.2.2.2.2.2.2.2.2.2.2.2.2.1
theorem dL_law_1399 : decode cL_law 1399 = .ok (.iconst 1, 1) := dLg_42.2.2.2.2.2.2.2.2.2.2.2.2.2.2.2.2.2.2.2.1
theorem dL_law_1400 : decode cL_law 1400 = .ok (.iadd, 1) := dLg_42.2.2.2.2.2.2.2.2.2.2.2.2.2.2.2.2.2.2.2.2.1
theorem dL_law_1401 : decode cL_law 1401 = .ok (.iaload, 1) := dLg_42.2.2.2.2.2.2.2.2.2.2.2.2.2.2.2.2.2.2.2.2.2.1
theorem dL_law_1402 : decode cL_law 1402 = .ok (.aload_n 0, 1) := dLg_42.2.2.2.2.2.2.2.2.2.2.2.2.2.2.2.2.2.2.2.2.2.2.1
theorem dL_law_1403 : decode cL_law 1403 = .ok (.iload_n 3, 1) := dLg_42.2.2.2.2.2.2.2.2.2.2.2.2.2.2.2.2.2.2.2.2.2.2.2
theorem dLg_43 : (decode cL_law 1404 = .ok (.iconst 2, 1)) ∧ (decode cL_law 1405 = .ok (.iadd, 1)) ∧ (decode cL_law 1406 = .ok (.iaload, 1)) ∧ (decode cL_law 1407 = .ok (.aload_n 0, 1)) ∧ (decode cL_law 1408 = .ok (.iload_n 3, 1)) ∧ (decode cL_law 1409 = .ok (.iconst 3, 1)) ∧ (decode cL_law 1410 = .ok (.iadd, 1)) ∧ (decode cL_law 1411 = .ok (.iaload, 1)) ∧ (decode cL_law 1412 = .ok (.invokevirtual 138, 3)) ∧ (decode cL_law 1415 = .ok (.pop, 1)) ∧ (decode cL_law 1416 = .ok (.goto 498, 3)) ∧ (decode cL_law 1419 = .ok (.aload_n 1, 1)) ∧ (decode cL_law 1420 = .ok (.aload_n 0, 1)) ∧ (decode cL_law 1421 = .ok (.iload_n 3, 1)) ∧ (decode cL_law 1422 = .ok (.iconst 1, 1)) ∧ (decode cL_law 1423 = .ok (.iadd, 1)) ∧ (decode cL_law 1424 = .ok (.iaload, 1)) ∧ (decode cL_law 1425 = .ok (.invokevirtual 139, 3)) ∧ (decode cL_law 1428 = .ok (.pop, 1)) ∧ (decode cL_law 1429 = .ok (.aload_n 2, 1)) ∧ (decode cL_law 1430 = .ok (.aload_n 0, 1)) ∧ (decode cL_law 1431 = .ok (.iload_n 3, 1)) ∧ (decode cL_law 1432 = .ok (.iconst 1, 1)) ∧ (decode cL_law 1433 = .ok (.iadd, 1)) := by decide +kernel
theorem dL_law_1404 : decode cL_law 1404 = .ok (.iconst 2, 1) := dLg_43.1
theorem dL_law_1405 : decode cL_law 1405 = .ok (.iadd, 1) := dLg_43.2.1
theorem dL_law_1406 : decode cL_law 1406 = .ok (.iaload, 1) := dLg_43.2.2.1
theorem dL_law_1407 : decode cL_law 1407 = .ok (.aload_n 0, 1) := dLg_43.2.2.2.1
theorem dL_law_1408 : decode cL_law 1408 = .ok (.iload_n 3, 1) := dLg_43.2.2.2.2.1
theorem dL_law_1409 : decode cL_law 1409 = .ok (.iconst 3, 1) := dLg_43.2.2.2.2.2.1
theorem dL_law_1410 : decode cL_law 1410 = .ok (.iadd, 1) := dLg_43.2.2.2.2.2.2.1
theorem dL_law_1411 : decode cL_law 1411 = .ok (.iaload, 1) := dLg_43.2.2.2.2.2.2.2.1
theorem dL_law_1412 : decode cL_law 1412 = .ok (.invokevirtual 138, 3) := dLg_43.2.2.2.2.2.2.2.2.1
theorem dL_law_1415 : decode cL_law 1415 = .ok (.pop, 1) := dLg_43.2.2.2.2.2.2.2.2.2.1
theorem dL_law_1416 : decode cL_law 1416 = .ok (.goto 498, 3) := dLg_43.2.2.2.2.2.2.2.2.2.2.1
theorem dL_law_1419 : decode cL_law 1419 = .ok (.aload_n 1, 1) := dLg_43.2.2.2.2.2.2.2.2.2.2.2.1
theorem dL_law_1420 : decode cL_law 1420 = .ok (.aload_n 0, 1) := dLg_43.2.2.2.2.2.2.2.2.2.2.2.2.1
theorem dL_law_1421 : decode cL_law 1421 = .ok (.iload_n 3, 1) := dLg_43.2.2.2.2.2.2.2.2.2.2.2.2.2.1
theorem dL_law_1422 : decode cL_law 1422 = .ok (.iconst 1, 1) := dLg_43.2.2.2.2.2.2.2.2.2.2.2.2.2.2.1
theorem dL_law_1423 : decode cL_law 1423 = .ok (.iadd, 1) := dLg_43.2.2.2.2.2.2.2.2.2.2.2.2.2.2.2.1
theorem dL_law_1424 : decode cL_law 1424 = .ok (.iaload, 1) := dLg_43.2.2.2.2.2.2.2.2.2.2.2.2.2.2.2.2.1
theorem dL_law_1425 : decode cL_law 1425 = .ok (.invokevirtual 139, 3) := dLg_43.2.2.2.2.2.2.2.2.2.2.2.2.2.2.2.2.2.1
theorem dL_law_1428 : decode cL_law 1428 = .ok (.pop, 1) := dLg_43.2.2.2.2.2.2.2.2.2.2.2.2.2.2.2.2.2.2.1
theorem dL_law_1429 : decode cL_law 1429 = .ok (.aload_n 2, 1) := dLg_43.2.2.2.2.2.2.2.2.2.2.2.2.2.2.2.2.2.2.2.1
theorem dL_law_1430 : decode cL_law 1430 = .ok (.aload_n 0, 1) := dLg_43.2.2.2.2.2.2.2.2.2.2.2.2.2.2.2.2.2.2.2.2.1
theorem dL_law_1431 : decode cL_law 1431 = .ok (.iload_n 3, 1) := dLg_43.2.2.2.2.2.2.2.2.2.2.2.2.2.2.2.2.2.2.2.2.2.1
theorem dL_law_1432 : decode cL_law 1432 = .ok (.iconst 1, 1) := dLg_43.2.2.2.2.2.2.2.2.2.2.2.2.2.2.2.2.2.2.2.2.2.2.1
theorem dL_law_1433 : decode cL_law 1433 = .ok (.iadd, 1) := dLg_43.2.2.2.2.2.2.2.2.2.2.2.2.2.2.2.2.2.2.2.2.2.2.2
theorem dLg_44 : (decode cL_law 1434 = .ok (.iaload, 1)) ∧ (decode cL_law 1435 = .ok (.invokevirtual 142, 3)) ∧ (decode cL_law 1438 = .ok (.pop, 1)) ∧ (decode cL_law 1439 = .ok (.goto 475, 3)) ∧ (decode cL_law 1442 = .ok (.aload_n 1, 1)) ∧ (decode cL_law 1443 = .ok (.aload_n 0, 1)) ∧ (decode cL_law 1444 = .ok (.iload_n 3, 1)) ∧ (decode cL_law 1445 = .ok (.iconst 1, 1)) ∧ (decode cL_law 1446 = .ok (.iadd, 1)) ∧ (decode cL_law 1447 = .ok (.iaload, 1)) ∧ (decode cL_law 1448 = .ok (.invokevirtual 143, 3)) ∧ (decode cL_law 1451 = .ok (.pop, 1)) ∧ (decode cL_law 1452 = .ok (.aload_n 2, 1)) ∧ (decode cL_law 1453 = .ok (.aload_n 0, 1)) ∧ (decode cL_law 1454 = .ok (.iload_n 3, 1)) ∧ (decode cL_law 1455 = .ok (.iconst 1, 1)) ∧ (decode cL_law 1456 = .ok (.iadd, 1)) ∧ (decode cL_law 1457 = .ok (.iaload, 1)) ∧ (decode cL_law 1458 = .ok (.invokevirtual 146, 3)) ∧ (decode cL_law 1461 = .ok (.pop, 1)) ∧ (decode cL_law 1462 = .ok (.goto 452, 3)) ∧ (decode cL_law 1465 = .ok (.aload_n 1, 1)) ∧ (decode cL_law 1466 = .ok (.aload_n 0, 1)) ∧ (decode cL_law 1467 = .ok (.iload_n 3, 1)) := by decide +kernel
theorem dL_law_1434 : decode cL_law 1434 = .ok (.iaload, 1) := dLg_44.1
theorem dL_law_1435 : decode cL_law 1435 = .ok (.invokevirtual 142, 3) := dLg_44.2.1
theorem dL_law_1438 : decode cL_law 1438 = .ok (.pop, 1) := dLg_44.2.2.1
theorem dL_law_1439 : decode cL_law 1439 = .ok (.goto 475, 3) := dLg_44.2.2.2.1
theorem dL_law_1442 : decode cL_law 1442 = .ok (.aload_n 1, 1) := dLg_44.2.2.2.2.1
theorem dL_law_1443 : decode cL_law 1443 = .ok (.aload_n 0, 1) := dLg_44.2.2.2.2.2.1
theorem dL_law_1444 : decode cL_law 1444 = .ok (.iload_n 3, 1) := dLg_44.2.2.2.2.2.2.1
theorem dL_law_1445 : decode cL_law 1445 = .ok (.iconst 1, 1) := dLg_44.2.2.2.2.2.2.2.1
theorem dL_law_1446 : decode cL_law 1446 = .ok (.iadd, 1) := dLg_44.2.2.2.2.2.2.2.2.1
theorem dL_law_1447 : decode cL_law 1447 = .ok (.iaload, 1) := dLg_44.2.2.2.2.2.2.2.2.2.1
theorem dL_law_1448 : decode cL_law 1448 = .ok (.invokevirtual 143, 3) := dLg_44.2.2.2.2.2.2.2.2.2.2.1
theorem dL_law_1451 : decode cL_law 1451 = .ok (.pop, 1) := dLg_44.2.2.2.2.2.2.2.2.2.2.2.1
theorem dL_law_1452 : decode cL_law 1452 = .ok (.aload_n 2, 1) := dLg_44.2.2.2.2.2.2.2.2.2.2.2.2.1
theorem dL_law_1453 : decode cL_law 1453 = .ok (.aload_n 0, 1) := dLg_44.2.2.2.2.2.2.2.2.2.2.2.2.2.1
theorem dL_law_1454 : decode cL_law 1454 = .ok (.iload_n 3, 1) := dLg_44.2.2.2.2.2.2.2.2.2.2.2.2.2.2.1
theorem dL_law_1455 : decode cL_law 1455 = .ok (.iconst 1, 1) := dLg_44.2.2.2.2.2.2.2.2.2.2.2.2.2.2.2.1
theorem dL_law_1456 : decode cL_law 1456 = .ok (.iadd, 1) := dLg_44.2.2.2.2.2.2.2.2.2.2.2.2.2.2.2.2.1
theorem dL_law_1457 : decode cL_law 1457 = .ok (.iaload, 1) := dLg_44.2.2.2.2.2.2.2.2.2.2.2.2.2.2.2.2.2.1
theorem dL_law_1458 : decode cL_law 1458 = .ok (.invokevirtual 146, 3) := dLg_44.2.2.2.2.2.2.2.2.2.2.2.2.2.2.2.2.2.2.1
theorem dL_law_1461 : decode cL_law 1461 = .ok (.pop, 1) := dLg_44.2.2.2.2.2.2.2.2.2.2.2.2.2.2.2.2.2.2.2.1
theorem dL_law_1462 : decode cL_law 1462 = .ok (.goto 452, 3) := dLg_44.2.2.2.2.2.2.2.2.2.2.2.2.2.2.2.2.2.2.2.2.1
theorem dL_law_1465 : decode cL_law 1465 = .ok (.aload_n 1, 1) := dLg_44.2.2.2.2.2.2.2.2.2.2.2.2.2.2.2.2.2.2.2.2.2.1
theorem dL_law_1466 : decode cL_law 1466 = .ok (.aload_n 0, 1) := dLg_44.2.2.2.2.2.2.2.2.2.2.2.2.2.2.2.2.2.2.2.2.2.2.1
theorem dL_law_1467 : decode cL_law 1467 = .ok (.iload_n 3, 1) := dLg_44.2.2.2.2.2.2.2.2.2.2.2.2.2.2.2.2.2.2.2.2.2.2.2
theorem dLg_45 : (decode cL_law 1468 = .ok (.iconst 1, 1)) ∧ (decode cL_law 1469 = .ok (.iadd, 1)) ∧ (decode cL_law 1470 = .ok (.iaload, 1)) ∧ (decode cL_law 1471 = .ok (.aload_n 0, 1)) ∧ (decode cL_law 1472 = .ok (.iload_n 3, 1)) ∧ (decode cL_law 1473 = .ok (.iconst 2, 1)) ∧ (decode cL_law 1474 = .ok (.iadd, 1)) ∧ (decode cL_law 1475 = .ok (.iaload, 1)) ∧ (decode cL_law 1476 = .ok (.invokevirtual 147, 3)) ∧ (decode cL_law 1479 = .ok (.pop, 1)) ∧ (decode cL_law 1480 = .ok (.aload_n 2, 1)) ∧ (decode cL_law 1481 = .ok (.aload_n 0, 1)) ∧ (decode cL_law 1482 = .ok (.iload_n 3, 1)) ∧ (decode cL_law 1483 = .ok (.iconst 1, 1)) ∧ (decode cL_law 1484 = .ok (.iadd, 1)) ∧ (decode cL_law 1485 = .ok (.iaload, 1)) ∧ (decode cL_law 1486 = .ok (.aload_n 0, 1)) ∧ (decode cL_law 1487 = .ok (.iload_n 3, 1)) ∧ (decode cL_law 1488 = .ok (.iconst 2, 1)) ∧ (decode cL_law 1489 = .ok (.iadd, 1)) ∧ (decode cL_law 1490 = .ok (.iaload, 1)) ∧ (decode cL_law 1491 = .ok (.invokevirtual 150, 3)) ∧ (decode cL_law 1494 = .ok (.pop, 1)) ∧ (decode cL_law 1495 = .ok (.goto 419, 3)) := by decide +kernel
theorem dL_law_1468 : decode cL_law 1468 = .ok (.iconst 1, 1) := dLg_45.1
theorem dL_law_1469 : decode cL_law 1469 = .ok (.iadd, 1) := dLg_45.2.1
theorem dL_law_1470 : decode cL_law 1470 = .ok (.iaload, 1) := dLg_45.2.2.1
theorem dL_law_1471 : decode cL_law 1471 = .ok (.aload_n 0, 1) := dLg_45.2.2.2.1
theorem dL_law_1472 : decode cL_law 1472 = .ok (.iload_n 3, 1) := dLg_45.2.2.2.2.1
theorem dL_law_1473 : decode cL_law 1473 = .ok (.iconst 2, 1) := dLg_45.2.2.2.2.2.1
theorem dL_law_1474 : decode cL_law 1474 = .ok (.iadd, 1) := dLg_45.2.2.2.2.2.2.1
theorem dL_law_1475 : decode cL_law 1475 = .ok (.iaload, 1) := dLg_45.2.2.2.2.2.2.2.1
theorem dL_law_1476 : decode cL_law 1476 = .ok (.invokevirtual 147, 3) := dLg_45.2.2.2.2.2.2.2.2.1
theorem dL_law_1479 : decode cL_law 1479 = .ok (.pop, 1) := dLg_45.2.2.2.2.2.2.2.2.2.1
theorem dL_law_1480 : decode cL_law 1480 = .ok (.aload_n 2, 1) := dLg_45.2.2.2.2.2.2.2.2.2.2.1
theorem dL_law_1481 : decode cL_law 1481 = .ok (.aload_n 0, 1) := dLg_45.2.2.2.2.2.2.2.2.2.2.2.1
theorem dL_law_1482 : decode cL_law 1482 = .ok (.iload_n 3, 1) := dLg_45.2.2.2.2.2.2.2.2.2.2.2.2.1
theorem dL_law_1483 : decode cL_law 1483 = .ok (.iconst 1, 1) := dLg_45.2.2.2.2.2.2.2.2.2.2.2.2.2.1
