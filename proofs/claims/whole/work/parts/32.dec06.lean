theorem dX10_init_1058 : decode cX10_init 1058 = .ok (.iastore, 1) := by decide +kernel
theorem dX10_init_1059 : decode cX10_init 1059 = .ok (.dup, 1) := by decide +kernel
theorem dX10_init_1060 : decode cX10_init 1060 = .ok (.sipush 149, 3) := by decide +kernel
theorem dX10_init_1063 : decode cX10_init 1063 = .ok (.sipush 129, 3) := by decide +kernel
theorem dX10_init_1066 : decode cX10_init 1066 = .ok (.iastore, 1) := by decide +kernel
theorem dX10_init_1067 : decode cX10_init 1067 = .ok (.dup, 1) := by decide +kernel
theorem dX10_init_1068 : decode cX10_init 1068 = .ok (.sipush 150, 3) := by decide +kernel
theorem dX10_init_1071 : decode cX10_init 1071 = .ok (.sipush 1153, 3) := by decide +kernel
theorem dX10_init_1074 : decode cX10_init 1074 = .ok (.iastore, 1) := by decide +kernel
theorem dX10_init_1075 : decode cX10_init 1075 = .ok (.dup, 1) := by decide +kernel
theorem dX10_init_1076 : decode cX10_init 1076 = .ok (.sipush 151, 3) := by decide +kernel
theorem dX10_init_1079 : decode cX10_init 1079 = .ok (.sipush 2177, 3) := by decide +kernel
theorem dX10_init_1082 : decode cX10_init 1082 = .ok (.iastore, 1) := by decide +kernel
theorem dX10_init_1083 : decode cX10_init 1083 = .ok (.dup, 1) := by decide +kernel
theorem dX10_init_1084 : decode cX10_init 1084 = .ok (.sipush 152, 3) := by decide +kernel
theorem dX10_init_1087 : decode cX10_init 1087 = .ok (.sipush 4609, 3) := by decide +kernel
theorem dX10_init_1090 : decode cX10_init 1090 = .ok (.iastore, 1) := by decide +kernel
theorem dX10_init_1091 : decode cX10_init 1091 = .ok (.dup, 1) := by decide +kernel
theorem dX10_init_1092 : decode cX10_init 1092 = .ok (.sipush 153, 3) := by decide +kernel
theorem dX10_init_1095 : decode cX10_init 1095 = .ok (.sipush 8336, 3) := by decide +kernel
theorem dX10_init_1098 : decode cX10_init 1098 = .ok (.iastore, 1) := by decide +kernel
theorem dX10_init_1099 : decode cX10_init 1099 = .ok (.dup, 1) := by decide +kernel
theorem dX10_init_1100 : decode cX10_init 1100 = .ok (.sipush 154, 3) := by decide +kernel
theorem dX10_init_1103 : decode cX10_init 1103 = .ok (.sipush 9217, 3) := by decide +kernel
theorem dX10_init_1106 : decode cX10_init 1106 = .ok (.iastore, 1) := by decide +kernel
theorem dX10_init_1107 : decode cX10_init 1107 = .ok (.dup, 1) := by decide +kernel
theorem dX10_init_1108 : decode cX10_init 1108 = .ok (.sipush 155, 3) := by decide +kernel
theorem dX10_init_1111 : decode cX10_init 1111 = .ok (.sipush 8705, 3) := by decide +kernel
theorem dX10_init_1114 : decode cX10_init 1114 = .ok (.iastore, 1) := by decide +kernel
theorem dX10_init_1115 : decode cX10_init 1115 = .ok (.dup, 1) := by decide +kernel
theorem dX10_init_1116 : decode cX10_init 1116 = .ok (.sipush 156, 3) := by decide +kernel
theorem dX10_init_1119 : decode cX10_init 1119 = .ok (.sipush 4240, 3) := by decide +kernel
theorem dX10_init_1122 : decode cX10_init 1122 = .ok (.iastore, 1) := by decide +kernel
theorem dX10_init_1123 : decode cX10_init 1123 = .ok (.dup, 1) := by decide +kernel
theorem dX10_init_1124 : decode cX10_init 1124 = .ok (.sipush 157, 3) := by decide +kernel
theorem dX10_init_1127 : decode cX10_init 1127 = .ok (.sipush 513, 3) := by decide +kernel
theorem dX10_init_1130 : decode cX10_init 1130 = .ok (.iastore, 1) := by decide +kernel
theorem dX10_init_1131 : decode cX10_init 1131 = .ok (.dup, 1) := by decide +kernel
theorem dX10_init_1132 : decode cX10_init 1132 = .ok (.sipush 158, 3) := by decide +kernel
theorem dX10_init_1135 : decode cX10_init 1135 = .ok (.sipush 1025, 3) := by decide +kernel
theorem dX10_init_1138 : decode cX10_init 1138 = .ok (.iastore, 1) := by decide +kernel
theorem dX10_init_1139 : decode cX10_init 1139 = .ok (.dup, 1) := by decide +kernel
theorem dX10_init_1140 : decode cX10_init 1140 = .ok (.sipush 159, 3) := by decide +kernel
theorem dX10_init_1143 : decode cX10_init 1143 = .ok (.sipush 2192, 3) := by decide +kernel
theorem dX10_init_1146 : decode cX10_init 1146 = .ok (.iastore, 1) := by decide +kernel
theorem dX10_init_1147 : decode cX10_init 1147 = .ok (.dup, 1) := by decide +kernel
theorem dX10_init_1148 : decode cX10_init 1148 = .ok (.sipush 160, 3) := by decide +kernel
theorem dX10_init_1151 : decode cX10_init 1151 = .ok (.sipush 545, 3) := by decide +kernel
theorem dX10_init_1154 : decode cX10_init 1154 = .ok (.iastore, 1) := by decide +kernel
theorem dX10_init_1155 : decode cX10_init 1155 = .ok (.dup, 1) := by decide +kernel
theorem dX10_init_1156 : decode cX10_init 1156 = .ok (.sipush 161, 3) := by decide +kernel
theorem dX10_init_1159 : decode cX10_init 1159 = .ok (.sipush 8457, 3) := by decide +kernel
theorem dX10_init_1162 : decode cX10_init 1162 = .ok (.iastore, 1) := by decide +kernel
theorem dX10_init_1163 : decode cX10_init 1163 = .ok (.dup, 1) := by decide +kernel
theorem dX10_init_1164 : decode cX10_init 1164 = .ok (.sipush 162, 3) := by decide +kernel
theorem dX10_init_1167 : decode cX10_init 1167 = .ok (.sipush 4368, 3) := by decide +kernel
theorem dX10_init_1170 : decode cX10_init 1170 = .ok (.iastore, 1) := by decide +kernel
theorem dX10_init_1171 : decode cX10_init 1171 = .ok (.dup, 1) := by decide +kernel
theorem dX10_init_1172 : decode cX10_init 1172 = .ok (.sipush 163, 3) := by decide +kernel
theorem dX10_init_1175 : decode cX10_init 1175 = .ok (.sipush 289, 3) := by decide +kernel
theorem dX10_init_1178 : decode cX10_init 1178 = .ok (.iastore, 1) := by decide +kernel
theorem dX10_init_1179 : decode cX10_init 1179 = .ok (.dup, 1) := by decide +kernel
theorem dX10_init_1180 : decode cX10_init 1180 = .ok (.sipush 164, 3) := by decide +kernel
theorem dX10_init_1183 : decode cX10_init 1183 = .ok (.sipush 4361, 3) := by decide +kernel
theorem dX10_init_1186 : decode cX10_init 1186 = .ok (.iastore, 1) := by decide +kernel
theorem dX10_init_1187 : decode cX10_init 1187 = .ok (.dup, 1) := by decide +kernel
theorem dX10_init_1188 : decode cX10_init 1188 = .ok (.sipush 165, 3) := by decide +kernel
theorem dX10_init_1191 : decode cX10_init 1191 = .ok (.sipush 265, 3) := by decide +kernel
theorem dX10_init_1194 : decode cX10_init 1194 = .ok (.iastore, 1) := by decide +kernel
theorem dX10_init_1195 : decode cX10_init 1195 = .ok (.dup, 1) := by decide +kernel
theorem dX10_init_1196 : decode cX10_init 1196 = .ok (.sipush 166, 3) := by decide +kernel
theorem dX10_init_1199 : decode cX10_init 1199 = .ok (.sipush 4129, 3) := by decide +kernel
theorem dX10_init_1202 : decode cX10_init 1202 = .ok (.iastore, 1) := by decide +kernel
theorem dX10_init_1203 : decode cX10_init 1203 = .ok (.dup, 1) := by decide +kernel
theorem dX10_init_1204 : decode cX10_init 1204 = .ok (.sipush 167, 3) := by decide +kernel
theorem dX10_init_1207 : decode cX10_init 1207 = .ok (.sipush 2313, 3) := by decide +kernel
theorem dX10_init_1210 : decode cX10_init 1210 = .ok (.iastore, 1) := by decide +kernel
theorem dX10_init_1211 : decode cX10_init 1211 = .ok (.dup, 1) := by decide +kernel
theorem dX10_init_1212 : decode cX10_init 1212 = .ok (.sipush 168, 3) := by decide +kernel
theorem dX10_init_1215 : decode cX10_init 1215 = .ok (.sipush 4681, 3) := by decide +kernel
theorem dX10_init_1218 : decode cX10_init 1218 = .ok (.iastore, 1) := by decide +kernel
theorem dX10_init_1219 : decode cX10_init 1219 = .ok (.dup, 1) := by decide +kernel
theorem dX10_init_1220 : decode cX10_init 1220 = .ok (.sipush 169, 3) := by decide +kernel
theorem dX10_init_1223 : decode cX10_init 1223 = .ok (.sipush 8265, 3) := by decide +kernel
theorem dX10_init_1226 : decode cX10_init 1226 = .ok (.iastore, 1) := by decide +kernel
theorem dX10_init_1227 : decode cX10_init 1227 = .ok (.dup, 1) := by decide +kernel
theorem dX10_init_1228 : decode cX10_init 1228 = .ok (.sipush 170, 3) := by decide +kernel
theorem dX10_init_1231 : decode cX10_init 1231 = .ok (.sipush 9289, 3) := by decide +kernel
theorem dX10_init_1234 : decode cX10_init 1234 = .ok (.iastore, 1) := by decide +kernel
theorem dX10_init_1235 : decode cX10_init 1235 = .ok (.dup, 1) := by decide +kernel
theorem dX10_init_1236 : decode cX10_init 1236 = .ok (.sipush 171, 3) := by decide +kernel
theorem dX10_init_1239 : decode cX10_init 1239 = .ok (.sipush 8777, 3) := by decide +kernel
theorem dX10_init_1242 : decode cX10_init 1242 = .ok (.iastore, 1) := by decide +kernel
theorem dX10_init_1243 : decode cX10_init 1243 = .ok (.dup, 1) := by decide +kernel
theorem dX10_init_1244 : decode cX10_init 1244 = .ok (.sipush 172, 3) := by decide +kernel
theorem dX10_init_1247 : decode cX10_init 1247 = .ok (.sipush 4169, 3) := by decide +kernel
theorem dX10_init_1250 : decode cX10_init 1250 = .ok (.iastore, 1) := by decide +kernel
theorem dX10_init_1251 : decode cX10_init 1251 = .ok (.dup, 1) := by decide +kernel
theorem dX10_init_1252 : decode cX10_init 1252 = .ok (.sipush 173, 3) := by decide +kernel
theorem dX10_init_1255 : decode cX10_init 1255 = .ok (.bipush 73, 2) := by decide +kernel
