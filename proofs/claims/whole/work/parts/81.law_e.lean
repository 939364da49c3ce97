theorem dL_law_1058 : decode cL_law 1058 = .ok (.iadd, 1) := by decide +kernel
theorem dL_law_1059 : decode cL_law 1059 = .ok (.iaload, 1) := by decide +kernel
theorem dL_law_1060 : decode cL_law 1060 = .ok (.invokevirtual 123, 3) := by decide +kernel
theorem dL_law_1063 : decode cL_law 1063 = .ok (.aload_n 2, 1) := by decide +kernel
theorem dL_law_1064 : decode cL_law 1064 = .ok (.aload_n 0, 1) := by decide +kernel
theorem dL_law_1065 : decode cL_law 1065 = .ok (.iload_n 3, 1) := by decide +kernel
theorem dL_law_1066 : decode cL_law 1066 = .ok (.iconst 1, 1) := by decide +kernel
theorem dL_law_1067 : decode cL_law 1067 = .ok (.iadd, 1) := by decide +kernel
theorem dL_law_1068 : decode cL_law 1068 = .ok (.iaload, 1) := by decide +kernel
theorem dL_law_1069 : decode cL_law 1069 = .ok (.aload_n 0, 1) := by decide +kernel
theorem dL_law_1070 : decode cL_law 1070 = .ok (.iload_n 3, 1) := by decide +kernel
theorem dL_law_1071 : decode cL_law 1071 = .ok (.iconst 2, 1) := by decide +kernel
theorem dL_law_1072 : decode cL_law 1072 = .ok (.iadd, 1) := by decide +kernel
theorem dL_law_1073 : decode cL_law 1073 = .ok (.iaload, 1) := by decide +kernel
theorem dL_law_1074 : decode cL_law 1074 = .ok (.aload_n 0, 1) := by decide +kernel
theorem dL_law_1075 : decode cL_law 1075 = .ok (.iload_n 3, 1) := by decide +kernel
theorem dL_law_1076 : decode cL_law 1076 = .ok (.iconst 3, 1) := by decide +kernel
theorem dL_law_1077 : decode cL_law 1077 = .ok (.iadd, 1) := by decide +kernel
theorem dL_law_1078 : decode cL_law 1078 = .ok (.iaload, 1) := by decide +kernel
theorem dL_law_1079 : decode cL_law 1079 = .ok (.invokevirtual 126, 3) := by decide +kernel
theorem dL_law_1082 : decode cL_law 1082 = .ok (.if_icmp .eq 371, 3) := by decide +kernel
theorem dL_law_1085 : decode cL_law 1085 = .ok (.iconst 0, 1) := by decide +kernel
theorem dL_law_1086 : decode cL_law 1086 = .ok (.ireturn, 1) := by decide +kernel
theorem dL_law_1087 : decode cL_law 1087 = .ok (.aload_n 1, 1) := by decide +kernel
theorem dL_law_1088 : decode cL_law 1088 = .ok (.aload_n 0, 1) := by decide +kernel
theorem dL_law_1089 : decode cL_law 1089 = .ok (.iload_n 3, 1) := by decide +kernel
theorem dL_law_1090 : decode cL_law 1090 = .ok (.iconst 1, 1) := by decide +kernel
theorem dL_law_1091 : decode cL_law 1091 = .ok (.iadd, 1) := by decide +kernel
theorem dL_law_1092 : decode cL_law 1092 = .ok (.iaload, 1) := by decide +kernel
theorem dL_law_1093 : decode cL_law 1093 = .ok (.invokevirtual 127, 3) := by decide +kernel
theorem dL_law_1096 : decode cL_law 1096 = .ok (.aload_n 2, 1) := by decide +kernel
theorem dL_law_1097 : decode cL_law 1097 = .ok (.aload_n 0, 1) := by decide +kernel
theorem dL_law_1098 : decode cL_law 1098 = .ok (.iload_n 3, 1) := by decide +kernel
theorem dL_law_1099 : decode cL_law 1099 = .ok (.iconst 1, 1) := by decide +kernel
theorem dL_law_1100 : decode cL_law 1100 = .ok (.iadd, 1) := by decide +kernel
theorem dL_law_1101 : decode cL_law 1101 = .ok (.iaload, 1) := by decide +kernel
theorem dL_law_1102 : decode cL_law 1102 = .ok (.invokevirtual 130, 3) := by decide +kernel
theorem dL_law_1105 : decode cL_law 1105 = .ok (.if_icmp .eq 348, 3) := by decide +kernel
theorem dL_law_1108 : decode cL_law 1108 = .ok (.iconst 0, 1) := by decide +kernel
theorem dL_law_1109 : decode cL_law 1109 = .ok (.ireturn, 1) := by decide +kernel
theorem dL_law_1110 : decode cL_law 1110 = .ok (.aload_n 1, 1) := by decide +kernel
theorem dL_law_1111 : decode cL_law 1111 = .ok (.aload_n 0, 1) := by decide +kernel
theorem dL_law_1112 : decode cL_law 1112 = .ok (.iload_n 3, 1) := by decide +kernel
theorem dL_law_1113 : decode cL_law 1113 = .ok (.iconst 1, 1) := by decide +kernel
theorem dL_law_1114 : decode cL_law 1114 = .ok (.iadd, 1) := by decide +kernel
theorem dL_law_1115 : decode cL_law 1115 = .ok (.iaload, 1) := by decide +kernel
theorem dL_law_1116 : decode cL_law 1116 = .ok (.invokevirtual 131, 3) := by decide +kernel
theorem dL_law_1119 : decode cL_law 1119 = .ok (.aload_n 2, 1) := by decide +kernel
theorem dL_law_1120 : decode cL_law 1120 = .ok (.aload_n 0, 1) := by decide +kernel
theorem dL_law_1121 : decode cL_law 1121 = .ok (.iload_n 3, 1) := by decide +kernel
theorem dL_law_1122 : decode cL_law 1122 = .ok (.iconst 1, 1) := by decide +kernel
theorem dL_law_1123 : decode cL_law 1123 = .ok (.iadd, 1) := by decide +kernel
theorem dL_law_1124 : decode cL_law 1124 = .ok (.iaload, 1) := by decide +kernel
theorem dL_law_1125 : decode cL_law 1125 = .ok (.invokevirtual 134, 3) := by decide +kernel
theorem dL_law_1128 : decode cL_law 1128 = .ok (.if_icmp .eq 325, 3) := by decide +kernel
theorem dL_law_1131 : decode cL_law 1131 = .ok (.iconst 0, 1) := by decide +kernel
theorem dL_law_1132 : decode cL_law 1132 = .ok (.ireturn, 1) := by decide +kernel
theorem dL_law_1133 : decode cL_law 1133 = .ok (.aload_n 1, 1) := by decide +kernel
theorem dL_law_1134 : decode cL_law 1134 = .ok (.aload_n 0, 1) := by decide +kernel
theorem dL_law_1135 : decode cL_law 1135 = .ok (.iload_n 3, 1) := by decide +kernel
theorem dL_law_1136 : decode cL_law 1136 = .ok (.iconst 1, 1) := by decide +kernel
theorem dL_law_1137 : decode cL_law 1137 = .ok (.iadd, 1) := by decide +kernel
theorem dL_law_1138 : decode cL_law 1138 = .ok (.iaload, 1) := by decide +kernel
theorem dL_law_1139 : decode cL_law 1139 = .ok (.invokevirtual 135, 3) := by decide +kernel
theorem dL_law_1142 : decode cL_law 1142 = .ok (.aload_n 2, 1) := by decide +kernel
theorem dL_law_1143 : decode cL_law 1143 = .ok (.aload_n 0, 1) := by decide +kernel
theorem dL_law_1144 : decode cL_law 1144 = .ok (.iload_n 3, 1) := by decide +kernel
theorem dL_law_1145 : decode cL_law 1145 = .ok (.iconst 1, 1) := by decide +kernel
theorem dL_law_1146 : decode cL_law 1146 = .ok (.iadd, 1) := by decide +kernel
theorem dL_law_1147 : decode cL_law 1147 = .ok (.iaload, 1) := by decide +kernel
theorem dL_law_1148 : decode cL_law 1148 = .ok (.invokevirtual 138, 3) := by decide +kernel
theorem dL_law_1151 : decode cL_law 1151 = .ok (.if_icmp .eq 302, 3) := by decide +kernel
theorem dL_law_1154 : decode cL_law 1154 = .ok (.iconst 0, 1) := by decide +kernel
theorem dL_law_1155 : decode cL_law 1155 = .ok (.ireturn, 1) := by decide +kernel
theorem dL_law_1156 : decode cL_law 1156 = .ok (.aload_n 1, 1) := by decide +kernel
theorem dL_law_1157 : decode cL_law 1157 = .ok (.aload_n 0, 1) := by decide +kernel
theorem dL_law_1158 : decode cL_law 1158 = .ok (.iload_n 3, 1) := by decide +kernel
theorem dL_law_1159 : decode cL_law 1159 = .ok (.iconst 1, 1) := by decide +kernel
theorem dL_law_1160 : decode cL_law 1160 = .ok (.iadd, 1) := by decide +kernel
theorem dL_law_1161 : decode cL_law 1161 = .ok (.iaload, 1) := by decide +kernel
theorem dL_law_1162 : decode cL_law 1162 = .ok (.aload_n 0, 1) := by decide +kernel
theorem dL_law_1163 : decode cL_law 1163 = .ok (.iload_n 3, 1) := by decide +kernel
theorem dL_law_1164 : decode cL_law 1164 = .ok (.iconst 2, 1) := by decide +kernel
theorem dL_law_1165 : decode cL_law 1165 = .ok (.iadd, 1) := by decide +kernel
theorem dL_law_1166 : decode cL_law 1166 = .ok (.iaload, 1) := by decide +kernel
theorem dL_law_1167 : decode cL_law 1167 = .ok (.invokevirtual 139, 3) := by decide +kernel
theorem dL_law_1170 : decode cL_law 1170 = .ok (.aload_n 2, 1) := by decide +kernel
theorem dL_law_1171 : decode cL_law 1171 = .ok (.aload_n 0, 1) := by decide +kernel
theorem dL_law_1172 : decode cL_law 1172 = .ok (.iload_n 3, 1) := by decide +kernel
theorem dL_law_1173 : decode cL_law 1173 = .ok (.iconst 1, 1) := by decide +kernel
theorem dL_law_1174 : decode cL_law 1174 = .ok (.iadd, 1) := by decide +kernel
theorem dL_law_1175 : decode cL_law 1175 = .ok (.iaload, 1) := by decide +kernel
theorem dL_law_1176 : decode cL_law 1176 = .ok (.aload_n 0, 1) := by decide +kernel
theorem dL_law_1177 : decode cL_law 1177 = .ok (.iload_n 3, 1) := by decide +kernel
theorem dL_law_1178 : decode cL_law 1178 = .ok (.iconst 2, 1) := by decide +kernel
theorem dL_law_1179 : decode cL_law 1179 = .ok (.iadd, 1) := by decide +kernel
theorem dL_law_1180 : decode cL_law 1180 = .ok (.iaload, 1) := by decide +kernel
theorem dL_law_1181 : decode cL_law 1181 = .ok (.invokevirtual 142, 3) := by decide +kernel
theorem dL_law_1184 : decode cL_law 1184 = .ok (.if_icmp .eq 269, 3) := by decide +kernel
theorem dL_law_1187 : decode cL_law 1187 = .ok (.iconst 0, 1) := by decide +kernel
theorem dL_law_1188 : decode cL_law 1188 = .ok (.ireturn, 1) := by decide +kernel
theorem dL_law_1189 : decode cL_law 1189 = .ok (.aload_n 1, 1) := by decide +kernel
theorem dL_law_1190 : decode cL_law 1190 = .ok (.aload_n 0, 1) := by decide +kernel
theorem dL_law_1191 : decode cL_law 1191 = .ok (.iload_n 3, 1) := by decide +kernel
theorem dL_law_1192 : decode cL_law 1192 = .ok (.iconst 1, 1) := by decide +kernel
theorem dL_law_1193 : decode cL_law 1193 = .ok (.iadd, 1) := by decide +kernel
theorem dL_law_1194 : decode cL_law 1194 = .ok (.iaload, 1) := by decide +kernel
theorem dL_law_1195 : decode cL_law 1195 = .ok (.aload_n 0, 1) := by decide +kernel
theorem dL_law_1196 : decode cL_law 1196 = .ok (.iload_n 3, 1) := by decide +kernel
theorem dL_law_1197 : decode cL_law 1197 = .ok (.iconst 2, 1) := by decide +kernel
theorem dL_law_1198 : decode cL_law 1198 = .ok (.iadd, 1) := by decide +kernel
theorem dL_law_1199 : decode cL_law 1199 = .ok (.iaload, 1) := by decide +kernel
theorem dL_law_1200 : decode cL_law 1200 = .ok (.aload_n 0, 1) := by decide +kernel
theorem dL_law_1201 : decode cL_law 1201 = .ok (.iload_n 3, 1) := by decide +kernel
theorem dL_law_1202 : decode cL_law 1202 = .ok (.iconst 3, 1) := by decide +kernel
theorem dL_law_1203 : decode cL_law 1203 = .ok (.iadd, 1) := by decide +kernel
theorem dL_law_1204 : decode cL_law 1204 = .ok (.iaload, 1) := by decide +kernel
theorem dL_law_1205 : decode cL_law 1205 = .ok (.invokevirtual 143, 3) := by decide +kernel
theorem dL_law_1208 : decode cL_law 1208 = .ok (.aload_n 2, 1) := by decide +kernel
theorem dL_law_1209 : decode cL_law 1209 = .ok (.aload_n 0, 1) := by decide +kernel
theorem dL_law_1210 : decode cL_law 1210 = .ok (.iload_n 3, 1) := by decide +kernel
theorem dL_law_1211 : decode cL_law 1211 = .ok (.iconst 1, 1) := by decide +kernel
theorem dL_law_1212 : decode cL_law 1212 = .ok (.iadd, 1) := by decide +kernel
theorem dL_law_1213 : decode cL_law 1213 = .ok (.iaload, 1) := by decide +kernel
theorem dL_law_1214 : decode cL_law 1214 = .ok (.aload_n 0, 1) := by decide +kernel
theorem dL_law_1215 : decode cL_law 1215 = .ok (.iload_n 3, 1) := by decide +kernel
theorem dL_law_1216 : decode cL_law 1216 = .ok (.iconst 2, 1) := by decide +kernel
theorem dL_law_1217 : decode cL_law 1217 = .ok (.iadd, 1) := by decide +kernel
theorem dL_law_1218 : decode cL_law 1218 = .ok (.iaload, 1) := by decide +kernel
theorem dL_law_1219 : decode cL_law 1219 = .ok (.aload_n 0, 1) := by decide +kernel
theorem dL_law_1220 : decode cL_law 1220 = .ok (.iload_n 3, 1) := by decide +kernel
theorem dL_law_1221 : decode cL_law 1221 = .ok (.iconst 3, 1) := by decide +kernel
theorem dL_law_1222 : decode cL_law 1222 = .ok (.iadd, 1) := by decide +kernel
theorem dL_law_1223 : decode cL_law 1223 = .ok (.iaload, 1) := by decide +kernel
theorem dL_law_1224 : decode cL_law 1224 = .ok (.invokevirtual 146, 3) := by decide +kernel
theorem dL_law_1227 : decode cL_law 1227 = .ok (.if_icmp .eq 226, 3) := by decide +kernel
theorem dL_law_1230 : decode cL_law 1230 = .ok (.iconst 0, 1) := by decide +kernel
theorem dL_law_1231 : decode cL_law 1231 = .ok (.ireturn, 1) := by decide +kernel
theorem dL_law_1232 : decode cL_law 1232 = .ok (.aload_n 1, 1) := by decide +kernel
theorem dL_law_1233 : decode cL_law 1233 = .ok (.aload_n 0, 1) := by decide +kernel
theorem dL_law_1234 : decode cL_law 1234 = .ok (.iload_n 3, 1) := by decide +kernel
theorem dL_law_1235 : decode cL_law 1235 = .ok (.iconst 1, 1) := by decide +kernel
theorem dL_law_1236 : decode cL_law 1236 = .ok (.iadd, 1) := by decide +kernel
theorem dL_law_1237 : decode cL_law 1237 = .ok (.iaload, 1) := by decide +kernel
theorem dL_law_1238 : decode cL_law 1238 = .ok (.invokevirtual 147, 3) := by decide +kernel
theorem dL_law_1241 : decode cL_law 1241 = .ok (.aload_n 2, 1) := by decide +kernel
theorem dL_law_1242 : decode cL_law 1242 = .ok (.aload_n 0, 1) := by decide +kernel
theorem dL_law_1243 : decode cL_law 1243 = .ok (.iload_n 3, 1) := by decide +kernel
theorem dL_law_1244 : decode cL_law 1244 = .ok (.iconst 1, 1) := by decide +kernel
theorem dL_law_1245 : decode cL_law 1245 = .ok (.iadd, 1) := by decide +kernel
theorem dL_law_1246 : decode cL_law 1246 = .ok (.iaload, 1) := by decide +kernel
theorem dL_law_1247 : decode cL_law 1247 = .ok (.invokevirtual 150, 3) := by decide +kernel
theorem dL_law_1250 : decode cL_law 1250 = .ok (.if_icmp .eq 203, 3) := by decide +kernel
theorem dL_law_1253 : decode cL_law 1253 = .ok (.iconst 0, 1) := by decide +kernel
theorem dL_law_1254 : decode cL_law 1254 = .ok (.ireturn, 1) := by decide +kernel
theorem dL_law_1255 : decode cL_law 1255 = .ok (.aload_n 1, 1) := by decide +kernel
theorem dL_law_1256 : decode cL_law 1256 = .ok (.aload_n 0, 1) := by decide +kernel
theorem dL_law_1257 : decode cL_law 1257 = .ok (.iload_n 3, 1) := by decide +kernel
theorem dL_law_1258 : decode cL_law 1258 = .ok (.iconst 1, 1) := by decide +kernel
theorem dL_law_1259 : decode cL_law 1259 = .ok (.iadd, 1) := by decide +kernel
theorem dL_law_1260 : decode cL_law 1260 = .ok (.iaload, 1) := by decide +kernel
theorem dL_law_1261 : decode cL_law 1261 = .ok (.invokevirtual 151, 3) := by decide +kernel
theorem dL_law_1264 : decode cL_law 1264 = .ok (.aload_n 2, 1) := by decide +kernel
theorem dL_law_1265 : decode cL_law 1265 = .ok (.aload_n 0, 1) := by decide +kernel
theorem dL_law_1266 : decode cL_law 1266 = .ok (.iload_n 3, 1) := by decide +kernel
theorem dL_law_1267 : decode cL_law 1267 = .ok (.iconst 1, 1) := by decide +kernel
theorem dL_law_1268 : decode cL_law 1268 = .ok (.iadd, 1) := by decide +kernel
theorem dL_law_1269 : decode cL_law 1269 = .ok (.iaload, 1) := by decide +kernel
theorem dL_law_1270 : decode cL_law 1270 = .ok (.invokevirtual 154, 3) := by decide +kernel
theorem dL_law_1273 : decode cL_law 1273 = .ok (.if_icmp .eq 180, 3) := by decide +kernel
theorem dL_law_1276 : decode cL_law 1276 = .ok (.iconst 0, 1) := by decide +kernel
theorem dL_law_1277 : decode cL_law 1277 = .ok (.ireturn, 1) := by decide +kernel
theorem dL_law_1278 : decode cL_law 1278 = .ok (.aload_n 1, 1) := by decide +kernel
theorem dL_law_1279 : decode cL_law 1279 = .ok (.aload_n 0, 1) := by decide +kernel
theorem dL_law_1280 : decode cL_law 1280 = .ok (.iload_n 3, 1) := by decide +kernel
theorem dL_law_1281 : decode cL_law 1281 = .ok (.iconst 1, 1) := by decide +kernel
theorem dL_law_1282 : decode cL_law 1282 = .ok (.iadd, 1) := by decide +kernel
theorem dL_law_1283 : decode cL_law 1283 = .ok (.iaload, 1) := by decide +kernel
theorem dL_law_1284 : decode cL_law 1284 = .ok (.aload_n 0, 1) := by decide +kernel
theorem dL_law_1285 : decode cL_law 1285 = .ok (.iload_n 3, 1) := by decide +kernel
