theorem d_Md_init_1063 : decode prog_14_method_1_code 1063 = .ok (.iastore, 1) := by decide +kernel
theorem d_Md_init_1064 : decode prog_14_method_1_code 1064 = .ok (.dup, 1) := by decide +kernel
theorem d_Md_init_1065 : decode prog_14_method_1_code 1065 = .ok (.bipush 13, 2) := by decide +kernel
theorem d_Md_init_1067 : decode prog_14_method_1_code 1067 = .ok (.iconst 4, 1) := by decide +kernel
theorem d_Md_init_1068 : decode prog_14_method_1_code 1068 = .ok (.iastore, 1) := by decide +kernel
theorem d_Md_init_1069 : decode prog_14_method_1_code 1069 = .ok (.dup, 1) := by decide +kernel
theorem d_Md_init_1070 : decode prog_14_method_1_code 1070 = .ok (.bipush 14, 2) := by decide +kernel
theorem d_Md_init_1072 : decode prog_14_method_1_code 1072 = .ok (.bipush 6, 2) := by decide +kernel
theorem d_Md_init_1074 : decode prog_14_method_1_code 1074 = .ok (.iastore, 1) := by decide +kernel
theorem d_Md_init_1075 : decode prog_14_method_1_code 1075 = .ok (.dup, 1) := by decide +kernel
theorem d_Md_init_1076 : decode prog_14_method_1_code 1076 = .ok (.bipush 15, 2) := by decide +kernel
theorem d_Md_init_1078 : decode prog_14_method_1_code 1078 = .ok (.bipush 6, 2) := by decide +kernel
theorem d_Md_init_1080 : decode prog_14_method_1_code 1080 = .ok (.iastore, 1) := by decide +kernel
theorem d_Md_init_1081 : decode prog_14_method_1_code 1081 = .ok (.dup, 1) := by decide +kernel
theorem d_Md_init_1082 : decode prog_14_method_1_code 1082 = .ok (.bipush 16, 2) := by decide +kernel
theorem d_Md_init_1084 : decode prog_14_method_1_code 1084 = .ok (.bipush 6, 2) := by decide +kernel
theorem d_Md_init_1086 : decode prog_14_method_1_code 1086 = .ok (.iastore, 1) := by decide +kernel
theorem d_Md_init_1087 : decode prog_14_method_1_code 1087 = .ok (.dup, 1) := by decide +kernel
theorem d_Md_init_1088 : decode prog_14_method_1_code 1088 = .ok (.bipush 17, 2) := by decide +kernel
theorem d_Md_init_1090 : decode prog_14_method_1_code 1090 = .ok (.bipush 6, 2) := by decide +kernel
theorem d_Md_init_1092 : decode prog_14_method_1_code 1092 = .ok (.iastore, 1) := by decide +kernel
theorem d_Md_init_1093 : decode prog_14_method_1_code 1093 = .ok (.dup, 1) := by decide +kernel
theorem d_Md_init_1094 : decode prog_14_method_1_code 1094 = .ok (.bipush 18, 2) := by decide +kernel
theorem d_Md_init_1096 : decode prog_14_method_1_code 1096 = .ok (.bipush 7, 2) := by decide +kernel
theorem d_Md_init_1098 : decode prog_14_method_1_code 1098 = .ok (.iastore, 1) := by decide +kernel
theorem d_Md_init_1099 : decode prog_14_method_1_code 1099 = .ok (.dup, 1) := by decide +kernel
theorem d_Md_init_1100 : decode prog_14_method_1_code 1100 = .ok (.bipush 19, 2) := by decide +kernel
theorem d_Md_init_1102 : decode prog_14_method_1_code 1102 = .ok (.bipush 8, 2) := by decide +kernel
theorem d_Md_init_1104 : decode prog_14_method_1_code 1104 = .ok (.iastore, 1) := by decide +kernel
theorem d_Md_init_1105 : decode prog_14_method_1_code 1105 = .ok (.dup, 1) := by decide +kernel
theorem d_Md_init_1106 : decode prog_14_method_1_code 1106 = .ok (.bipush 20, 2) := by decide +kernel
theorem d_Md_init_1108 : decode prog_14_method_1_code 1108 = .ok (.bipush 8, 2) := by decide +kernel
theorem d_Md_init_1110 : decode prog_14_method_1_code 1110 = .ok (.iastore, 1) := by decide +kernel
theorem d_Md_init_1111 : decode prog_14_method_1_code 1111 = .ok (.dup, 1) := by decide +kernel
theorem d_Md_init_1112 : decode prog_14_method_1_code 1112 = .ok (.bipush 21, 2) := by decide +kernel
theorem d_Md_init_1114 : decode prog_14_method_1_code 1114 = .ok (.bipush 9, 2) := by decide +kernel
theorem d_Md_init_1116 : decode prog_14_method_1_code 1116 = .ok (.iastore, 1) := by decide +kernel
theorem d_Md_init_1117 : decode prog_14_method_1_code 1117 = .ok (.dup, 1) := by decide +kernel
theorem d_Md_init_1118 : decode prog_14_method_1_code 1118 = .ok (.bipush 22, 2) := by decide +kernel
theorem d_Md_init_1120 : decode prog_14_method_1_code 1120 = .ok (.bipush 9, 2) := by decide +kernel
theorem d_Md_init_1122 : decode prog_14_method_1_code 1122 = .ok (.iastore, 1) := by decide +kernel
theorem d_Md_init_1123 : decode prog_14_method_1_code 1123 = .ok (.dup, 1) := by decide +kernel
theorem d_Md_init_1124 : decode prog_14_method_1_code 1124 = .ok (.bipush 23, 2) := by decide +kernel
theorem d_Md_init_1126 : decode prog_14_method_1_code 1126 = .ok (.bipush 10, 2) := by decide +kernel
theorem d_Md_init_1128 : decode prog_14_method_1_code 1128 = .ok (.iastore, 1) := by decide +kernel
theorem d_Md_init_1129 : decode prog_14_method_1_code 1129 = .ok (.dup, 1) := by decide +kernel
theorem d_Md_init_1130 : decode prog_14_method_1_code 1130 = .ok (.bipush 24, 2) := by decide +kernel
theorem d_Md_init_1132 : decode prog_14_method_1_code 1132 = .ok (.bipush 12, 2) := by decide +kernel
theorem d_Md_init_1134 : decode prog_14_method_1_code 1134 = .ok (.iastore, 1) := by decide +kernel
theorem d_Md_init_1135 : decode prog_14_method_1_code 1135 = .ok (.dup, 1) := by decide +kernel
theorem d_Md_init_1136 : decode prog_14_method_1_code 1136 = .ok (.bipush 25, 2) := by decide +kernel
theorem d_Md_init_1138 : decode prog_14_method_1_code 1138 = .ok (.bipush 12, 2) := by decide +kernel
theorem d_Md_init_1140 : decode prog_14_method_1_code 1140 = .ok (.iastore, 1) := by decide +kernel
theorem d_Md_init_1141 : decode prog_14_method_1_code 1141 = .ok (.dup, 1) := by decide +kernel
theorem d_Md_init_1142 : decode prog_14_method_1_code 1142 = .ok (.bipush 26, 2) := by decide +kernel
theorem d_Md_init_1144 : decode prog_14_method_1_code 1144 = .ok (.bipush 12, 2) := by decide +kernel
theorem d_Md_init_1146 : decode prog_14_method_1_code 1146 = .ok (.iastore, 1) := by decide +kernel
theorem d_Md_init_1147 : decode prog_14_method_1_code 1147 = .ok (.dup, 1) := by decide +kernel
theorem d_Md_init_1148 : decode prog_14_method_1_code 1148 = .ok (.bipush 27, 2) := by decide +kernel
theorem d_Md_init_1150 : decode prog_14_method_1_code 1150 = .ok (.bipush 13, 2) := by decide +kernel
theorem d_Md_init_1152 : decode prog_14_method_1_code 1152 = .ok (.iastore, 1) := by decide +kernel
theorem d_Md_init_1153 : decode prog_14_method_1_code 1153 = .ok (.dup, 1) := by decide +kernel
theorem d_Md_init_1154 : decode prog_14_method_1_code 1154 = .ok (.bipush 28, 2) := by decide +kernel
theorem d_Md_init_1156 : decode prog_14_method_1_code 1156 = .ok (.bipush 14, 2) := by decide +kernel
theorem d_Md_init_1158 : decode prog_14_method_1_code 1158 = .ok (.iastore, 1) := by decide +kernel
theorem d_Md_init_1159 : decode prog_14_method_1_code 1159 = .ok (.dup, 1) := by decide +kernel
theorem d_Md_init_1160 : decode prog_14_method_1_code 1160 = .ok (.bipush 29, 2) := by decide +kernel
theorem d_Md_init_1162 : decode prog_14_method_1_code 1162 = .ok (.bipush 15, 2) := by decide +kernel
theorem d_Md_init_1164 : decode prog_14_method_1_code 1164 = .ok (.iastore, 1) := by decide +kernel
theorem d_Md_init_1165 : decode prog_14_method_1_code 1165 = .ok (.dup, 1) := by decide +kernel
theorem d_Md_init_1166 : decode prog_14_method_1_code 1166 = .ok (.bipush 30, 2) := by decide +kernel
theorem d_Md_init_1168 : decode prog_14_method_1_code 1168 = .ok (.bipush 16, 2) := by decide +kernel
theorem d_Md_init_1170 : decode prog_14_method_1_code 1170 = .ok (.iastore, 1) := by decide +kernel
theorem d_Md_init_1171 : decode prog_14_method_1_code 1171 = .ok (.dup, 1) := by decide +kernel
theorem d_Md_init_1172 : decode prog_14_method_1_code 1172 = .ok (.bipush 31, 2) := by decide +kernel
theorem d_Md_init_1174 : decode prog_14_method_1_code 1174 = .ok (.bipush 17, 2) := by decide +kernel
theorem d_Md_init_1176 : decode prog_14_method_1_code 1176 = .ok (.iastore, 1) := by decide +kernel
theorem d_Md_init_1177 : decode prog_14_method_1_code 1177 = .ok (.dup, 1) := by decide +kernel
theorem d_Md_init_1178 : decode prog_14_method_1_code 1178 = .ok (.bipush 32, 2) := by decide +kernel
theorem d_Md_init_1180 : decode prog_14_method_1_code 1180 = .ok (.bipush 18, 2) := by decide +kernel
theorem d_Md_init_1182 : decode prog_14_method_1_code 1182 = .ok (.iastore, 1) := by decide +kernel
theorem d_Md_init_1183 : decode prog_14_method_1_code 1183 = .ok (.dup, 1) := by decide +kernel
theorem d_Md_init_1184 : decode prog_14_method_1_code 1184 = .ok (.bipush 33, 2) := by decide +kernel
theorem d_Md_init_1186 : decode prog_14_method_1_code 1186 = .ok (.bipush 19, 2) := by decide +kernel
theorem d_Md_init_1188 : decode prog_14_method_1_code 1188 = .ok (.iastore, 1) := by decide +kernel
theorem d_Md_init_1189 : decode prog_14_method_1_code 1189 = .ok (.dup, 1) := by decide +kernel
theorem d_Md_init_1190 : decode prog_14_method_1_code 1190 = .ok (.bipush 34, 2) := by decide +kernel
theorem d_Md_init_1192 : decode prog_14_method_1_code 1192 = .ok (.bipush 19, 2) := by decide +kernel
theorem d_Md_init_1194 : decode prog_14_method_1_code 1194 = .ok (.iastore, 1) := by decide +kernel
theorem d_Md_init_1195 : decode prog_14_method_1_code 1195 = .ok (.dup, 1) := by decide +kernel
theorem d_Md_init_1196 : decode prog_14_method_1_code 1196 = .ok (.bipush 35, 2) := by decide +kernel
theorem d_Md_init_1198 : decode prog_14_method_1_code 1198 = .ok (.bipush 20, 2) := by decide +kernel
theorem d_Md_init_1200 : decode prog_14_method_1_code 1200 = .ok (.iastore, 1) := by decide +kernel
theorem d_Md_init_1201 : decode prog_14_method_1_code 1201 = .ok (.dup, 1) := by decide +kernel
theorem d_Md_init_1202 : decode prog_14_method_1_code 1202 = .ok (.bipush 36, 2) := by decide +kernel
theorem d_Md_init_1204 : decode prog_14_method_1_code 1204 = .ok (.bipush 21, 2) := by decide +kernel
theorem d_Md_init_1206 : decode prog_14_method_1_code 1206 = .ok (.iastore, 1) := by decide +kernel
theorem d_Md_init_1207 : decode prog_14_method_1_code 1207 = .ok (.dup, 1) := by decide +kernel
theorem d_Md_init_1208 : decode prog_14_method_1_code 1208 = .ok (.bipush 37, 2) := by decide +kernel
theorem d_Md_init_1210 : decode prog_14_method_1_code 1210 = .ok (.bipush 22, 2) := by decide +kernel
theorem d_Md_init_1212 : decode prog_14_method_1_code 1212 = .ok (.iastore, 1) := by decide +kernel
theorem d_Md_init_1213 : decode prog_14_method_1_code 1213 = .ok (.dup, 1) := by decide +kernel
theorem d_Md_init_1214 : decode prog_14_method_1_code 1214 = .ok (.bipush 38, 2) := by decide +kernel
theorem d_Md_init_1216 : decode prog_14_method_1_code 1216 = .ok (.bipush 24, 2) := by decide +kernel
theorem d_Md_init_1218 : decode prog_14_method_1_code 1218 = .ok (.iastore, 1) := by decide +kernel
theorem d_Md_init_1219 : decode prog_14_method_1_code 1219 = .ok (.dup, 1) := by decide +kernel
theorem d_Md_init_1220 : decode prog_14_method_1_code 1220 = .ok (.bipush 39, 2) := by decide +kernel
theorem d_Md_init_1222 : decode prog_14_method_1_code 1222 = .ok (.bipush 25, 2) := by decide +kernel
theorem d_Md_init_1224 : decode prog_14_method_1_code 1224 = .ok (.iastore, 1) := by decide +kernel
theorem d_Md_init_1225 : decode prog_14_method_1_code 1225 = .ok (.dup, 1) := by decide +kernel
theorem d_Md_init_1226 : decode prog_14_method_1_code 1226 = .ok (.bipush 40, 2) := by decide +kernel
theorem d_Md_init_1228 : decode prog_14_method_1_code 1228 = .ok (.iconst 1, 1) := by decide +kernel
theorem d_Md_init_1229 : decode prog_14_method_1_code 1229 = .ok (.iastore, 1) := by decide +kernel
theorem d_Md_init_1230 : decode prog_14_method_1_code 1230 = .ok (.dup, 1) := by decide +kernel
theorem d_Md_init_1231 : decode prog_14_method_1_code 1231 = .ok (.bipush 41, 2) := by decide +kernel
theorem d_Md_init_1233 : decode prog_14_method_1_code 1233 = .ok (.iconst 1, 1) := by decide +kernel
theorem d_Md_init_1234 : decode prog_14_method_1_code 1234 = .ok (.iastore, 1) := by decide +kernel
theorem d_Md_init_1235 : decode prog_14_method_1_code 1235 = .ok (.dup, 1) := by decide +kernel
theorem d_Md_init_1236 : decode prog_14_method_1_code 1236 = .ok (.bipush 42, 2) := by decide +kernel
theorem d_Md_init_1238 : decode prog_14_method_1_code 1238 = .ok (.iconst 1, 1) := by decide +kernel
theorem d_Md_init_1239 : decode prog_14_method_1_code 1239 = .ok (.iastore, 1) := by decide +kernel
theorem d_Md_init_1240 : decode prog_14_method_1_code 1240 = .ok (.dup, 1) := by decide +kernel
theorem d_Md_init_1241 : decode prog_14_method_1_code 1241 = .ok (.bipush 43, 2) := by decide +kernel
theorem d_Md_init_1243 : decode prog_14_method_1_code 1243 = .ok (.iconst 2, 1) := by decide +kernel
theorem d_Md_init_1244 : decode prog_14_method_1_code 1244 = .ok (.iastore, 1) := by decide +kernel
theorem d_Md_init_1245 : decode prog_14_method_1_code 1245 = .ok (.dup, 1) := by decide +kernel
theorem d_Md_init_1246 : decode prog_14_method_1_code 1246 = .ok (.bipush 44, 2) := by decide +kernel
theorem d_Md_init_1248 : decode prog_14_method_1_code 1248 = .ok (.iconst 2, 1) := by decide +kernel
theorem d_Md_init_1249 : decode prog_14_method_1_code 1249 = .ok (.iastore, 1) := by decide +kernel
theorem d_Md_init_1250 : decode prog_14_method_1_code 1250 = .ok (.dup, 1) := by decide +kernel
theorem d_Md_init_1251 : decode prog_14_method_1_code 1251 = .ok (.bipush 45, 2) := by decide +kernel
theorem d_Md_init_1253 : decode prog_14_method_1_code 1253 = .ok (.iconst 4, 1) := by decide +kernel
theorem d_Md_init_1254 : decode prog_14_method_1_code 1254 = .ok (.iastore, 1) := by decide +kernel
theorem d_Md_init_1255 : decode prog_14_method_1_code 1255 = .ok (.dup, 1) := by decide +kernel
theorem d_Md_init_1256 : decode prog_14_method_1_code 1256 = .ok (.bipush 46, 2) := by decide +kernel
theorem d_Md_init_1258 : decode prog_14_method_1_code 1258 = .ok (.iconst 4, 1) := by decide +kernel
theorem d_Md_init_1259 : decode prog_14_method_1_code 1259 = .ok (.iastore, 1) := by decide +kernel
theorem d_Md_init_1260 : decode prog_14_method_1_code 1260 = .ok (.dup, 1) := by decide +kernel
theorem d_Md_init_1261 : decode prog_14_method_1_code 1261 = .ok (.bipush 47, 2) := by decide +kernel
theorem d_Md_init_1263 : decode prog_14_method_1_code 1263 = .ok (.iconst 4, 1) := by decide +kernel
theorem d_Md_init_1264 : decode prog_14_method_1_code 1264 = .ok (.iastore, 1) := by decide +kernel
theorem d_Md_init_1265 : decode prog_14_method_1_code 1265 = .ok (.dup, 1) := by decide +kernel
theorem d_Md_init_1266 : decode prog_14_method_1_code 1266 = .ok (.bipush 48, 2) := by decide +kernel
theorem d_Md_init_1268 : decode prog_14_method_1_code 1268 = .ok (.iconst 5, 1) := by decide +kernel
theorem d_Md_init_1269 : decode prog_14_method_1_code 1269 = .ok (.iastore, 1) := by decide +kernel
theorem d_Md_init_1270 : decode prog_14_method_1_code 1270 = .ok (.dup, 1) := by decide +kernel
theorem d_Md_init_1271 : decode prog_14_method_1_code 1271 = .ok (.bipush 49, 2) := by decide +kernel
theorem d_Md_init_1273 : decode prog_14_method_1_code 1273 = .ok (.iconst 5, 1) := by decide +kernel
theorem d_Md_init_1274 : decode prog_14_method_1_code 1274 = .ok (.iastore, 1) := by decide +kernel
theorem d_Md_init_1275 : decode prog_14_method_1_code 1275 = .ok (.dup, 1) := by decide +kernel
theorem d_Md_init_1276 : decode prog_14_method_1_code 1276 = .ok (.bipush 50, 2) := by decide +kernel
theorem d_Md_init_1278 : decode prog_14_method_1_code 1278 = .ok (.iconst 5, 1) := by decide +kernel
theorem d_Md_init_1279 : decode prog_14_method_1_code 1279 = .ok (.iastore, 1) := by decide +kernel
theorem d_Md_init_1280 : decode prog_14_method_1_code 1280 = .ok (.dup, 1) := by decide +kernel
theorem d_Md_init_1281 : decode prog_14_method_1_code 1281 = .ok (.bipush 51, 2) := by decide +kernel
theorem d_Md_init_1283 : decode prog_14_method_1_code 1283 = .ok (.bipush 8, 2) := by decide +kernel
theorem d_Md_init_1285 : decode prog_14_method_1_code 1285 = .ok (.iastore, 1) := by decide +kernel
theorem d_Md_init_1286 : decode prog_14_method_1_code 1286 = .ok (.dup, 1) := by decide +kernel
theorem d_Md_init_1287 : decode prog_14_method_1_code 1287 = .ok (.bipush 52, 2) := by decide +kernel
theorem d_Md_init_1289 : decode prog_14_method_1_code 1289 = .ok (.bipush 9, 2) := by decide +kernel
theorem d_Md_init_1291 : decode prog_14_method_1_code 1291 = .ok (.iastore, 1) := by decide +kernel
theorem d_Md_init_1292 : decode prog_14_method_1_code 1292 = .ok (.dup, 1) := by decide +kernel
theorem d_Md_init_1293 : decode prog_14_method_1_code 1293 = .ok (.bipush 53, 2) := by decide +kernel
theorem d_Md_init_1295 : decode prog_14_method_1_code 1295 = .ok (.bipush 9, 2) := by decide +kernel
theorem d_Md_init_1297 : decode prog_14_method_1_code 1297 = .ok (.iastore, 1) := by decide +kernel
theorem d_Md_init_1298 : decode prog_14_method_1_code 1298 = .ok (.dup, 1) := by decide +kernel
theorem d_Md_init_1299 : decode prog_14_method_1_code 1299 = .ok (.bipush 54, 2) := by decide +kernel
theorem d_Md_init_1301 : decode prog_14_method_1_code 1301 = .ok (.bipush 10, 2) := by decide +kernel
theorem d_Md_init_1303 : decode prog_14_method_1_code 1303 = .ok (.iastore, 1) := by decide +kernel
theorem d_Md_init_1304 : decode prog_14_method_1_code 1304 = .ok (.dup, 1) := by decide +kernel
theorem d_Md_init_1305 : decode prog_14_method_1_code 1305 = .ok (.bipush 55, 2) := by decide +kernel
theorem d_Md_init_1307 : decode prog_14_method_1_code 1307 = .ok (.bipush 10, 2) := by decide +kernel
theorem d_Md_init_1309 : decode prog_14_method_1_code 1309 = .ok (.iastore, 1) := by decide +kernel
theorem d_Md_init_1310 : decode prog_14_method_1_code 1310 = .ok (.dup, 1) := by decide +kernel
theorem d_Md_init_1311 : decode prog_14_method_1_code 1311 = .ok (.bipush 56, 2) := by decide +kernel
theorem d_Md_init_1313 : decode prog_14_method_1_code 1313 = .ok (.bipush 11, 2) := by decide +kernel
theorem d_Md_init_1315 : decode prog_14_method_1_code 1315 = .ok (.iastore, 1) := by decide +kernel
theorem d_Md_init_1316 : decode prog_14_method_1_code 1316 = .ok (.dup, 1) := by decide +kernel
theorem d_Md_init_1317 : decode prog_14_method_1_code 1317 = .ok (.bipush 57, 2) := by decide +kernel
theorem d_Md_init_1319 : decode prog_14_method_1_code 1319 = .ok (.bipush 13, 2) := by decide +kernel
theorem d_Md_init_1321 : decode prog_14_method_1_code 1321 = .ok (.iastore, 1) := by decide +kernel
theorem d_Md_init_1322 : decode prog_14_method_1_code 1322 = .ok (.dup, 1) := by decide +kernel
theorem d_Md_init_1323 : decode prog_14_method_1_code 1323 = .ok (.bipush 58, 2) := by decide +kernel
theorem d_Md_init_1325 : decode prog_14_method_1_code 1325 = .ok (.bipush 14, 2) := by decide +kernel
theorem d_Md_init_1327 : decode prog_14_method_1_code 1327 = .ok (.iastore, 1) := by decide +kernel
theorem d_Md_init_1328 : decode prog_14_method_1_code 1328 = .ok (.dup, 1) := by decide +kernel
theorem d_Md_init_1329 : decode prog_14_method_1_code 1329 = .ok (.bipush 59, 2) := by decide +kernel
theorem d_Md_init_1331 : decode prog_14_method_1_code 1331 = .ok (.bipush 16, 2) := by decide +kernel
theorem d_Md_init_1333 : decode prog_14_method_1_code 1333 = .ok (.iastore, 1) := by decide +kernel
theorem d_Md_init_1334 : decode prog_14_method_1_code 1334 = .ok (.dup, 1) := by decide +kernel
theorem d_Md_init_1335 : decode prog_14_method_1_code 1335 = .ok (.bipush 60, 2) := by decide +kernel
theorem d_Md_init_1337 : decode prog_14_method_1_code 1337 = .ok (.bipush 17, 2) := by decide +kernel
theorem d_Md_init_1339 : decode prog_14_method_1_code 1339 = .ok (.iastore, 1) := by decide +kernel
theorem d_Md_init_1340 : decode prog_14_method_1_code 1340 = .ok (.dup, 1) := by decide +kernel
theorem d_Md_init_1341 : decode prog_14_method_1_code 1341 = .ok (.bipush 61, 2) := by decide +kernel
theorem d_Md_init_1343 : decode prog_14_method_1_code 1343 = .ok (.bipush 17, 2) := by decide +kernel
theorem d_Md_init_1345 : decode prog_14_method_1_code 1345 = .ok (.iastore, 1) := by decide +kernel
theorem d_Md_init_1346 : decode prog_14_method_1_code 1346 = .ok (.dup, 1) := by decide +kernel
theorem d_Md_init_1347 : decode prog_14_method_1_code 1347 = .ok (.bipush 62, 2) := by decide +kernel
theorem d_Md_init_1349 : decode prog_14_method_1_code 1349 = .ok (.bipush 18, 2) := by decide +kernel
theorem d_Md_init_1351 : decode prog_14_method_1_code 1351 = .ok (.iastore, 1) := by decide +kernel
theorem d_Md_init_1352 : decode prog_14_method_1_code 1352 = .ok (.dup, 1) := by decide +kernel
theorem d_Md_init_1353 : decode prog_14_method_1_code 1353 = .ok (.bipush 63, 2) := by decide +kernel
theorem d_Md_init_1355 : decode prog_14_method_1_code 1355 = .ok (.bipush 20, 2) := by decide +kernel
theorem d_Md_init_1357 : decode prog_14_method_1_code 1357 = .ok (.iastore, 1) := by decide +kernel
theorem d_Md_init_1358 : decode prog_14_method_1_code 1358 = .ok (.dup, 1) := by decide +kernel
theorem d_Md_init_1359 : decode prog_14_method_1_code 1359 = .ok (.bipush 64, 2) := by decide +kernel
theorem d_Md_init_1361 : decode prog_14_method_1_code 1361 = .ok (.bipush 21, 2) := by decide +kernel
theorem d_Md_init_1363 : decode prog_14_method_1_code 1363 = .ok (.iastore, 1) := by decide +kernel
theorem d_Md_init_1364 : decode prog_14_method_1_code 1364 = .ok (.dup, 1) := by decide +kernel
theorem d_Md_init_1365 : decode prog_14_method_1_code 1365 = .ok (.bipush 65, 2) := by decide +kernel
theorem d_Md_init_1367 : decode prog_14_method_1_code 1367 = .ok (.bipush 23, 2) := by decide +kernel
theorem d_Md_init_1369 : decode prog_14_method_1_code 1369 = .ok (.iastore, 1) := by decide +kernel
theorem d_Md_init_1370 : decode prog_14_method_1_code 1370 = .ok (.dup, 1) := by decide +kernel
theorem d_Md_init_1371 : decode prog_14_method_1_code 1371 = .ok (.bipush 66, 2) := by decide +kernel
theorem d_Md_init_1373 : decode prog_14_method_1_code 1373 = .ok (.bipush 25, 2) := by decide +kernel
theorem d_Md_init_1375 : decode prog_14_method_1_code 1375 = .ok (.iastore, 1) := by decide +kernel
theorem d_Md_init_1376 : decode prog_14_method_1_code 1376 = .ok (.dup, 1) := by decide +kernel
theorem d_Md_init_1377 : decode prog_14_method_1_code 1377 = .ok (.bipush 67, 2) := by decide +kernel
theorem d_Md_init_1379 : decode prog_14_method_1_code 1379 = .ok (.bipush 26, 2) := by decide +kernel
theorem d_Md_init_1381 : decode prog_14_method_1_code 1381 = .ok (.iastore, 1) := by decide +kernel
theorem d_Md_init_1382 : decode prog_14_method_1_code 1382 = .ok (.dup, 1) := by decide +kernel
theorem d_Md_init_1383 : decode prog_14_method_1_code 1383 = .ok (.bipush 68, 2) := by decide +kernel
theorem d_Md_init_1385 : decode prog_14_method_1_code 1385 = .ok (.bipush 28, 2) := by decide +kernel
theorem d_Md_init_1387 : decode prog_14_method_1_code 1387 = .ok (.iastore, 1) := by decide +kernel
theorem d_Md_init_1388 : decode prog_14_method_1_code 1388 = .ok (.dup, 1) := by decide +kernel
theorem d_Md_init_1389 : decode prog_14_method_1_code 1389 = .ok (.bipush 69, 2) := by decide +kernel
theorem d_Md_init_1391 : decode prog_14_method_1_code 1391 = .ok (.bipush 29, 2) := by decide +kernel
theorem d_Md_init_1393 : decode prog_14_method_1_code 1393 = .ok (.iastore, 1) := by decide +kernel
theorem d_Md_init_1394 : decode prog_14_method_1_code 1394 = .ok (.dup, 1) := by decide +kernel
theorem d_Md_init_1395 : decode prog_14_method_1_code 1395 = .ok (.bipush 70, 2) := by decide +kernel
theorem d_Md_init_1397 : decode prog_14_method_1_code 1397 = .ok (.bipush 31, 2) := by decide +kernel
theorem d_Md_init_1399 : decode prog_14_method_1_code 1399 = .ok (.iastore, 1) := by decide +kernel
theorem d_Md_init_1400 : decode prog_14_method_1_code 1400 = .ok (.dup, 1) := by decide +kernel
theorem d_Md_init_1401 : decode prog_14_method_1_code 1401 = .ok (.bipush 71, 2) := by decide +kernel
theorem d_Md_init_1403 : decode prog_14_method_1_code 1403 = .ok (.bipush 33, 2) := by decide +kernel
theorem d_Md_init_1405 : decode prog_14_method_1_code 1405 = .ok (.iastore, 1) := by decide +kernel
theorem d_Md_init_1406 : decode prog_14_method_1_code 1406 = .ok (.dup, 1) := by decide +kernel
theorem d_Md_init_1407 : decode prog_14_method_1_code 1407 = .ok (.bipush 72, 2) := by decide +kernel
theorem d_Md_init_1409 : decode prog_14_method_1_code 1409 = .ok (.bipush 35, 2) := by decide +kernel
theorem d_Md_init_1411 : decode prog_14_method_1_code 1411 = .ok (.iastore, 1) := by decide +kernel
theorem d_Md_init_1412 : decode prog_14_method_1_code 1412 = .ok (.dup, 1) := by decide +kernel
theorem d_Md_init_1413 : decode prog_14_method_1_code 1413 = .ok (.bipush 73, 2) := by decide +kernel
theorem d_Md_init_1415 : decode prog_14_method_1_code 1415 = .ok (.bipush 37, 2) := by decide +kernel
theorem d_Md_init_1417 : decode prog_14_method_1_code 1417 = .ok (.iastore, 1) := by decide +kernel
theorem d_Md_init_1418 : decode prog_14_method_1_code 1418 = .ok (.dup, 1) := by decide +kernel
theorem d_Md_init_1419 : decode prog_14_method_1_code 1419 = .ok (.bipush 74, 2) := by decide +kernel
theorem d_Md_init_1421 : decode prog_14_method_1_code 1421 = .ok (.bipush 38, 2) := by decide +kernel
theorem d_Md_init_1423 : decode prog_14_method_1_code 1423 = .ok (.iastore, 1) := by decide +kernel
theorem d_Md_init_1424 : decode prog_14_method_1_code 1424 = .ok (.dup, 1) := by decide +kernel
theorem d_Md_init_1425 : decode prog_14_method_1_code 1425 = .ok (.bipush 75, 2) := by decide +kernel
theorem d_Md_init_1427 : decode prog_14_method_1_code 1427 = .ok (.bipush 40, 2) := by decide +kernel
theorem d_Md_init_1429 : decode prog_14_method_1_code 1429 = .ok (.iastore, 1) := by decide +kernel
theorem d_Md_init_1430 : decode prog_14_method_1_code 1430 = .ok (.dup, 1) := by decide +kernel
theorem d_Md_init_1431 : decode prog_14_method_1_code 1431 = .ok (.bipush 76, 2) := by decide +kernel
theorem d_Md_init_1433 : decode prog_14_method_1_code 1433 = .ok (.bipush 43, 2) := by decide +kernel
theorem d_Md_init_1435 : decode prog_14_method_1_code 1435 = .ok (.iastore, 1) := by decide +kernel
theorem d_Md_init_1436 : decode prog_14_method_1_code 1436 = .ok (.dup, 1) := by decide +kernel
theorem d_Md_init_1437 : decode prog_14_method_1_code 1437 = .ok (.bipush 77, 2) := by decide +kernel
theorem d_Md_init_1439 : decode prog_14_method_1_code 1439 = .ok (.bipush 45, 2) := by decide +kernel
theorem d_Md_init_1441 : decode prog_14_method_1_code 1441 = .ok (.iastore, 1) := by decide +kernel
theorem d_Md_init_1442 : decode prog_14_method_1_code 1442 = .ok (.dup, 1) := by decide +kernel
theorem d_Md_init_1443 : decode prog_14_method_1_code 1443 = .ok (.bipush 78, 2) := by decide +kernel
theorem d_Md_init_1445 : decode prog_14_method_1_code 1445 = .ok (.bipush 47, 2) := by decide +kernel
theorem d_Md_init_1447 : decode prog_14_method_1_code 1447 = .ok (.iastore, 1) := by decide +kernel
theorem d_Md_init_1448 : decode prog_14_method_1_code 1448 = .ok (.dup, 1) := by decide +kernel
theorem d_Md_init_1449 : decode prog_14_method_1_code 1449 = .ok (.bipush 79, 2) := by decide +kernel
theorem d_Md_init_1451 : decode prog_14_method_1_code 1451 = .ok (.bipush 49, 2) := by decide +kernel
theorem d_Md_init_1453 : decode prog_14_method_1_code 1453 = .ok (.iastore, 1) := by decide +kernel
theorem d_Md_init_1454 : decode prog_14_method_1_code 1454 = .ok (.dup, 1) := by decide +kernel
theorem d_Md_init_1455 : decode prog_14_method_1_code 1455 = .ok (.bipush 80, 2) := by decide +kernel
theorem d_Md_init_1457 : decode prog_14_method_1_code 1457 = .ok (.iconst 1, 1) := by decide +kernel
theorem d_Md_init_1458 : decode prog_14_method_1_code 1458 = .ok (.iastore, 1) := by decide +kernel
theorem d_Md_init_1459 : decode prog_14_method_1_code 1459 = .ok (.dup, 1) := by decide +kernel
theorem d_Md_init_1460 : decode prog_14_method_1_code 1460 = .ok (.bipush 81, 2) := by decide +kernel
theorem d_Md_init_1462 : decode prog_14_method_1_code 1462 = .ok (.iconst 1, 1) := by decide +kernel
theorem d_Md_init_1463 : decode prog_14_method_1_code 1463 = .ok (.iastore, 1) := by decide +kernel
theorem d_Md_init_1464 : decode prog_14_method_1_code 1464 = .ok (.dup, 1) := by decide +kernel
theorem d_Md_init_1465 : decode prog_14_method_1_code 1465 = .ok (.bipush 82, 2) := by decide +kernel
theorem d_Md_init_1467 : decode prog_14_method_1_code 1467 = .ok (.iconst 2, 1) := by decide +kernel
theorem d_Md_init_1468 : decode prog_14_method_1_code 1468 = .ok (.iastore, 1) := by decide +kernel
theorem d_Md_init_1469 : decode prog_14_method_1_code 1469 = .ok (.dup, 1) := by decide +kernel
theorem d_Md_init_1470 : decode prog_14_method_1_code 1470 = .ok (.bipush 83, 2) := by decide +kernel
theorem d_Md_init_1472 : decode prog_14_method_1_code 1472 = .ok (.iconst 2, 1) := by decide +kernel
theorem d_Md_init_1473 : decode prog_14_method_1_code 1473 = .ok (.iastore, 1) := by decide +kernel
theorem d_Md_init_1474 : decode prog_14_method_1_code 1474 = .ok (.dup, 1) := by decide +kernel
theorem d_Md_init_1475 : decode prog_14_method_1_code 1475 = .ok (.bipush 84, 2) := by decide +kernel
theorem d_Md_init_1477 : decode prog_14_method_1_code 1477 = .ok (.iconst 4, 1) := by decide +kernel
theorem d_Md_init_1478 : decode prog_14_method_1_code 1478 = .ok (.iastore, 1) := by decide +kernel
theorem d_Md_init_1479 : decode prog_14_method_1_code 1479 = .ok (.dup, 1) := by decide +kernel
theorem d_Md_init_1480 : decode prog_14_method_1_code 1480 = .ok (.bipush 85, 2) := by decide +kernel
theorem d_Md_init_1482 : decode prog_14_method_1_code 1482 = .ok (.iconst 4, 1) := by decide +kernel
theorem d_Md_init_1483 : decode prog_14_method_1_code 1483 = .ok (.iastore, 1) := by decide +kernel
theorem d_Md_init_1484 : decode prog_14_method_1_code 1484 = .ok (.dup, 1) := by decide +kernel
theorem d_Md_init_1485 : decode prog_14_method_1_code 1485 = .ok (.bipush 86, 2) := by decide +kernel
theorem d_Md_init_1487 : decode prog_14_method_1_code 1487 = .ok (.bipush 6, 2) := by decide +kernel
theorem d_Md_init_1489 : decode prog_14_method_1_code 1489 = .ok (.iastore, 1) := by decide +kernel
theorem d_Md_init_1490 : decode prog_14_method_1_code 1490 = .ok (.dup, 1) := by decide +kernel
theorem d_Md_init_1491 : decode prog_14_method_1_code 1491 = .ok (.bipush 87, 2) := by decide +kernel
theorem d_Md_init_1493 : decode prog_14_method_1_code 1493 = .ok (.bipush 6, 2) := by decide +kernel
theorem d_Md_init_1495 : decode prog_14_method_1_code 1495 = .ok (.iastore, 1) := by decide +kernel
theorem d_Md_init_1496 : decode prog_14_method_1_code 1496 = .ok (.dup, 1) := by decide +kernel
theorem d_Md_init_1497 : decode prog_14_method_1_code 1497 = .ok (.bipush 88, 2) := by decide +kernel
theorem d_Md_init_1499 : decode prog_14_method_1_code 1499 = .ok (.bipush 8, 2) := by decide +kernel
theorem d_Md_init_1501 : decode prog_14_method_1_code 1501 = .ok (.iastore, 1) := by decide +kernel
theorem d_Md_init_1502 : decode prog_14_method_1_code 1502 = .ok (.dup, 1) := by decide +kernel
theorem d_Md_init_1503 : decode prog_14_method_1_code 1503 = .ok (.bipush 89, 2) := by decide +kernel
theorem d_Md_init_1505 : decode prog_14_method_1_code 1505 = .ok (.bipush 8, 2) := by decide +kernel
theorem d_Md_init_1507 : decode prog_14_method_1_code 1507 = .ok (.iastore, 1) := by decide +kernel
theorem d_Md_init_1508 : decode prog_14_method_1_code 1508 = .ok (.dup, 1) := by decide +kernel
theorem d_Md_init_1509 : decode prog_14_method_1_code 1509 = .ok (.bipush 90, 2) := by decide +kernel
theorem d_Md_init_1511 : decode prog_14_method_1_code 1511 = .ok (.bipush 8, 2) := by decide +kernel
theorem d_Md_init_1513 : decode prog_14_method_1_code 1513 = .ok (.iastore, 1) := by decide +kernel
theorem d_Md_init_1514 : decode prog_14_method_1_code 1514 = .ok (.dup, 1) := by decide +kernel
theorem d_Md_init_1515 : decode prog_14_method_1_code 1515 = .ok (.bipush 91, 2) := by decide +kernel
theorem d_Md_init_1517 : decode prog_14_method_1_code 1517 = .ok (.bipush 10, 2) := by decide +kernel
theorem d_Md_init_1519 : decode prog_14_method_1_code 1519 = .ok (.iastore, 1) := by decide +kernel
theorem d_Md_init_1520 : decode prog_14_method_1_code 1520 = .ok (.dup, 1) := by decide +kernel
theorem d_Md_init_1521 : decode prog_14_method_1_code 1521 = .ok (.bipush 92, 2) := by decide +kernel
theorem d_Md_init_1523 : decode prog_14_method_1_code 1523 = .ok (.bipush 12, 2) := by decide +kernel
theorem d_Md_init_1525 : decode prog_14_method_1_code 1525 = .ok (.iastore, 1) := by decide +kernel
theorem d_Md_init_1526 : decode prog_14_method_1_code 1526 = .ok (.dup, 1) := by decide +kernel
theorem d_Md_init_1527 : decode prog_14_method_1_code 1527 = .ok (.bipush 93, 2) := by decide +kernel
theorem d_Md_init_1529 : decode prog_14_method_1_code 1529 = .ok (.bipush 16, 2) := by decide +kernel
theorem d_Md_init_1531 : decode prog_14_method_1_code 1531 = .ok (.iastore, 1) := by decide +kernel
theorem d_Md_init_1532 : decode prog_14_method_1_code 1532 = .ok (.dup, 1) := by decide +kernel
theorem d_Md_init_1533 : decode prog_14_method_1_code 1533 = .ok (.bipush 94, 2) := by decide +kernel
theorem d_Md_init_1535 : decode prog_14_method_1_code 1535 = .ok (.bipush 12, 2) := by decide +kernel
theorem d_Md_init_1537 : decode prog_14_method_1_code 1537 = .ok (.iastore, 1) := by decide +kernel
theorem d_Md_init_1538 : decode prog_14_method_1_code 1538 = .ok (.dup, 1) := by decide +kernel
theorem d_Md_init_1539 : decode prog_14_method_1_code 1539 = .ok (.bipush 95, 2) := by decide +kernel
theorem d_Md_init_1541 : decode prog_14_method_1_code 1541 = .ok (.bipush 17, 2) := by decide +kernel
theorem d_Md_init_1543 : decode prog_14_method_1_code 1543 = .ok (.iastore, 1) := by decide +kernel
theorem d_Md_init_1544 : decode prog_14_method_1_code 1544 = .ok (.dup, 1) := by decide +kernel
theorem d_Md_init_1545 : decode prog_14_method_1_code 1545 = .ok (.bipush 96, 2) := by decide +kernel
theorem d_Md_init_1547 : decode prog_14_method_1_code 1547 = .ok (.bipush 16, 2) := by decide +kernel
theorem d_Md_init_1549 : decode prog_14_method_1_code 1549 = .ok (.iastore, 1) := by decide +kernel
theorem d_Md_init_1550 : decode prog_14_method_1_code 1550 = .ok (.dup, 1) := by decide +kernel
theorem d_Md_init_1551 : decode prog_14_method_1_code 1551 = .ok (.bipush 97, 2) := by decide +kernel
theorem d_Md_init_1553 : decode prog_14_method_1_code 1553 = .ok (.bipush 18, 2) := by decide +kernel
theorem d_Md_init_1555 : decode prog_14_method_1_code 1555 = .ok (.iastore, 1) := by decide +kernel
theorem d_Md_init_1556 : decode prog_14_method_1_code 1556 = .ok (.dup, 1) := by decide +kernel
theorem d_Md_init_1557 : decode prog_14_method_1_code 1557 = .ok (.bipush 98, 2) := by decide +kernel
theorem d_Md_init_1559 : decode prog_14_method_1_code 1559 = .ok (.bipush 21, 2) := by decide +kernel
theorem d_Md_init_1561 : decode prog_14_method_1_code 1561 = .ok (.iastore, 1) := by decide +kernel
theorem d_Md_init_1562 : decode prog_14_method_1_code 1562 = .ok (.dup, 1) := by decide +kernel
theorem d_Md_init_1563 : decode prog_14_method_1_code 1563 = .ok (.bipush 99, 2) := by decide +kernel
theorem d_Md_init_1565 : decode prog_14_method_1_code 1565 = .ok (.bipush 20, 2) := by decide +kernel
theorem d_Md_init_1567 : decode prog_14_method_1_code 1567 = .ok (.iastore, 1) := by decide +kernel
theorem d_Md_init_1568 : decode prog_14_method_1_code 1568 = .ok (.dup, 1) := by decide +kernel
