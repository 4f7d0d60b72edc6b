theorem dL_law_1204 : decode code 1204 = .ok (.iadd, 1) := by decide +kernel
theorem dL_law_1205 : decode code 1205 = .ok (.iaload, 1) := by decide +kernel
theorem dL_law_1206 : decode code 1206 = .ok (.aload_n 0, 1) := by decide +kernel
theorem dL_law_1207 : decode code 1207 = .ok (.iload 4, 2) := by decide +kernel
theorem dL_law_1209 : decode code 1209 = .ok (.iconst 2, 1) := by decide +kernel
theorem dL_law_1210 : decode code 1210 = .ok (.iadd, 1) := by decide +kernel
theorem dL_law_1211 : decode code 1211 = .ok (.iaload, 1) := by decide +kernel
theorem dL_law_1212 : decode code 1212 = .ok (.aload_n 0, 1) := by decide +kernel
theorem dL_law_1213 : decode code 1213 = .ok (.iload 4, 2) := by decide +kernel
theorem dL_law_1215 : decode code 1215 = .ok (.iconst 3, 1) := by decide +kernel
theorem dL_law_1216 : decode code 1216 = .ok (.iadd, 1) := by decide +kernel
theorem dL_law_1217 : decode code 1217 = .ok (.iaload, 1) := by decide +kernel
theorem dL_law_1218 : decode code 1218 = .ok (.invokevirtual 155, 3) := by decide +kernel
theorem dL_law_1221 : decode code 1221 = .ok (.if_icmp .eq 222, 3) := by decide +kernel
theorem dL_law_1226 : decode code 1226 = .ok (.aload_n 1, 1) := by decide +kernel
theorem dL_law_1227 : decode code 1227 = .ok (.aload_n 0, 1) := by decide +kernel
theorem dL_law_1228 : decode code 1228 = .ok (.iload 4, 2) := by decide +kernel
theorem dL_law_1230 : decode code 1230 = .ok (.iconst 1, 1) := by decide +kernel
theorem dL_law_1231 : decode code 1231 = .ok (.iadd, 1) := by decide +kernel
theorem dL_law_1232 : decode code 1232 = .ok (.iaload, 1) := by decide +kernel
theorem dL_law_1233 : decode code 1233 = .ok (.invokevirtual 156, 3) := by decide +kernel
theorem dL_law_1236 : decode code 1236 = .ok (.aload_n 2, 1) := by decide +kernel
theorem dL_law_1237 : decode code 1237 = .ok (.aload_n 0, 1) := by decide +kernel
theorem dL_law_1238 : decode code 1238 = .ok (.iload 4, 2) := by decide +kernel
theorem dL_law_1240 : decode code 1240 = .ok (.iconst 1, 1) := by decide +kernel
theorem dL_law_1241 : decode code 1241 = .ok (.iadd, 1) := by decide +kernel
theorem dL_law_1242 : decode code 1242 = .ok (.iaload, 1) := by decide +kernel
theorem dL_law_1243 : decode code 1243 = .ok (.invokevirtual 159, 3) := by decide +kernel
theorem dL_law_1246 : decode code 1246 = .ok (.if_icmp .eq 197, 3) := by decide +kernel
theorem dL_law_1251 : decode code 1251 = .ok (.aload_n 1, 1) := by decide +kernel
theorem dL_law_1252 : decode code 1252 = .ok (.invokevirtual 160, 3) := by decide +kernel
theorem dL_law_1255 : decode code 1255 = .ok (.aload_n 2, 1) := by decide +kernel
theorem dL_law_1256 : decode code 1256 = .ok (.invokevirtual 163, 3) := by decide +kernel
theorem dL_law_1259 : decode code 1259 = .ok (.if_icmp .eq 184, 3) := by decide +kernel
theorem dL_law_1264 : decode code 1264 = .ok (.aload_n 1, 1) := by decide +kernel
theorem dL_law_1265 : decode code 1265 = .ok (.aload_n 0, 1) := by decide +kernel
theorem dL_law_1266 : decode code 1266 = .ok (.iload 4, 2) := by decide +kernel
theorem dL_law_1268 : decode code 1268 = .ok (.iconst 1, 1) := by decide +kernel
theorem dL_law_1269 : decode code 1269 = .ok (.iadd, 1) := by decide +kernel
theorem dL_law_1270 : decode code 1270 = .ok (.iaload, 1) := by decide +kernel
theorem dL_law_1271 : decode code 1271 = .ok (.invokevirtual 164, 3) := by decide +kernel
theorem dL_law_1274 : decode code 1274 = .ok (.aload_n 2, 1) := by decide +kernel
theorem dL_law_1275 : decode code 1275 = .ok (.aload_n 0, 1) := by decide +kernel
theorem dL_law_1276 : decode code 1276 = .ok (.iload 4, 2) := by decide +kernel
theorem dL_law_1278 : decode code 1278 = .ok (.iconst 1, 1) := by decide +kernel
theorem dL_law_1279 : decode code 1279 = .ok (.iadd, 1) := by decide +kernel
theorem dL_law_1280 : decode code 1280 = .ok (.iaload, 1) := by decide +kernel
theorem dL_law_1281 : decode code 1281 = .ok (.invokevirtual 167, 3) := by decide +kernel
theorem dL_law_1284 : decode code 1284 = .ok (.if_icmp .eq 159, 3) := by decide +kernel
theorem dL_law_1289 : decode code 1289 = .ok (.aload_n 1, 1) := by decide +kernel
theorem dL_law_1290 : decode code 1290 = .ok (.aload_n 0, 1) := by decide +kernel
theorem dL_law_1291 : decode code 1291 = .ok (.iload 4, 2) := by decide +kernel
theorem dL_law_1293 : decode code 1293 = .ok (.iconst 1, 1) := by decide +kernel
theorem dL_law_1294 : decode code 1294 = .ok (.iadd, 1) := by decide +kernel
theorem dL_law_1295 : decode code 1295 = .ok (.iaload, 1) := by decide +kernel
theorem dL_law_1296 : decode code 1296 = .ok (.aload_n 0, 1) := by decide +kernel
theorem dL_law_1297 : decode code 1297 = .ok (.iload 4, 2) := by decide +kernel
theorem dL_law_1299 : decode code 1299 = .ok (.iconst 2, 1) := by decide +kernel
theorem dL_law_1300 : decode code 1300 = .ok (.iadd, 1) := by decide +kernel
theorem dL_law_1301 : decode code 1301 = .ok (.iaload, 1) := by decide +kernel
