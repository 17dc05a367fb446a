-- the law: its instructions, 4
theorem d_law_1265 : decode code 1265 = .ok (.istore 6, 2) := by decide +kernel
theorem d_law_1267 : decode code 1267 = .ok (.aload_n 2, 1) := by decide +kernel
theorem d_law_1268 : decode code 1268 = .ok (.aload_n 0, 1) := by decide +kernel
theorem d_law_1269 : decode code 1269 = .ok (.iload 5, 2) := by decide +kernel
theorem d_law_1271 : decode code 1271 = .ok (.iconst 1, 1) := by decide +kernel
theorem d_law_1272 : decode code 1272 = .ok (.iadd, 1) := by decide +kernel
theorem d_law_1273 : decode code 1273 = .ok (.iaload, 1) := by decide +kernel
theorem d_law_1274 : decode code 1274 = .ok (.aload_n 0, 1) := by decide +kernel
theorem d_law_1275 : decode code 1275 = .ok (.iload 5, 2) := by decide +kernel
theorem d_law_1277 : decode code 1277 = .ok (.iconst 2, 1) := by decide +kernel
theorem d_law_1278 : decode code 1278 = .ok (.iadd, 1) := by decide +kernel
theorem d_law_1279 : decode code 1279 = .ok (.iaload, 1) := by decide +kernel
theorem d_law_1280 : decode code 1280 = .ok (.invokevirtual 142, 3) := by decide +kernel
theorem d_law_1283 : decode code 1283 = .ok (.istore 7, 2) := by decide +kernel
theorem d_law_1285 : decode code 1285 = .ok (.aload_n 2, 1) := by decide +kernel
theorem d_law_1286 : decode code 1286 = .ok (.invokevirtual 86, 3) := by decide +kernel
theorem d_law_1289 : decode code 1289 = .ok (.iload 6, 2) := by decide +kernel
theorem d_law_1291 : decode code 1291 = .ok (.if_icmp .eq 5, 3) := by decide +kernel
theorem d_law_1294 : decode code 1294 = .ok (.iconst 0, 1) := by decide +kernel
theorem d_law_1295 : decode code 1295 = .ok (.ireturn, 1) := by decide +kernel
theorem d_law_1296 : decode code 1296 = .ok (.iload 6, 2) := by decide +kernel
theorem d_law_1298 : decode code 1298 = .ok (.ifCond .ne 15, 3) := by decide +kernel
theorem d_law_1301 : decode code 1301 = .ok (.aload_n 3, 1) := by decide +kernel
theorem d_law_1302 : decode code 1302 = .ok (.iconst 0, 1) := by decide +kernel
theorem d_law_1303 : decode code 1303 = .ok (.laload, 1) := by decide +kernel
theorem d_law_1304 : decode code 1304 = .ok (.iload 7, 2) := by decide +kernel
theorem d_law_1306 : decode code 1306 = .ok (.i2l, 1) := by decide +kernel
theorem d_law_1307 : decode code 1307 = .ok (.lcmp, 1) := by decide +kernel
theorem d_law_1308 : decode code 1308 = .ok (.ifCond .eq 5, 3) := by decide +kernel
theorem d_law_1311 : decode code 1311 = .ok (.iconst 0, 1) := by decide +kernel
theorem d_law_1312 : decode code 1312 = .ok (.ireturn, 1) := by decide +kernel
theorem d_law_1313 : decode code 1313 = .ok (.goto 28, 3) := by decide +kernel
theorem d_law_1316 : decode code 1316 = .ok (.aload_n 1, 1) := by decide +kernel
theorem d_law_1317 : decode code 1317 = .ok (.aload_n 0, 1) := by decide +kernel
theorem d_law_1318 : decode code 1318 = .ok (.iload 5, 2) := by decide +kernel
theorem d_law_1320 : decode code 1320 = .ok (.iconst 1, 1) := by decide +kernel
theorem d_law_1321 : decode code 1321 = .ok (.iadd, 1) := by decide +kernel
theorem d_law_1322 : decode code 1322 = .ok (.iaload, 1) := by decide +kernel
theorem d_law_1323 : decode code 1323 = .ok (.invokevirtual 143, 3) := by decide +kernel
theorem d_law_1326 : decode code 1326 = .ok (.aload_n 2, 1) := by decide +kernel
theorem d_law_1327 : decode code 1327 = .ok (.aload_n 0, 1) := by decide +kernel
theorem d_law_1328 : decode code 1328 = .ok (.iload 5, 2) := by decide +kernel
theorem d_law_1330 : decode code 1330 = .ok (.iconst 1, 1) := by decide +kernel
theorem d_law_1331 : decode code 1331 = .ok (.iadd, 1) := by decide +kernel
theorem d_law_1332 : decode code 1332 = .ok (.iaload, 1) := by decide +kernel
theorem d_law_1333 : decode code 1333 = .ok (.invokevirtual 146, 3) := by decide +kernel
theorem d_law_1336 : decode code 1336 = .ok (.if_icmp .eq 5, 3) := by decide +kernel
theorem d_law_1339 : decode code 1339 = .ok (.iconst 0, 1) := by decide +kernel
theorem d_law_1340 : decode code 1340 = .ok (.ireturn, 1) := by decide +kernel
theorem d_law_1341 : decode code 1341 = .ok (.iinc 5 4, 3) := by decide +kernel
theorem d_law_1344 : decode code 1344 = .ok (.goto (-1316), 3) := by decide +kernel
theorem d_law_1347 : decode code 1347 = .ok (.iconst 1, 1) := by decide +kernel
theorem d_law_1348 : decode code 1348 = .ok (.ireturn, 1) := by decide +kernel
