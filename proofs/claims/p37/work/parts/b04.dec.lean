/-! THE LAW'S DECODE ROWS, 4 -/
theorem dL_isRefused_1182 : decode cL_isRefused 1182 = .ok (.iconst 0, 1) := by decide +kernel
theorem dL_isRefused_1183 : decode cL_isRefused 1183 = .ok (.iconst 0, 1) := by decide +kernel
theorem dL_isRefused_1184 : decode cL_isRefused 1184 = .ok (.iconst 0, 1) := by decide +kernel
theorem dL_isRefused_1185 : decode cL_isRefused 1185 = .ok (.iconst 0, 1) := by decide +kernel
theorem dL_isRefused_1186 : decode cL_isRefused 1186 = .ok (.iconst 0, 1) := by decide +kernel
theorem dL_isRefused_1187 : decode cL_isRefused 1187 = .ok (.invokestatic 149, 3) := by decide +kernel
theorem dL_isRefused_1190 : decode cL_isRefused 1190 = .ok (.ldc 107, 2) := by decide +kernel
theorem dL_isRefused_1192 : decode cL_isRefused 1192 = .ok (.if_icmp .ne 231, 3) := by decide +kernel
theorem dL_isRefused_1195 : decode cL_isRefused 1195 = .ok (.aload_n 0, 1) := by decide +kernel
theorem dL_isRefused_1196 : decode cL_isRefused 1196 = .ok (.bipush 24, 2) := by decide +kernel
theorem dL_isRefused_1198 : decode cL_isRefused 1198 = .ok (.iconst 0, 1) := by decide +kernel
theorem dL_isRefused_1199 : decode cL_isRefused 1199 = .ok (.iload 4, 2) := by decide +kernel
theorem dL_isRefused_1201 : decode cL_isRefused 1201 = .ok (.ifCond .eq 12, 3) := by decide +kernel
theorem dL_isRefused_1204 : decode cL_isRefused 1204 = .ok (.iconst (-1), 1) := by decide +kernel
theorem dL_isRefused_1205 : decode cL_isRefused 1205 = .ok (.iload_n 3, 1) := by decide +kernel
theorem dL_isRefused_1206 : decode cL_isRefused 1206 = .ok (.bipush 30, 2) := by decide +kernel
theorem dL_isRefused_1208 : decode cL_isRefused 1208 = .ok (.irem, 1) := by decide +kernel
theorem dL_isRefused_1209 : decode cL_isRefused 1209 = .ok (.isub, 1) := by decide +kernel
theorem dL_isRefused_1210 : decode cL_isRefused 1210 = .ok (.goto 5, 3) := by decide +kernel
theorem dL_isRefused_1213 : decode cL_isRefused 1213 = .ok (.bipush 10, 2) := by decide +kernel
theorem dL_isRefused_1215 : decode cL_isRefused 1215 = .ok (.iconst 0, 1) := by decide +kernel
theorem dL_isRefused_1216 : decode cL_isRefused 1216 = .ok (.iconst 0, 1) := by decide +kernel
theorem dL_isRefused_1217 : decode cL_isRefused 1217 = .ok (.iconst 0, 1) := by decide +kernel
theorem dL_isRefused_1218 : decode cL_isRefused 1218 = .ok (.iconst 0, 1) := by decide +kernel
theorem dL_isRefused_1219 : decode cL_isRefused 1219 = .ok (.invokestatic 149, 3) := by decide +kernel
theorem dL_isRefused_1222 : decode cL_isRefused 1222 = .ok (.ldc 110, 2) := by decide +kernel
theorem dL_isRefused_1224 : decode cL_isRefused 1224 = .ok (.if_icmp .ne 199, 3) := by decide +kernel
theorem dL_isRefused_1227 : decode cL_isRefused 1227 = .ok (.aload_n 0, 1) := by decide +kernel
theorem dL_isRefused_1228 : decode cL_isRefused 1228 = .ok (.bipush 25, 2) := by decide +kernel
theorem dL_isRefused_1230 : decode cL_isRefused 1230 = .ok (.iload 4, 2) := by decide +kernel
theorem dL_isRefused_1232 : decode cL_isRefused 1232 = .ok (.ifCond .eq 7, 3) := by decide +kernel
theorem dL_isRefused_1235 : decode cL_isRefused 1235 = .ok (.iconst (-1), 1) := by decide +kernel
theorem dL_isRefused_1236 : decode cL_isRefused 1236 = .ok (.goto 6, 3) := by decide +kernel
theorem dL_isRefused_1239 : decode cL_isRefused 1239 = .ok (.aload_n 1, 1) := by decide +kernel
theorem dL_isRefused_1240 : decode cL_isRefused 1240 = .ok (.iconst 3, 1) := by decide +kernel
theorem dL_isRefused_1241 : decode cL_isRefused 1241 = .ok (.iaload, 1) := by decide +kernel
theorem dL_isRefused_1242 : decode cL_isRefused 1242 = .ok (.iconst 0, 1) := by decide +kernel
theorem dL_isRefused_1243 : decode cL_isRefused 1243 = .ok (.iconst 0, 1) := by decide +kernel
theorem dL_isRefused_1244 : decode cL_isRefused 1244 = .ok (.iconst 0, 1) := by decide +kernel
theorem dL_isRefused_1245 : decode cL_isRefused 1245 = .ok (.iconst 0, 1) := by decide +kernel
theorem dL_isRefused_1246 : decode cL_isRefused 1246 = .ok (.iconst 0, 1) := by decide +kernel
theorem dL_isRefused_1247 : decode cL_isRefused 1247 = .ok (.invokestatic 149, 3) := by decide +kernel
theorem dL_isRefused_1250 : decode cL_isRefused 1250 = .ok (.ldc 107, 2) := by decide +kernel
theorem dL_isRefused_1252 : decode cL_isRefused 1252 = .ok (.if_icmp .ne 171, 3) := by decide +kernel
theorem dL_isRefused_1255 : decode cL_isRefused 1255 = .ok (.aload_n 0, 1) := by decide +kernel
theorem dL_isRefused_1256 : decode cL_isRefused 1256 = .ok (.bipush 25, 2) := by decide +kernel
theorem dL_isRefused_1258 : decode cL_isRefused 1258 = .ok (.iconst 0, 1) := by decide +kernel
theorem dL_isRefused_1259 : decode cL_isRefused 1259 = .ok (.iconst 0, 1) := by decide +kernel
theorem dL_isRefused_1260 : decode cL_isRefused 1260 = .ok (.iconst 0, 1) := by decide +kernel
theorem dL_isRefused_1261 : decode cL_isRefused 1261 = .ok (.iconst 0, 1) := by decide +kernel
theorem dL_isRefused_1262 : decode cL_isRefused 1262 = .ok (.iconst 0, 1) := by decide +kernel
theorem dL_isRefused_1263 : decode cL_isRefused 1263 = .ok (.iconst 0, 1) := by decide +kernel
theorem dL_isRefused_1264 : decode cL_isRefused 1264 = .ok (.invokestatic 149, 3) := by decide +kernel
theorem dL_isRefused_1267 : decode cL_isRefused 1267 = .ok (.ldc 113, 2) := by decide +kernel
theorem dL_isRefused_1269 : decode cL_isRefused 1269 = .ok (.if_icmp .ne 154, 3) := by decide +kernel
theorem dL_isRefused_1272 : decode cL_isRefused 1272 = .ok (.aload_n 0, 1) := by decide +kernel
theorem dL_isRefused_1273 : decode cL_isRefused 1273 = .ok (.bipush 26, 2) := by decide +kernel
theorem dL_isRefused_1275 : decode cL_isRefused 1275 = .ok (.iload 4, 2) := by decide +kernel
theorem dL_isRefused_1277 : decode cL_isRefused 1277 = .ok (.ifCond .eq 7, 3) := by decide +kernel
theorem dL_isRefused_1280 : decode cL_isRefused 1280 = .ok (.iconst (-1), 1) := by decide +kernel
theorem dL_isRefused_1281 : decode cL_isRefused 1281 = .ok (.goto 11, 3) := by decide +kernel
theorem dL_isRefused_1284 : decode cL_isRefused 1284 = .ok (.aload_n 1, 1) := by decide +kernel
theorem dL_isRefused_1285 : decode cL_isRefused 1285 = .ok (.iconst 3, 1) := by decide +kernel
theorem dL_isRefused_1286 : decode cL_isRefused 1286 = .ok (.iaload, 1) := by decide +kernel
theorem dL_isRefused_1287 : decode cL_isRefused 1287 = .ok (.iload_n 3, 1) := by decide +kernel
theorem dL_isRefused_1288 : decode cL_isRefused 1288 = .ok (.bipush 30, 2) := by decide +kernel
theorem dL_isRefused_1290 : decode cL_isRefused 1290 = .ok (.irem, 1) := by decide +kernel
theorem dL_isRefused_1291 : decode cL_isRefused 1291 = .ok (.iadd, 1) := by decide +kernel
theorem dL_isRefused_1292 : decode cL_isRefused 1292 = .ok (.iconst 0, 1) := by decide +kernel
theorem dL_isRefused_1293 : decode cL_isRefused 1293 = .ok (.iconst 0, 1) := by decide +kernel
theorem dL_isRefused_1294 : decode cL_isRefused 1294 = .ok (.iconst 0, 1) := by decide +kernel
theorem dL_isRefused_1295 : decode cL_isRefused 1295 = .ok (.iconst 0, 1) := by decide +kernel
theorem dL_isRefused_1296 : decode cL_isRefused 1296 = .ok (.iconst 0, 1) := by decide +kernel
theorem dL_isRefused_1297 : decode cL_isRefused 1297 = .ok (.invokestatic 149, 3) := by decide +kernel
theorem dL_isRefused_1300 : decode cL_isRefused 1300 = .ok (.ldc 107, 2) := by decide +kernel
theorem dL_isRefused_1302 : decode cL_isRefused 1302 = .ok (.if_icmp .ne 121, 3) := by decide +kernel
theorem dL_isRefused_1305 : decode cL_isRefused 1305 = .ok (.aload_n 0, 1) := by decide +kernel
theorem dL_isRefused_1306 : decode cL_isRefused 1306 = .ok (.bipush 27, 2) := by decide +kernel
theorem dL_isRefused_1308 : decode cL_isRefused 1308 = .ok (.iconst 0, 1) := by decide +kernel
theorem dL_isRefused_1309 : decode cL_isRefused 1309 = .ok (.iload 4, 2) := by decide +kernel
theorem dL_isRefused_1311 : decode cL_isRefused 1311 = .ok (.ifCond .eq 7, 3) := by decide +kernel
theorem dL_isRefused_1314 : decode cL_isRefused 1314 = .ok (.iconst (-1), 1) := by decide +kernel
theorem dL_isRefused_1315 : decode cL_isRefused 1315 = .ok (.goto 10, 3) := by decide +kernel
theorem dL_isRefused_1318 : decode cL_isRefused 1318 = .ok (.bipush 10, 2) := by decide +kernel
theorem dL_isRefused_1320 : decode cL_isRefused 1320 = .ok (.iload_n 3, 1) := by decide +kernel
theorem dL_isRefused_1321 : decode cL_isRefused 1321 = .ok (.bipush 30, 2) := by decide +kernel
theorem dL_isRefused_1323 : decode cL_isRefused 1323 = .ok (.irem, 1) := by decide +kernel
theorem dL_isRefused_1324 : decode cL_isRefused 1324 = .ok (.iadd, 1) := by decide +kernel
theorem dL_isRefused_1325 : decode cL_isRefused 1325 = .ok (.iconst 0, 1) := by decide +kernel
theorem dL_isRefused_1326 : decode cL_isRefused 1326 = .ok (.iconst 0, 1) := by decide +kernel
theorem dL_isRefused_1327 : decode cL_isRefused 1327 = .ok (.iconst 0, 1) := by decide +kernel
theorem dL_isRefused_1328 : decode cL_isRefused 1328 = .ok (.iconst 0, 1) := by decide +kernel
theorem dL_isRefused_1329 : decode cL_isRefused 1329 = .ok (.invokestatic 149, 3) := by decide +kernel
theorem dL_isRefused_1332 : decode cL_isRefused 1332 = .ok (.ldc 110, 2) := by decide +kernel
theorem dL_isRefused_1334 : decode cL_isRefused 1334 = .ok (.if_icmp .ne 89, 3) := by decide +kernel
theorem dL_isRefused_1337 : decode cL_isRefused 1337 = .ok (.aload_n 0, 1) := by decide +kernel
theorem dL_isRefused_1338 : decode cL_isRefused 1338 = .ok (.iload 4, 2) := by decide +kernel
theorem dL_isRefused_1340 : decode cL_isRefused 1340 = .ok (.ifCond .eq 7, 3) := by decide +kernel
theorem dL_isRefused_1343 : decode cL_isRefused 1343 = .ok (.iconst (-1), 1) := by decide +kernel
theorem dL_isRefused_1344 : decode cL_isRefused 1344 = .ok (.goto 6, 3) := by decide +kernel
theorem dL_isRefused_1347 : decode cL_isRefused 1347 = .ok (.aload_n 1, 1) := by decide +kernel
theorem dL_isRefused_1348 : decode cL_isRefused 1348 = .ok (.iconst 3, 1) := by decide +kernel
theorem dL_isRefused_1349 : decode cL_isRefused 1349 = .ok (.iaload, 1) := by decide +kernel
theorem dL_isRefused_1350 : decode cL_isRefused 1350 = .ok (.iconst 0, 1) := by decide +kernel
theorem dL_isRefused_1351 : decode cL_isRefused 1351 = .ok (.bipush 99, 2) := by decide +kernel
theorem dL_isRefused_1353 : decode cL_isRefused 1353 = .ok (.invokestatic 155, 3) := by decide +kernel
theorem dL_isRefused_1356 : decode cL_isRefused 1356 = .ok (.ldc 107, 2) := by decide +kernel
theorem dL_isRefused_1358 : decode cL_isRefused 1358 = .ok (.if_icmp .ne 65, 3) := by decide +kernel
theorem dL_isRefused_1361 : decode cL_isRefused 1361 = .ok (.aload_n 0, 1) := by decide +kernel
theorem dL_isRefused_1362 : decode cL_isRefused 1362 = .ok (.iconst 0, 1) := by decide +kernel
theorem dL_isRefused_1363 : decode cL_isRefused 1363 = .ok (.iload 4, 2) := by decide +kernel
theorem dL_isRefused_1365 : decode cL_isRefused 1365 = .ok (.ifCond .eq 7, 3) := by decide +kernel
theorem dL_isRefused_1368 : decode cL_isRefused 1368 = .ok (.iconst (-1), 1) := by decide +kernel
theorem dL_isRefused_1369 : decode cL_isRefused 1369 = .ok (.goto 6, 3) := by decide +kernel
theorem dL_isRefused_1372 : decode cL_isRefused 1372 = .ok (.aload_n 1, 1) := by decide +kernel
theorem dL_isRefused_1373 : decode cL_isRefused 1373 = .ok (.iconst 3, 1) := by decide +kernel
theorem dL_isRefused_1374 : decode cL_isRefused 1374 = .ok (.iaload, 1) := by decide +kernel
theorem dL_isRefused_1375 : decode cL_isRefused 1375 = .ok (.bipush 99, 2) := by decide +kernel
theorem dL_isRefused_1377 : decode cL_isRefused 1377 = .ok (.invokestatic 155, 3) := by decide +kernel
theorem dL_isRefused_1380 : decode cL_isRefused 1380 = .ok (.ldc 107, 2) := by decide +kernel
theorem dL_isRefused_1382 : decode cL_isRefused 1382 = .ok (.if_icmp .ne 41, 3) := by decide +kernel
theorem dL_isRefused_1385 : decode cL_isRefused 1385 = .ok (.aload_n 0, 1) := by decide +kernel
theorem dL_isRefused_1386 : decode cL_isRefused 1386 = .ok (.iconst 0, 1) := by decide +kernel
theorem dL_isRefused_1387 : decode cL_isRefused 1387 = .ok (.iconst 0, 1) := by decide +kernel
theorem dL_isRefused_1388 : decode cL_isRefused 1388 = .ok (.iload 4, 2) := by decide +kernel
theorem dL_isRefused_1390 : decode cL_isRefused 1390 = .ok (.ifCond .eq 7, 3) := by decide +kernel
theorem dL_isRefused_1393 : decode cL_isRefused 1393 = .ok (.iconst (-1), 1) := by decide +kernel
theorem dL_isRefused_1394 : decode cL_isRefused 1394 = .ok (.goto 5, 3) := by decide +kernel
theorem dL_isRefused_1397 : decode cL_isRefused 1397 = .ok (.bipush 10, 2) := by decide +kernel
theorem dL_isRefused_1399 : decode cL_isRefused 1399 = .ok (.invokestatic 155, 3) := by decide +kernel
theorem dL_isRefused_1402 : decode cL_isRefused 1402 = .ok (.ldc 110, 2) := by decide +kernel
theorem dL_isRefused_1404 : decode cL_isRefused 1404 = .ok (.if_icmp .ne 19, 3) := by decide +kernel
theorem dL_isRefused_1407 : decode cL_isRefused 1407 = .ok (.aload_n 0, 1) := by decide +kernel
theorem dL_isRefused_1408 : decode cL_isRefused 1408 = .ok (.iconst 0, 1) := by decide +kernel
theorem dL_isRefused_1409 : decode cL_isRefused 1409 = .ok (.iconst 0, 1) := by decide +kernel
theorem dL_isRefused_1410 : decode cL_isRefused 1410 = .ok (.iconst 5, 1) := by decide +kernel
theorem dL_isRefused_1411 : decode cL_isRefused 1411 = .ok (.invokestatic 155, 3) := by decide +kernel
theorem dL_isRefused_1414 : decode cL_isRefused 1414 = .ok (.ldc 113, 2) := by decide +kernel
theorem dL_isRefused_1416 : decode cL_isRefused 1416 = .ok (.if_icmp .ne 7, 3) := by decide +kernel
theorem dL_isRefused_1419 : decode cL_isRefused 1419 = .ok (.iconst 1, 1) := by decide +kernel
theorem dL_isRefused_1420 : decode cL_isRefused 1420 = .ok (.goto 4, 3) := by decide +kernel
theorem dL_isRefused_1423 : decode cL_isRefused 1423 = .ok (.iconst 0, 1) := by decide +kernel
theorem dL_isRefused_1424 : decode cL_isRefused 1424 = .ok (.istore 9, 2) := by decide +kernel
theorem dL_isRefused_1426 : decode cL_isRefused 1426 = .ok (.iconst 0, 1) := by decide +kernel
theorem dL_isRefused_1427 : decode cL_isRefused 1427 = .ok (.istore 10, 2) := by decide +kernel
theorem dL_isRefused_1429 : decode cL_isRefused 1429 = .ok (.iload 10, 2) := by decide +kernel
theorem dL_isRefused_1431 : decode cL_isRefused 1431 = .ok (.iconst 4, 1) := by decide +kernel
theorem dL_isRefused_1432 : decode cL_isRefused 1432 = .ok (.if_icmp .ge 119, 3) := by decide +kernel
theorem dL_isRefused_1435 : decode cL_isRefused 1435 = .ok (.iload 9, 2) := by decide +kernel
theorem dL_isRefused_1437 : decode cL_isRefused 1437 = .ok (.ifCond .eq 114, 3) := by decide +kernel
theorem dL_isRefused_1440 : decode cL_isRefused 1440 = .ok (.aload_n 2, 1) := by decide +kernel
theorem dL_isRefused_1441 : decode cL_isRefused 1441 = .ok (.iconst 5, 1) := by decide +kernel
theorem dL_isRefused_1442 : decode cL_isRefused 1442 = .ok (.iload 10, 2) := by decide +kernel
theorem dL_isRefused_1444 : decode cL_isRefused 1444 = .ok (.imul, 1) := by decide +kernel
theorem dL_isRefused_1445 : decode cL_isRefused 1445 = .ok (.iaload, 1) := by decide +kernel
theorem dL_isRefused_1446 : decode cL_isRefused 1446 = .ok (.iconst 1, 1) := by decide +kernel
theorem dL_isRefused_1447 : decode cL_isRefused 1447 = .ok (.if_icmp .eq 91, 3) := by decide +kernel
theorem dL_isRefused_1450 : decode cL_isRefused 1450 = .ok (.aload_n 0, 1) := by decide +kernel
theorem dL_isRefused_1451 : decode cL_isRefused 1451 = .ok (.iconst 1, 1) := by decide +kernel
theorem dL_isRefused_1452 : decode cL_isRefused 1452 = .ok (.iload 10, 2) := by decide +kernel
theorem dL_isRefused_1454 : decode cL_isRefused 1454 = .ok (.iconst 5, 1) := by decide +kernel
theorem dL_isRefused_1455 : decode cL_isRefused 1455 = .ok (.iconst 5, 1) := by decide +kernel
theorem dL_isRefused_1456 : decode cL_isRefused 1456 = .ok (.iconst 5, 1) := by decide +kernel
theorem dL_isRefused_1457 : decode cL_isRefused 1457 = .ok (.iconst 1, 1) := by decide +kernel
theorem dL_isRefused_1458 : decode cL_isRefused 1458 = .ok (.iconst 0, 1) := by decide +kernel
theorem dL_isRefused_1459 : decode cL_isRefused 1459 = .ok (.invokestatic 149, 3) := by decide +kernel
theorem dL_isRefused_1462 : decode cL_isRefused 1462 = .ok (.ldc 113, 2) := by decide +kernel
theorem dL_isRefused_1464 : decode cL_isRefused 1464 = .ok (.if_icmp .ne 78, 3) := by decide +kernel
theorem dL_isRefused_1467 : decode cL_isRefused 1467 = .ok (.aload_n 0, 1) := by decide +kernel
theorem dL_isRefused_1468 : decode cL_isRefused 1468 = .ok (.iconst 4, 1) := by decide +kernel
theorem dL_isRefused_1469 : decode cL_isRefused 1469 = .ok (.iload 10, 2) := by decide +kernel
theorem dL_isRefused_1471 : decode cL_isRefused 1471 = .ok (.iconst 0, 1) := by decide +kernel
theorem dL_isRefused_1472 : decode cL_isRefused 1472 = .ok (.iconst 5, 1) := by decide +kernel
theorem dL_isRefused_1473 : decode cL_isRefused 1473 = .ok (.iconst 5, 1) := by decide +kernel
theorem dL_isRefused_1474 : decode cL_isRefused 1474 = .ok (.iconst 5, 1) := by decide +kernel
theorem dL_isRefused_1475 : decode cL_isRefused 1475 = .ok (.iconst 0, 1) := by decide +kernel
theorem dL_isRefused_1476 : decode cL_isRefused 1476 = .ok (.invokestatic 149, 3) := by decide +kernel
theorem dL_isRefused_1479 : decode cL_isRefused 1479 = .ok (.ldc 113, 2) := by decide +kernel
theorem dL_isRefused_1481 : decode cL_isRefused 1481 = .ok (.if_icmp .ne 61, 3) := by decide +kernel
theorem dL_isRefused_1484 : decode cL_isRefused 1484 = .ok (.aload_n 0, 1) := by decide +kernel
theorem dL_isRefused_1485 : decode cL_isRefused 1485 = .ok (.bipush 6, 2) := by decide +kernel
theorem dL_isRefused_1487 : decode cL_isRefused 1487 = .ok (.iload 10, 2) := by decide +kernel
theorem dL_isRefused_1489 : decode cL_isRefused 1489 = .ok (.iconst 0, 1) := by decide +kernel
theorem dL_isRefused_1490 : decode cL_isRefused 1490 = .ok (.iconst 0, 1) := by decide +kernel
theorem dL_isRefused_1491 : decode cL_isRefused 1491 = .ok (.iconst 0, 1) := by decide +kernel
theorem dL_isRefused_1492 : decode cL_isRefused 1492 = .ok (.iconst 0, 1) := by decide +kernel
theorem dL_isRefused_1493 : decode cL_isRefused 1493 = .ok (.iconst 0, 1) := by decide +kernel
theorem dL_isRefused_1494 : decode cL_isRefused 1494 = .ok (.invokestatic 149, 3) := by decide +kernel
theorem dL_isRefused_1497 : decode cL_isRefused 1497 = .ok (.ldc 113, 2) := by decide +kernel
theorem dL_isRefused_1499 : decode cL_isRefused 1499 = .ok (.if_icmp .ne 43, 3) := by decide +kernel
theorem dL_isRefused_1502 : decode cL_isRefused 1502 = .ok (.aload_n 0, 1) := by decide +kernel
theorem dL_isRefused_1503 : decode cL_isRefused 1503 = .ok (.bipush 10, 2) := by decide +kernel
theorem dL_isRefused_1505 : decode cL_isRefused 1505 = .ok (.iload 10, 2) := by decide +kernel
theorem dL_isRefused_1507 : decode cL_isRefused 1507 = .ok (.iconst 5, 1) := by decide +kernel
theorem dL_isRefused_1508 : decode cL_isRefused 1508 = .ok (.iconst 5, 1) := by decide +kernel
theorem dL_isRefused_1509 : decode cL_isRefused 1509 = .ok (.iconst 0, 1) := by decide +kernel
theorem dL_isRefused_1510 : decode cL_isRefused 1510 = .ok (.iconst 0, 1) := by decide +kernel
theorem dL_isRefused_1511 : decode cL_isRefused 1511 = .ok (.iconst 0, 1) := by decide +kernel
theorem dL_isRefused_1512 : decode cL_isRefused 1512 = .ok (.invokestatic 149, 3) := by decide +kernel
theorem dL_isRefused_1515 : decode cL_isRefused 1515 = .ok (.ldc 113, 2) := by decide +kernel
theorem dL_isRefused_1517 : decode cL_isRefused 1517 = .ok (.if_icmp .ne 25, 3) := by decide +kernel
theorem dL_isRefused_1520 : decode cL_isRefused 1520 = .ok (.aload_n 0, 1) := by decide +kernel
theorem dL_isRefused_1521 : decode cL_isRefused 1521 = .ok (.bipush 18, 2) := by decide +kernel
theorem dL_isRefused_1523 : decode cL_isRefused 1523 = .ok (.iload 10, 2) := by decide +kernel
theorem dL_isRefused_1525 : decode cL_isRefused 1525 = .ok (.iconst 5, 1) := by decide +kernel
theorem dL_isRefused_1526 : decode cL_isRefused 1526 = .ok (.iconst 0, 1) := by decide +kernel
theorem dL_isRefused_1527 : decode cL_isRefused 1527 = .ok (.iconst 0, 1) := by decide +kernel
theorem dL_isRefused_1528 : decode cL_isRefused 1528 = .ok (.iconst 0, 1) := by decide +kernel
theorem dL_isRefused_1529 : decode cL_isRefused 1529 = .ok (.iconst 0, 1) := by decide +kernel
theorem dL_isRefused_1530 : decode cL_isRefused 1530 = .ok (.invokestatic 149, 3) := by decide +kernel
theorem dL_isRefused_1533 : decode cL_isRefused 1533 = .ok (.ldc 113, 2) := by decide +kernel
theorem dL_isRefused_1535 : decode cL_isRefused 1535 = .ok (.if_icmp .ne 7, 3) := by decide +kernel
theorem dL_isRefused_1538 : decode cL_isRefused 1538 = .ok (.iconst 1, 1) := by decide +kernel
theorem dL_isRefused_1539 : decode cL_isRefused 1539 = .ok (.goto 4, 3) := by decide +kernel
theorem dL_isRefused_1542 : decode cL_isRefused 1542 = .ok (.iconst 0, 1) := by decide +kernel
theorem dL_isRefused_1543 : decode cL_isRefused 1543 = .ok (.istore 9, 2) := by decide +kernel
theorem dL_isRefused_1545 : decode cL_isRefused 1545 = .ok (.iinc 10 1, 3) := by decide +kernel
theorem dL_isRefused_1548 : decode cL_isRefused 1548 = .ok (.goto (-119), 3) := by decide +kernel
theorem dL_isRefused_1551 : decode cL_isRefused 1551 = .ok (.iload 9, 2) := by decide +kernel
theorem dL_isRefused_1553 : decode cL_isRefused 1553 = .ok (.ifCond .eq 18, 3) := by decide +kernel
theorem dL_isRefused_1556 : decode cL_isRefused 1556 = .ok (.aload_n 0, 1) := by decide +kernel
theorem dL_isRefused_1557 : decode cL_isRefused 1557 = .ok (.aload_n 1, 1) := by decide +kernel
theorem dL_isRefused_1558 : decode cL_isRefused 1558 = .ok (.invokestatic 145, 3) := by decide +kernel
theorem dL_isRefused_1561 : decode cL_isRefused 1561 = .ok (.lload 7, 2) := by decide +kernel
theorem dL_isRefused_1563 : decode cL_isRefused 1563 = .ok (.lcmp, 1) := by decide +kernel
theorem dL_isRefused_1564 : decode cL_isRefused 1564 = .ok (.ifCond .ne 7, 3) := by decide +kernel
theorem dL_isRefused_1567 : decode cL_isRefused 1567 = .ok (.iconst 1, 1) := by decide +kernel
theorem dL_isRefused_1568 : decode cL_isRefused 1568 = .ok (.goto 4, 3) := by decide +kernel
theorem dL_isRefused_1571 : decode cL_isRefused 1571 = .ok (.iconst 0, 1) := by decide +kernel
theorem dL_isRefused_1572 : decode cL_isRefused 1572 = .ok (.ireturn, 1) := by decide +kernel
