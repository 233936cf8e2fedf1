/-! ===== decode rows of the law ===== -/
theorem dl_1198 : decode code 1198 = .ok (.iload 4, 2) := by decide +kernel
theorem dl_1200 : decode code 1200 = .ok (.iconst 1, 1) := by decide +kernel
theorem dl_1201 : decode code 1201 = .ok (.iadd, 1) := by decide +kernel
theorem dl_1202 : decode code 1202 = .ok (.iaload, 1) := by decide +kernel
theorem dl_1203 : decode code 1203 = .ok (.aload_n 0, 1) := by decide +kernel
theorem dl_1204 : decode code 1204 = .ok (.iload 4, 2) := by decide +kernel
theorem dl_1206 : decode code 1206 = .ok (.iconst 2, 1) := by decide +kernel
theorem dl_1207 : decode code 1207 = .ok (.iadd, 1) := by decide +kernel
theorem dl_1208 : decode code 1208 = .ok (.iaload, 1) := by decide +kernel
theorem dl_1209 : decode code 1209 = .ok (.aload_n 0, 1) := by decide +kernel
theorem dl_1210 : decode code 1210 = .ok (.iload 4, 2) := by decide +kernel
theorem dl_1212 : decode code 1212 = .ok (.iconst 3, 1) := by decide +kernel
theorem dl_1213 : decode code 1213 = .ok (.iadd, 1) := by decide +kernel
theorem dl_1214 : decode code 1214 = .ok (.iaload, 1) := by decide +kernel
theorem dl_1215 : decode code 1215 = .ok (.aload_n 0, 1) := by decide +kernel
theorem dl_1216 : decode code 1216 = .ok (.iload 4, 2) := by decide +kernel
theorem dl_1218 : decode code 1218 = .ok (.iconst 4, 1) := by decide +kernel
theorem dl_1219 : decode code 1219 = .ok (.iadd, 1) := by decide +kernel
theorem dl_1220 : decode code 1220 = .ok (.iaload, 1) := by decide +kernel
theorem dl_1221 : decode code 1221 = .ok (.invokevirtual 149, 3) := by decide +kernel
theorem dl_1224 : decode code 1224 = .ok (.aload_n 2, 1) := by decide +kernel
theorem dl_1225 : decode code 1225 = .ok (.aload_n 0, 1) := by decide +kernel
theorem dl_1226 : decode code 1226 = .ok (.iload 4, 2) := by decide +kernel
theorem dl_1228 : decode code 1228 = .ok (.iconst 1, 1) := by decide +kernel
theorem dl_1229 : decode code 1229 = .ok (.iadd, 1) := by decide +kernel
theorem dl_1230 : decode code 1230 = .ok (.iaload, 1) := by decide +kernel
theorem dl_1231 : decode code 1231 = .ok (.aload_n 0, 1) := by decide +kernel
theorem dl_1232 : decode code 1232 = .ok (.iload 4, 2) := by decide +kernel
theorem dl_1234 : decode code 1234 = .ok (.iconst 2, 1) := by decide +kernel
theorem dl_1235 : decode code 1235 = .ok (.iadd, 1) := by decide +kernel
theorem dl_1236 : decode code 1236 = .ok (.iaload, 1) := by decide +kernel
theorem dl_1237 : decode code 1237 = .ok (.aload_n 0, 1) := by decide +kernel
theorem dl_1238 : decode code 1238 = .ok (.iload 4, 2) := by decide +kernel
theorem dl_1240 : decode code 1240 = .ok (.iconst 3, 1) := by decide +kernel
theorem dl_1241 : decode code 1241 = .ok (.iadd, 1) := by decide +kernel
theorem dl_1242 : decode code 1242 = .ok (.iaload, 1) := by decide +kernel
theorem dl_1243 : decode code 1243 = .ok (.aload_n 0, 1) := by decide +kernel
theorem dl_1244 : decode code 1244 = .ok (.iload 4, 2) := by decide +kernel
theorem dl_1246 : decode code 1246 = .ok (.iconst 4, 1) := by decide +kernel
theorem dl_1247 : decode code 1247 = .ok (.iadd, 1) := by decide +kernel
theorem dl_1248 : decode code 1248 = .ok (.iaload, 1) := by decide +kernel
theorem dl_1249 : decode code 1249 = .ok (.invokevirtual 152, 3) := by decide +kernel
theorem dl_1252 : decode code 1252 = .ok (.if_icmp .eq 230, 3) := by decide +kernel
theorem dl_1255 : decode code 1255 = .ok (.iconst 0, 1) := by decide +kernel
theorem dl_1256 : decode code 1256 = .ok (.ireturn, 1) := by decide +kernel
theorem dl_1257 : decode code 1257 = .ok (.aload_n 1, 1) := by decide +kernel
theorem dl_1258 : decode code 1258 = .ok (.invokevirtual 153, 3) := by decide +kernel
theorem dl_1261 : decode code 1261 = .ok (.aload_n 2, 1) := by decide +kernel
theorem dl_1262 : decode code 1262 = .ok (.invokevirtual 156, 3) := by decide +kernel
theorem dl_1265 : decode code 1265 = .ok (.if_icmp .eq 217, 3) := by decide +kernel
theorem dl_1268 : decode code 1268 = .ok (.iconst 0, 1) := by decide +kernel
theorem dl_1269 : decode code 1269 = .ok (.ireturn, 1) := by decide +kernel
theorem dl_1270 : decode code 1270 = .ok (.aload_n 1, 1) := by decide +kernel
theorem dl_1271 : decode code 1271 = .ok (.aload_n 0, 1) := by decide +kernel
theorem dl_1272 : decode code 1272 = .ok (.iload 4, 2) := by decide +kernel
theorem dl_1274 : decode code 1274 = .ok (.iconst 1, 1) := by decide +kernel
theorem dl_1275 : decode code 1275 = .ok (.iadd, 1) := by decide +kernel
theorem dl_1276 : decode code 1276 = .ok (.iaload, 1) := by decide +kernel
theorem dl_1277 : decode code 1277 = .ok (.aload_n 0, 1) := by decide +kernel
theorem dl_1278 : decode code 1278 = .ok (.iload 4, 2) := by decide +kernel
theorem dl_1280 : decode code 1280 = .ok (.iconst 2, 1) := by decide +kernel
theorem dl_1281 : decode code 1281 = .ok (.iadd, 1) := by decide +kernel
theorem dl_1282 : decode code 1282 = .ok (.iaload, 1) := by decide +kernel
theorem dl_1283 : decode code 1283 = .ok (.invokevirtual 157, 3) := by decide +kernel
theorem dl_1286 : decode code 1286 = .ok (.aload_n 2, 1) := by decide +kernel
theorem dl_1287 : decode code 1287 = .ok (.aload_n 0, 1) := by decide +kernel
theorem dl_1288 : decode code 1288 = .ok (.iload 4, 2) := by decide +kernel
theorem dl_1290 : decode code 1290 = .ok (.iconst 1, 1) := by decide +kernel
theorem dl_1291 : decode code 1291 = .ok (.iadd, 1) := by decide +kernel
theorem dl_1292 : decode code 1292 = .ok (.iaload, 1) := by decide +kernel
theorem dl_1293 : decode code 1293 = .ok (.aload_n 0, 1) := by decide +kernel
theorem dl_1294 : decode code 1294 = .ok (.iload 4, 2) := by decide +kernel
theorem dl_1296 : decode code 1296 = .ok (.iconst 2, 1) := by decide +kernel
theorem dl_1297 : decode code 1297 = .ok (.iadd, 1) := by decide +kernel
theorem dl_1298 : decode code 1298 = .ok (.iaload, 1) := by decide +kernel
theorem dl_1299 : decode code 1299 = .ok (.invokevirtual 160, 3) := by decide +kernel
theorem dl_1302 : decode code 1302 = .ok (.if_icmp .eq 180, 3) := by decide +kernel
theorem dl_1305 : decode code 1305 = .ok (.iconst 0, 1) := by decide +kernel
theorem dl_1306 : decode code 1306 = .ok (.ireturn, 1) := by decide +kernel
theorem dl_1307 : decode code 1307 = .ok (.aload_n 1, 1) := by decide +kernel
theorem dl_1308 : decode code 1308 = .ok (.aload_n 0, 1) := by decide +kernel
theorem dl_1309 : decode code 1309 = .ok (.iload 4, 2) := by decide +kernel
theorem dl_1311 : decode code 1311 = .ok (.iconst 1, 1) := by decide +kernel
theorem dl_1312 : decode code 1312 = .ok (.iadd, 1) := by decide +kernel
theorem dl_1313 : decode code 1313 = .ok (.iaload, 1) := by decide +kernel
theorem dl_1314 : decode code 1314 = .ok (.aload_n 0, 1) := by decide +kernel
theorem dl_1315 : decode code 1315 = .ok (.iload 4, 2) := by decide +kernel
theorem dl_1317 : decode code 1317 = .ok (.iconst 2, 1) := by decide +kernel
theorem dl_1318 : decode code 1318 = .ok (.iadd, 1) := by decide +kernel
theorem dl_1319 : decode code 1319 = .ok (.iaload, 1) := by decide +kernel
theorem dl_1320 : decode code 1320 = .ok (.invokevirtual 161, 3) := by decide +kernel
theorem dl_1323 : decode code 1323 = .ok (.aload_n 2, 1) := by decide +kernel
theorem dl_1324 : decode code 1324 = .ok (.aload_n 0, 1) := by decide +kernel
theorem dl_1325 : decode code 1325 = .ok (.iload 4, 2) := by decide +kernel
theorem dl_1327 : decode code 1327 = .ok (.iconst 1, 1) := by decide +kernel
theorem dl_1328 : decode code 1328 = .ok (.iadd, 1) := by decide +kernel
theorem dl_1329 : decode code 1329 = .ok (.iaload, 1) := by decide +kernel
theorem dl_1330 : decode code 1330 = .ok (.aload_n 0, 1) := by decide +kernel
theorem dl_1331 : decode code 1331 = .ok (.iload 4, 2) := by decide +kernel
theorem dl_1333 : decode code 1333 = .ok (.iconst 2, 1) := by decide +kernel
theorem dl_1334 : decode code 1334 = .ok (.iadd, 1) := by decide +kernel
theorem dl_1335 : decode code 1335 = .ok (.iaload, 1) := by decide +kernel
theorem dl_1336 : decode code 1336 = .ok (.invokevirtual 164, 3) := by decide +kernel
theorem dl_1339 : decode code 1339 = .ok (.if_icmp .eq 143, 3) := by decide +kernel
theorem dl_1342 : decode code 1342 = .ok (.iconst 0, 1) := by decide +kernel
theorem dl_1343 : decode code 1343 = .ok (.ireturn, 1) := by decide +kernel
theorem dl_1344 : decode code 1344 = .ok (.aload_n 1, 1) := by decide +kernel
theorem dl_1345 : decode code 1345 = .ok (.aload_n 0, 1) := by decide +kernel
theorem dl_1346 : decode code 1346 = .ok (.iload 4, 2) := by decide +kernel
theorem dl_1348 : decode code 1348 = .ok (.iconst 1, 1) := by decide +kernel
theorem dl_1349 : decode code 1349 = .ok (.iadd, 1) := by decide +kernel
theorem dl_1350 : decode code 1350 = .ok (.iaload, 1) := by decide +kernel
theorem dl_1351 : decode code 1351 = .ok (.aload_n 0, 1) := by decide +kernel
theorem dl_1352 : decode code 1352 = .ok (.iload 4, 2) := by decide +kernel
theorem dl_1354 : decode code 1354 = .ok (.iconst 2, 1) := by decide +kernel
theorem dl_1355 : decode code 1355 = .ok (.iadd, 1) := by decide +kernel
theorem dl_1356 : decode code 1356 = .ok (.iaload, 1) := by decide +kernel
theorem dl_1357 : decode code 1357 = .ok (.invokevirtual 165, 3) := by decide +kernel
theorem dl_1360 : decode code 1360 = .ok (.aload_n 2, 1) := by decide +kernel
theorem dl_1361 : decode code 1361 = .ok (.aload_n 0, 1) := by decide +kernel
theorem dl_1362 : decode code 1362 = .ok (.iload 4, 2) := by decide +kernel
theorem dl_1364 : decode code 1364 = .ok (.iconst 1, 1) := by decide +kernel
theorem dl_1365 : decode code 1365 = .ok (.iadd, 1) := by decide +kernel
theorem dl_1366 : decode code 1366 = .ok (.iaload, 1) := by decide +kernel
theorem dl_1367 : decode code 1367 = .ok (.aload_n 0, 1) := by decide +kernel
theorem dl_1368 : decode code 1368 = .ok (.iload 4, 2) := by decide +kernel
theorem dl_1370 : decode code 1370 = .ok (.iconst 2, 1) := by decide +kernel
theorem dl_1371 : decode code 1371 = .ok (.iadd, 1) := by decide +kernel
theorem dl_1372 : decode code 1372 = .ok (.iaload, 1) := by decide +kernel
theorem dl_1373 : decode code 1373 = .ok (.invokevirtual 168, 3) := by decide +kernel
theorem dl_1376 : decode code 1376 = .ok (.if_icmp .eq 106, 3) := by decide +kernel
theorem dl_1379 : decode code 1379 = .ok (.iconst 0, 1) := by decide +kernel
theorem dl_1380 : decode code 1380 = .ok (.ireturn, 1) := by decide +kernel
theorem dl_1381 : decode code 1381 = .ok (.aload_n 1, 1) := by decide +kernel
theorem dl_1382 : decode code 1382 = .ok (.aload_n 0, 1) := by decide +kernel
theorem dl_1383 : decode code 1383 = .ok (.iload 4, 2) := by decide +kernel
theorem dl_1385 : decode code 1385 = .ok (.iconst 1, 1) := by decide +kernel
theorem dl_1386 : decode code 1386 = .ok (.iadd, 1) := by decide +kernel
theorem dl_1387 : decode code 1387 = .ok (.iaload, 1) := by decide +kernel
theorem dl_1388 : decode code 1388 = .ok (.invokevirtual 169, 3) := by decide +kernel
theorem dl_1391 : decode code 1391 = .ok (.aload_n 2, 1) := by decide +kernel
theorem dl_1392 : decode code 1392 = .ok (.aload_n 0, 1) := by decide +kernel
theorem dl_1393 : decode code 1393 = .ok (.iload 4, 2) := by decide +kernel
theorem dl_1395 : decode code 1395 = .ok (.iconst 1, 1) := by decide +kernel
theorem dl_1396 : decode code 1396 = .ok (.iadd, 1) := by decide +kernel
theorem dl_1397 : decode code 1397 = .ok (.iaload, 1) := by decide +kernel
theorem dl_1398 : decode code 1398 = .ok (.invokevirtual 172, 3) := by decide +kernel
theorem dl_1401 : decode code 1401 = .ok (.if_icmp .eq 81, 3) := by decide +kernel
theorem dl_1404 : decode code 1404 = .ok (.iconst 0, 1) := by decide +kernel
theorem dl_1405 : decode code 1405 = .ok (.ireturn, 1) := by decide +kernel
theorem dl_1406 : decode code 1406 = .ok (.aload_n 1, 1) := by decide +kernel
theorem dl_1407 : decode code 1407 = .ok (.aload_n 0, 1) := by decide +kernel
theorem dl_1408 : decode code 1408 = .ok (.iload 4, 2) := by decide +kernel
theorem dl_1410 : decode code 1410 = .ok (.iconst 1, 1) := by decide +kernel
theorem dl_1411 : decode code 1411 = .ok (.iadd, 1) := by decide +kernel
theorem dl_1412 : decode code 1412 = .ok (.iaload, 1) := by decide +kernel
theorem dl_1413 : decode code 1413 = .ok (.invokevirtual 173, 3) := by decide +kernel
theorem dl_1416 : decode code 1416 = .ok (.aload_n 2, 1) := by decide +kernel
theorem dl_1417 : decode code 1417 = .ok (.aload_n 0, 1) := by decide +kernel
theorem dl_1418 : decode code 1418 = .ok (.iload 4, 2) := by decide +kernel
theorem dl_1420 : decode code 1420 = .ok (.iconst 1, 1) := by decide +kernel
theorem dl_1421 : decode code 1421 = .ok (.iadd, 1) := by decide +kernel
theorem dl_1422 : decode code 1422 = .ok (.iaload, 1) := by decide +kernel
theorem dl_1423 : decode code 1423 = .ok (.invokevirtual 176, 3) := by decide +kernel
theorem dl_1426 : decode code 1426 = .ok (.if_icmp .eq 56, 3) := by decide +kernel
theorem dl_1429 : decode code 1429 = .ok (.iconst 0, 1) := by decide +kernel
theorem dl_1430 : decode code 1430 = .ok (.ireturn, 1) := by decide +kernel
theorem dl_1431 : decode code 1431 = .ok (.aload_n 1, 1) := by decide +kernel
theorem dl_1432 : decode code 1432 = .ok (.invokevirtual 177, 3) := by decide +kernel
theorem dl_1435 : decode code 1435 = .ok (.aload_n 2, 1) := by decide +kernel
theorem dl_1436 : decode code 1436 = .ok (.invokevirtual 180, 3) := by decide +kernel
theorem dl_1439 : decode code 1439 = .ok (.if_icmp .eq 43, 3) := by decide +kernel
theorem dl_1442 : decode code 1442 = .ok (.iconst 0, 1) := by decide +kernel
theorem dl_1443 : decode code 1443 = .ok (.ireturn, 1) := by decide +kernel
theorem dl_1444 : decode code 1444 = .ok (.aload_n 1, 1) := by decide +kernel
theorem dl_1445 : decode code 1445 = .ok (.invokevirtual 181, 3) := by decide +kernel
theorem dl_1448 : decode code 1448 = .ok (.aload_n 2, 1) := by decide +kernel
theorem dl_1449 : decode code 1449 = .ok (.invokevirtual 184, 3) := by decide +kernel
theorem dl_1452 : decode code 1452 = .ok (.if_icmp .eq 30, 3) := by decide +kernel
theorem dl_1455 : decode code 1455 = .ok (.iconst 0, 1) := by decide +kernel
theorem dl_1456 : decode code 1456 = .ok (.ireturn, 1) := by decide +kernel
theorem dl_1457 : decode code 1457 = .ok (.aload_n 1, 1) := by decide +kernel
theorem dl_1458 : decode code 1458 = .ok (.aload_n 0, 1) := by decide +kernel
theorem dl_1459 : decode code 1459 = .ok (.iload 4, 2) := by decide +kernel
theorem dl_1461 : decode code 1461 = .ok (.iconst 1, 1) := by decide +kernel
theorem dl_1462 : decode code 1462 = .ok (.iadd, 1) := by decide +kernel
theorem dl_1463 : decode code 1463 = .ok (.iaload, 1) := by decide +kernel
theorem dl_1464 : decode code 1464 = .ok (.invokevirtual 185, 3) := by decide +kernel
theorem dl_1467 : decode code 1467 = .ok (.aload_n 2, 1) := by decide +kernel
theorem dl_1468 : decode code 1468 = .ok (.aload_n 0, 1) := by decide +kernel
theorem dl_1469 : decode code 1469 = .ok (.iload 4, 2) := by decide +kernel
theorem dl_1471 : decode code 1471 = .ok (.iconst 1, 1) := by decide +kernel
theorem dl_1472 : decode code 1472 = .ok (.iadd, 1) := by decide +kernel
theorem dl_1473 : decode code 1473 = .ok (.iaload, 1) := by decide +kernel
theorem dl_1474 : decode code 1474 = .ok (.invokevirtual 188, 3) := by decide +kernel
theorem dl_1477 : decode code 1477 = .ok (.if_icmp .eq 5, 3) := by decide +kernel
theorem dl_1480 : decode code 1480 = .ok (.iconst 0, 1) := by decide +kernel
theorem dl_1481 : decode code 1481 = .ok (.ireturn, 1) := by decide +kernel
theorem dl_1482 : decode code 1482 = .ok (.iinc 4 6, 3) := by decide +kernel
theorem dl_1485 : decode code 1485 = .ok (.goto (-1462), 3) := by decide +kernel
theorem dl_1488 : decode code 1488 = .ok (.iconst 1, 1) := by decide +kernel
theorem dl_1489 : decode code 1489 = .ok (.ireturn, 1) := by decide +kernel
