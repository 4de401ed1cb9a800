theorem dl_1279 : decode code 1279 = .ok (.iadd, 1) := by decide +kernel
theorem dl_1280 : decode code 1280 = .ok (.iaload, 1) := by decide +kernel
theorem dl_1281 : decode code 1281 = .ok (.aload_n 0, 1) := by decide +kernel
theorem dl_1282 : decode code 1282 = .ok (.iload 4, 2) := by decide +kernel
theorem dl_1284 : decode code 1284 = .ok (.iconst 2, 1) := by decide +kernel
theorem dl_1285 : decode code 1285 = .ok (.iadd, 1) := by decide +kernel
theorem dl_1286 : decode code 1286 = .ok (.iaload, 1) := by decide +kernel
theorem dl_1287 : decode code 1287 = .ok (.invokevirtual 212, 3) := by decide +kernel
theorem dl_1290 : decode code 1290 = .ok (.istore 6, 2) := by decide +kernel
theorem dl_1292 : decode code 1292 = .ok (.aload_n 2, 1) := by decide +kernel
theorem dl_1293 : decode code 1293 = .ok (.invokevirtual 131, 3) := by decide +kernel
theorem dl_1296 : decode code 1296 = .ok (.iload 5, 2) := by decide +kernel
theorem dl_1298 : decode code 1298 = .ok (.if_icmp .eq 5, 3) := by decide +kernel
theorem dl_1301 : decode code 1301 = .ok (.iconst 0, 1) := by decide +kernel
theorem dl_1302 : decode code 1302 = .ok (.ireturn, 1) := by decide +kernel
theorem dl_1303 : decode code 1303 = .ok (.iload 5, 2) := by decide +kernel
theorem dl_1305 : decode code 1305 = .ok (.ifCond .ne 15, 3) := by decide +kernel
theorem dl_1308 : decode code 1308 = .ok (.aload_n 3, 1) := by decide +kernel
theorem dl_1309 : decode code 1309 = .ok (.iconst 0, 1) := by decide +kernel
theorem dl_1310 : decode code 1310 = .ok (.laload, 1) := by decide +kernel
theorem dl_1311 : decode code 1311 = .ok (.iload 6, 2) := by decide +kernel
theorem dl_1313 : decode code 1313 = .ok (.i2l, 1) := by decide +kernel
theorem dl_1314 : decode code 1314 = .ok (.lcmp, 1) := by decide +kernel
theorem dl_1315 : decode code 1315 = .ok (.ifCond .eq 5, 3) := by decide +kernel
theorem dl_1318 : decode code 1318 = .ok (.iconst 0, 1) := by decide +kernel
theorem dl_1319 : decode code 1319 = .ok (.ireturn, 1) := by decide +kernel
theorem dl_1320 : decode code 1320 = .ok (.goto 1379, 3) := by decide +kernel
theorem dl_1323 : decode code 1323 = .ok (.aload_n 1, 1) := by decide +kernel
theorem dl_1324 : decode code 1324 = .ok (.invokevirtual 213, 3) := by decide +kernel
theorem dl_1327 : decode code 1327 = .ok (.aload_n 2, 1) := by decide +kernel
theorem dl_1328 : decode code 1328 = .ok (.invokevirtual 216, 3) := by decide +kernel
theorem dl_1331 : decode code 1331 = .ok (.if_icmp .eq 1368, 3) := by decide +kernel
theorem dl_1334 : decode code 1334 = .ok (.iconst 0, 1) := by decide +kernel
theorem dl_1335 : decode code 1335 = .ok (.ireturn, 1) := by decide +kernel
theorem dl_1336 : decode code 1336 = .ok (.aload_n 1, 1) := by decide +kernel
theorem dl_1337 : decode code 1337 = .ok (.aload_n 0, 1) := by decide +kernel
theorem dl_1338 : decode code 1338 = .ok (.iload 4, 2) := by decide +kernel
theorem dl_1340 : decode code 1340 = .ok (.iconst 1, 1) := by decide +kernel
theorem dl_1341 : decode code 1341 = .ok (.iadd, 1) := by decide +kernel
theorem dl_1342 : decode code 1342 = .ok (.iaload, 1) := by decide +kernel
theorem dl_1343 : decode code 1343 = .ok (.aload_n 3, 1) := by decide +kernel
theorem dl_1344 : decode code 1344 = .ok (.invokestatic 217, 3) := by decide +kernel
theorem dl_1347 : decode code 1347 = .ok (.istore 5, 2) := by decide +kernel
theorem dl_1349 : decode code 1349 = .ok (.aload_n 2, 1) := by decide +kernel
theorem dl_1350 : decode code 1350 = .ok (.aload_n 0, 1) := by decide +kernel
theorem dl_1351 : decode code 1351 = .ok (.iload 4, 2) := by decide +kernel
theorem dl_1353 : decode code 1353 = .ok (.iconst 1, 1) := by decide +kernel
theorem dl_1354 : decode code 1354 = .ok (.iadd, 1) := by decide +kernel
theorem dl_1355 : decode code 1355 = .ok (.iaload, 1) := by decide +kernel
theorem dl_1356 : decode code 1356 = .ok (.invokevirtual 219, 3) := by decide +kernel
theorem dl_1359 : decode code 1359 = .ok (.istore 6, 2) := by decide +kernel
theorem dl_1361 : decode code 1361 = .ok (.aload_n 2, 1) := by decide +kernel
theorem dl_1362 : decode code 1362 = .ok (.invokevirtual 131, 3) := by decide +kernel
theorem dl_1365 : decode code 1365 = .ok (.iload 5, 2) := by decide +kernel
theorem dl_1367 : decode code 1367 = .ok (.if_icmp .eq 5, 3) := by decide +kernel
theorem dl_1370 : decode code 1370 = .ok (.iconst 0, 1) := by decide +kernel
theorem dl_1371 : decode code 1371 = .ok (.ireturn, 1) := by decide +kernel
theorem dl_1372 : decode code 1372 = .ok (.iload 5, 2) := by decide +kernel
theorem dl_1374 : decode code 1374 = .ok (.ifCond .ne 15, 3) := by decide +kernel
theorem dl_1377 : decode code 1377 = .ok (.aload_n 3, 1) := by decide +kernel
theorem dl_1378 : decode code 1378 = .ok (.iconst 0, 1) := by decide +kernel
theorem dl_1379 : decode code 1379 = .ok (.laload, 1) := by decide +kernel
theorem dl_1380 : decode code 1380 = .ok (.iload 6, 2) := by decide +kernel
theorem dl_1382 : decode code 1382 = .ok (.i2l, 1) := by decide +kernel
theorem dl_1383 : decode code 1383 = .ok (.lcmp, 1) := by decide +kernel
theorem dl_1384 : decode code 1384 = .ok (.ifCond .eq 5, 3) := by decide +kernel
theorem dl_1387 : decode code 1387 = .ok (.iconst 0, 1) := by decide +kernel
theorem dl_1388 : decode code 1388 = .ok (.ireturn, 1) := by decide +kernel
theorem dl_1389 : decode code 1389 = .ok (.goto 1310, 3) := by decide +kernel
theorem dl_1392 : decode code 1392 = .ok (.aload_n 1, 1) := by decide +kernel
theorem dl_1393 : decode code 1393 = .ok (.aload_n 0, 1) := by decide +kernel
theorem dl_1394 : decode code 1394 = .ok (.iload 4, 2) := by decide +kernel
theorem dl_1396 : decode code 1396 = .ok (.iconst 1, 1) := by decide +kernel
theorem dl_1397 : decode code 1397 = .ok (.iadd, 1) := by decide +kernel
theorem dl_1398 : decode code 1398 = .ok (.iaload, 1) := by decide +kernel
theorem dl_1399 : decode code 1399 = .ok (.aload_n 3, 1) := by decide +kernel
theorem dl_1400 : decode code 1400 = .ok (.invokestatic 220, 3) := by decide +kernel
theorem dl_1403 : decode code 1403 = .ok (.istore 5, 2) := by decide +kernel
theorem dl_1405 : decode code 1405 = .ok (.aload_n 2, 1) := by decide +kernel
theorem dl_1406 : decode code 1406 = .ok (.aload_n 0, 1) := by decide +kernel
theorem dl_1407 : decode code 1407 = .ok (.iload 4, 2) := by decide +kernel
theorem dl_1409 : decode code 1409 = .ok (.iconst 1, 1) := by decide +kernel
theorem dl_1410 : decode code 1410 = .ok (.iadd, 1) := by decide +kernel
theorem dl_1411 : decode code 1411 = .ok (.iaload, 1) := by decide +kernel
theorem dl_1412 : decode code 1412 = .ok (.invokevirtual 222, 3) := by decide +kernel
theorem dl_1415 : decode code 1415 = .ok (.istore 6, 2) := by decide +kernel
theorem dl_1417 : decode code 1417 = .ok (.aload_n 2, 1) := by decide +kernel
theorem dl_1418 : decode code 1418 = .ok (.invokevirtual 131, 3) := by decide +kernel
theorem dl_1421 : decode code 1421 = .ok (.iload 5, 2) := by decide +kernel
theorem dl_1423 : decode code 1423 = .ok (.if_icmp .eq 5, 3) := by decide +kernel
theorem dl_1426 : decode code 1426 = .ok (.iconst 0, 1) := by decide +kernel
theorem dl_1427 : decode code 1427 = .ok (.ireturn, 1) := by decide +kernel
theorem dl_1428 : decode code 1428 = .ok (.iload 5, 2) := by decide +kernel
theorem dl_1430 : decode code 1430 = .ok (.ifCond .ne 15, 3) := by decide +kernel
theorem dl_1433 : decode code 1433 = .ok (.aload_n 3, 1) := by decide +kernel
theorem dl_1434 : decode code 1434 = .ok (.iconst 0, 1) := by decide +kernel
theorem dl_1435 : decode code 1435 = .ok (.laload, 1) := by decide +kernel
theorem dl_1436 : decode code 1436 = .ok (.iload 6, 2) := by decide +kernel
theorem dl_1438 : decode code 1438 = .ok (.i2l, 1) := by decide +kernel
theorem dl_1439 : decode code 1439 = .ok (.lcmp, 1) := by decide +kernel
theorem dl_1440 : decode code 1440 = .ok (.ifCond .eq 5, 3) := by decide +kernel
theorem dl_1443 : decode code 1443 = .ok (.iconst 0, 1) := by decide +kernel
theorem dl_1444 : decode code 1444 = .ok (.ireturn, 1) := by decide +kernel
theorem dl_1445 : decode code 1445 = .ok (.goto 1254, 3) := by decide +kernel
theorem dl_1448 : decode code 1448 = .ok (.aload_n 1, 1) := by decide +kernel
theorem dl_1449 : decode code 1449 = .ok (.aload_n 0, 1) := by decide +kernel
theorem dl_1450 : decode code 1450 = .ok (.iload 4, 2) := by decide +kernel
theorem dl_1452 : decode code 1452 = .ok (.iconst 1, 1) := by decide +kernel
theorem dl_1453 : decode code 1453 = .ok (.iadd, 1) := by decide +kernel
theorem dl_1454 : decode code 1454 = .ok (.iaload, 1) := by decide +kernel
