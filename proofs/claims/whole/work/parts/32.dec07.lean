theorem dX10_init_1257 : decode cX10_init 1257 = .ok (.iastore, 1) := by decide +kernel
theorem dX10_init_1258 : decode cX10_init 1258 = .ok (.dup, 1) := by decide +kernel
theorem dX10_init_1259 : decode cX10_init 1259 = .ok (.sipush 174, 3) := by decide +kernel
theorem dX10_init_1262 : decode cX10_init 1262 = .ok (.sipush 1097, 3) := by decide +kernel
theorem dX10_init_1265 : decode cX10_init 1265 = .ok (.iastore, 1) := by decide +kernel
theorem dX10_init_1266 : decode cX10_init 1266 = .ok (.dup, 1) := by decide +kernel
theorem dX10_init_1267 : decode cX10_init 1267 = .ok (.sipush 175, 3) := by decide +kernel
theorem dX10_init_1270 : decode cX10_init 1270 = .ok (.sipush 2121, 3) := by decide +kernel
theorem dX10_init_1273 : decode cX10_init 1273 = .ok (.iastore, 1) := by decide +kernel
theorem dX10_init_1274 : decode cX10_init 1274 = .ok (.dup, 1) := by decide +kernel
theorem dX10_init_1275 : decode cX10_init 1275 = .ok (.sipush 176, 3) := by decide +kernel
theorem dX10_init_1278 : decode cX10_init 1278 = .ok (.sipush 288, 3) := by decide +kernel
theorem dX10_init_1281 : decode cX10_init 1281 = .ok (.iastore, 1) := by decide +kernel
theorem dX10_init_1282 : decode cX10_init 1282 = .ok (.dup, 1) := by decide +kernel
theorem dX10_init_1283 : decode cX10_init 1283 = .ok (.sipush 177, 3) := by decide +kernel
theorem dX10_init_1286 : decode cX10_init 1286 = .ok (.sipush 8329, 3) := by decide +kernel
theorem dX10_init_1289 : decode cX10_init 1289 = .ok (.iastore, 1) := by decide +kernel
theorem dX10_init_1290 : decode cX10_init 1290 = .ok (.dup, 1) := by decide +kernel
theorem dX10_init_1291 : decode cX10_init 1291 = .ok (.sipush 178, 3) := by decide +kernel
theorem dX10_init_1294 : decode cX10_init 1294 = .ok (.sipush 9353, 3) := by decide +kernel
theorem dX10_init_1297 : decode cX10_init 1297 = .ok (.iastore, 1) := by decide +kernel
theorem dX10_init_1298 : decode cX10_init 1298 = .ok (.dup, 1) := by decide +kernel
theorem dX10_init_1299 : decode cX10_init 1299 = .ok (.sipush 179, 3) := by decide +kernel
theorem dX10_init_1302 : decode cX10_init 1302 = .ok (.sipush 2320, 3) := by decide +kernel
theorem dX10_init_1305 : decode cX10_init 1305 = .ok (.iastore, 1) := by decide +kernel
theorem dX10_init_1306 : decode cX10_init 1306 = .ok (.dup, 1) := by decide +kernel
theorem dX10_init_1307 : decode cX10_init 1307 = .ok (.sipush 180, 3) := by decide +kernel
theorem dX10_init_1310 : decode cX10_init 1310 = .ok (.sipush 4233, 3) := by decide +kernel
theorem dX10_init_1313 : decode cX10_init 1313 = .ok (.iastore, 1) := by decide +kernel
theorem dX10_init_1314 : decode cX10_init 1314 = .ok (.dup, 1) := by decide +kernel
theorem dX10_init_1315 : decode cX10_init 1315 = .ok (.sipush 181, 3) := by decide +kernel
theorem dX10_init_1318 : decode cX10_init 1318 = .ok (.sipush 137, 3) := by decide +kernel
theorem dX10_init_1321 : decode cX10_init 1321 = .ok (.iastore, 1) := by decide +kernel
theorem dX10_init_1322 : decode cX10_init 1322 = .ok (.dup, 1) := by decide +kernel
theorem dX10_init_1323 : decode cX10_init 1323 = .ok (.sipush 182, 3) := by decide +kernel
theorem dX10_init_1326 : decode cX10_init 1326 = .ok (.sipush 1161, 3) := by decide +kernel
theorem dX10_init_1329 : decode cX10_init 1329 = .ok (.iastore, 1) := by decide +kernel
theorem dX10_init_1330 : decode cX10_init 1330 = .ok (.dup, 1) := by decide +kernel
theorem dX10_init_1331 : decode cX10_init 1331 = .ok (.sipush 183, 3) := by decide +kernel
theorem dX10_init_1334 : decode cX10_init 1334 = .ok (.sipush 2185, 3) := by decide +kernel
theorem dX10_init_1337 : decode cX10_init 1337 = .ok (.iastore, 1) := by decide +kernel
theorem dX10_init_1338 : decode cX10_init 1338 = .ok (.dup, 1) := by decide +kernel
theorem dX10_init_1339 : decode cX10_init 1339 = .ok (.sipush 184, 3) := by decide +kernel
theorem dX10_init_1342 : decode cX10_init 1342 = .ok (.sipush 4617, 3) := by decide +kernel
theorem dX10_init_1345 : decode cX10_init 1345 = .ok (.iastore, 1) := by decide +kernel
theorem dX10_init_1346 : decode cX10_init 1346 = .ok (.dup, 1) := by decide +kernel
theorem dX10_init_1347 : decode cX10_init 1347 = .ok (.sipush 185, 3) := by decide +kernel
theorem dX10_init_1350 : decode cX10_init 1350 = .ok (.sipush 8201, 3) := by decide +kernel
theorem dX10_init_1353 : decode cX10_init 1353 = .ok (.iastore, 1) := by decide +kernel
theorem dX10_init_1354 : decode cX10_init 1354 = .ok (.dup, 1) := by decide +kernel
theorem dX10_init_1355 : decode cX10_init 1355 = .ok (.sipush 186, 3) := by decide +kernel
theorem dX10_init_1358 : decode cX10_init 1358 = .ok (.sipush 9225, 3) := by decide +kernel
theorem dX10_init_1361 : decode cX10_init 1361 = .ok (.iastore, 1) := by decide +kernel
theorem dX10_init_1362 : decode cX10_init 1362 = .ok (.dup, 1) := by decide +kernel
theorem dX10_init_1363 : decode cX10_init 1363 = .ok (.sipush 187, 3) := by decide +kernel
theorem dX10_init_1366 : decode cX10_init 1366 = .ok (.sipush 8713, 3) := by decide +kernel
theorem dX10_init_1369 : decode cX10_init 1369 = .ok (.iastore, 1) := by decide +kernel
theorem dX10_init_1370 : decode cX10_init 1370 = .ok (.dup, 1) := by decide +kernel
theorem dX10_init_1371 : decode cX10_init 1371 = .ok (.sipush 188, 3) := by decide +kernel
theorem dX10_init_1374 : decode cX10_init 1374 = .ok (.sipush 4105, 3) := by decide +kernel
theorem dX10_init_1377 : decode cX10_init 1377 = .ok (.iastore, 1) := by decide +kernel
theorem dX10_init_1378 : decode cX10_init 1378 = .ok (.dup, 1) := by decide +kernel
theorem dX10_init_1379 : decode cX10_init 1379 = .ok (.sipush 189, 3) := by decide +kernel
theorem dX10_init_1382 : decode cX10_init 1382 = .ok (.sipush 521, 3) := by decide +kernel
theorem dX10_init_1385 : decode cX10_init 1385 = .ok (.iastore, 1) := by decide +kernel
theorem dX10_init_1386 : decode cX10_init 1386 = .ok (.dup, 1) := by decide +kernel
theorem dX10_init_1387 : decode cX10_init 1387 = .ok (.sipush 190, 3) := by decide +kernel
theorem dX10_init_1390 : decode cX10_init 1390 = .ok (.sipush 1033, 3) := by decide +kernel
theorem dX10_init_1393 : decode cX10_init 1393 = .ok (.iastore, 1) := by decide +kernel
theorem dX10_init_1394 : decode cX10_init 1394 = .ok (.dup, 1) := by decide +kernel
theorem dX10_init_1395 : decode cX10_init 1395 = .ok (.sipush 191, 3) := by decide +kernel
theorem dX10_init_1398 : decode cX10_init 1398 = .ok (.sipush 2057, 3) := by decide +kernel
theorem dX10_init_1401 : decode cX10_init 1401 = .ok (.iastore, 1) := by decide +kernel
theorem dX10_init_1402 : decode cX10_init 1402 = .ok (.dup, 1) := by decide +kernel
theorem dX10_init_1403 : decode cX10_init 1403 = .ok (.sipush 192, 3) := by decide +kernel
theorem dX10_init_1406 : decode cX10_init 1406 = .ok (.sipush 4384, 3) := by decide +kernel
theorem dX10_init_1409 : decode cX10_init 1409 = .ok (.iastore, 1) := by decide +kernel
theorem dX10_init_1410 : decode cX10_init 1410 = .ok (.dup, 1) := by decide +kernel
theorem dX10_init_1411 : decode cX10_init 1411 = .ok (.sipush 193, 3) := by decide +kernel
theorem dX10_init_1414 : decode cX10_init 1414 = .ok (.sipush 8465, 3) := by decide +kernel
theorem dX10_init_1417 : decode cX10_init 1417 = .ok (.iastore, 1) := by decide +kernel
theorem dX10_init_1418 : decode cX10_init 1418 = .ok (.dup, 1) := by decide +kernel
theorem dX10_init_1419 : decode cX10_init 1419 = .ok (.sipush 194, 3) := by decide +kernel
theorem dX10_init_1422 : decode cX10_init 1422 = .ok (.sipush 9360, 3) := by decide +kernel
theorem dX10_init_1425 : decode cX10_init 1425 = .ok (.iastore, 1) := by decide +kernel
theorem dX10_init_1426 : decode cX10_init 1426 = .ok (.dup, 1) := by decide +kernel
theorem dX10_init_1427 : decode cX10_init 1427 = .ok (.sipush 195, 3) := by decide +kernel
theorem dX10_init_1430 : decode cX10_init 1430 = .ok (.sipush 548, 3) := by decide +kernel
theorem dX10_init_1433 : decode cX10_init 1433 = .ok (.iastore, 1) := by decide +kernel
theorem dX10_init_1434 : decode cX10_init 1434 = .ok (.dup, 1) := by decide +kernel
theorem dX10_init_1435 : decode cX10_init 1435 = .ok (.sipush 196, 3) := by decide +kernel
theorem dX10_init_1438 : decode cX10_init 1438 = .ok (.sipush 4369, 3) := by decide +kernel
theorem dX10_init_1441 : decode cX10_init 1441 = .ok (.iastore, 1) := by decide +kernel
theorem dX10_init_1442 : decode cX10_init 1442 = .ok (.dup, 1) := by decide +kernel
theorem dX10_init_1443 : decode cX10_init 1443 = .ok (.sipush 197, 3) := by decide +kernel
theorem dX10_init_1446 : decode cX10_init 1446 = .ok (.sipush 273, 3) := by decide +kernel
theorem dX10_init_1449 : decode cX10_init 1449 = .ok (.iastore, 1) := by decide +kernel
theorem dX10_init_1450 : decode cX10_init 1450 = .ok (.dup, 1) := by decide +kernel
theorem dX10_init_1451 : decode cX10_init 1451 = .ok (.sipush 198, 3) := by decide +kernel
theorem dX10_init_1454 : decode cX10_init 1454 = .ok (.sipush 1168, 3) := by decide +kernel
