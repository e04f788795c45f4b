theorem q326_1334 : qD 326 1334 (.aload_n 2) 1 1335 ∧ ((2 : Fin 4) : Nat) = 2 := by decide +kernel
theorem q326_1335 : qD 326 1335 (.aload_n 0) 1 1336 ∧ ((0 : Fin 4) : Nat) = 0 := by decide +kernel
theorem q326_1336 : qD 326 1336 (.iload 4) 2 1338 := by decide +kernel
theorem q326_1338 : qD 326 1338 (.iconst 1) 1 1339 ∧ Int32.ofInt (1) = (1 : Int32) := by decide +kernel
theorem q326_1339 : qD 326 1339 (.iadd) 1 1340 := by decide +kernel
theorem q326_1340 : qD 326 1340 (.iaload) 1 1341 := by decide +kernel
theorem q326_1341 : qD 326 1341 (.invokevirtual 169) 3 1344 ∧ qI 326 169 273 1855 := by decide +kernel
theorem q326_1344 : qJ 326 1344 (.if_icmp .eq 368) 1347 (368) 1712 := by decide +kernel
theorem q326_1347 : qD 326 1347 (.iconst 0) 1 1348 ∧ Int32.ofInt (0) = (0 : Int32) := by decide +kernel
theorem q326_1348 : qD 326 1348 (.ireturn) 1 1349 ∧ mR 326 = some .boolean := by decide +kernel
theorem q326_1349 : qD 326 1349 (.aload_n 1) 1 1350 ∧ ((1 : Fin 4) : Nat) = 1 := by decide +kernel
theorem q326_1350 : qD 326 1350 (.aload_n 0) 1 1351 ∧ ((0 : Fin 4) : Nat) = 0 := by decide +kernel
theorem q326_1351 : qD 326 1351 (.iload 4) 2 1353 := by decide +kernel
theorem q326_1353 : qD 326 1353 (.iconst 1) 1 1354 ∧ Int32.ofInt (1) = (1 : Int32) := by decide +kernel
theorem q326_1354 : qD 326 1354 (.iadd) 1 1355 := by decide +kernel
theorem q326_1355 : qD 326 1355 (.iaload) 1 1356 := by decide +kernel
theorem q326_1356 : qD 326 1356 (.invokevirtual 170) 3 1359 ∧ qI 326 170 135 1018 := by decide +kernel
theorem q326_1359 : qD 326 1359 (.aload_n 2) 1 1360 ∧ ((2 : Fin 4) : Nat) = 2 := by decide +kernel
theorem q326_1360 : qD 326 1360 (.aload_n 0) 1 1361 ∧ ((0 : Fin 4) : Nat) = 0 := by decide +kernel
theorem q326_1361 : qD 326 1361 (.iload 4) 2 1363 := by decide +kernel
theorem q326_1363 : qD 326 1363 (.iconst 1) 1 1364 ∧ Int32.ofInt (1) = (1 : Int32) := by decide +kernel
theorem q326_1364 : qD 326 1364 (.iadd) 1 1365 := by decide +kernel
theorem q326_1365 : qD 326 1365 (.iaload) 1 1366 := by decide +kernel
theorem q326_1366 : qD 326 1366 (.invokevirtual 173) 3 1369 ∧ qI 326 173 274 1864 := by decide +kernel
theorem q326_1369 : qJ 326 1369 (.if_icmp .eq 343) 1372 (343) 1712 := by decide +kernel
theorem q326_1372 : qD 326 1372 (.iconst 0) 1 1373 ∧ Int32.ofInt (0) = (0 : Int32) := by decide +kernel
theorem q326_1373 : qD 326 1373 (.ireturn) 1 1374 ∧ mR 326 = some .boolean := by decide +kernel
theorem q326_1374 : qD 326 1374 (.aload_n 1) 1 1375 ∧ ((1 : Fin 4) : Nat) = 1 := by decide +kernel
theorem q326_1375 : qD 326 1375 (.aload_n 0) 1 1376 ∧ ((0 : Fin 4) : Nat) = 0 := by decide +kernel
theorem q326_1376 : qD 326 1376 (.iload 4) 2 1378 := by decide +kernel
theorem q326_1378 : qD 326 1378 (.iconst 1) 1 1379 ∧ Int32.ofInt (1) = (1 : Int32) := by decide +kernel
theorem q326_1379 : qD 326 1379 (.iadd) 1 1380 := by decide +kernel
theorem q326_1380 : qD 326 1380 (.iaload) 1 1381 := by decide +kernel
theorem q326_1381 : qD 326 1381 (.aload_n 0) 1 1382 ∧ ((0 : Fin 4) : Nat) = 0 := by decide +kernel
theorem q326_1382 : qD 326 1382 (.iload 4) 2 1384 := by decide +kernel
theorem q326_1384 : qD 326 1384 (.iconst 2) 1 1385 ∧ Int32.ofInt (2) = (2 : Int32) := by decide +kernel
theorem q326_1385 : qD 326 1385 (.iadd) 1 1386 := by decide +kernel
theorem q326_1386 : qD 326 1386 (.iaload) 1 1387 := by decide +kernel
theorem q326_1387 : qD 326 1387 (.invokevirtual 174) 3 1390 ∧ qI 326 174 134 1013 := by decide +kernel
theorem q326_1390 : qD 326 1390 (.aload_n 2) 1 1391 ∧ ((2 : Fin 4) : Nat) = 2 := by decide +kernel
theorem q326_1391 : qD 326 1391 (.aload_n 0) 1 1392 ∧ ((0 : Fin 4) : Nat) = 0 := by decide +kernel
theorem q326_1392 : qD 326 1392 (.iload 4) 2 1394 := by decide +kernel
theorem q326_1394 : qD 326 1394 (.iconst 1) 1 1395 ∧ Int32.ofInt (1) = (1 : Int32) := by decide +kernel
theorem q326_1395 : qD 326 1395 (.iadd) 1 1396 := by decide +kernel
theorem q326_1396 : qD 326 1396 (.iaload) 1 1397 := by decide +kernel
theorem q326_1397 : qD 326 1397 (.aload_n 0) 1 1398 ∧ ((0 : Fin 4) : Nat) = 0 := by decide +kernel
theorem q326_1398 : qD 326 1398 (.iload 4) 2 1400 := by decide +kernel
theorem q326_1400 : qD 326 1400 (.iconst 2) 1 1401 ∧ Int32.ofInt (2) = (2 : Int32) := by decide +kernel
theorem q326_1401 : qD 326 1401 (.iadd) 1 1402 := by decide +kernel
theorem q326_1402 : qD 326 1402 (.iaload) 1 1403 := by decide +kernel
theorem q326_1403 : qD 326 1403 (.invokevirtual 177) 3 1406 ∧ qI 326 177 276 1868 := by decide +kernel
theorem q326_1406 : qJ 326 1406 (.if_icmp .eq 306) 1409 (306) 1712 := by decide +kernel
theorem q326_1409 : qD 326 1409 (.iconst 0) 1 1410 ∧ Int32.ofInt (0) = (0 : Int32) := by decide +kernel
theorem q326_1410 : qD 326 1410 (.ireturn) 1 1411 ∧ mR 326 = some .boolean := by decide +kernel
theorem q326_1411 : qD 326 1411 (.aload_n 1) 1 1412 ∧ ((1 : Fin 4) : Nat) = 1 := by decide +kernel
theorem q326_1412 : qD 326 1412 (.invokevirtual 178) 3 1415 ∧ qI 326 178 136 1023 := by decide +kernel
theorem q326_1415 : qD 326 1415 (.aload_n 2) 1 1416 ∧ ((2 : Fin 4) : Nat) = 2 := by decide +kernel
theorem q326_1416 : qD 326 1416 (.invokevirtual 181) 3 1419 ∧ qI 326 181 277 1876 := by decide +kernel
theorem q326_1419 : qJ 326 1419 (.if_icmp .eq 293) 1422 (293) 1712 := by decide +kernel
theorem q326_1422 : qD 326 1422 (.iconst 0) 1 1423 ∧ Int32.ofInt (0) = (0 : Int32) := by decide +kernel
theorem q326_1423 : qD 326 1423 (.ireturn) 1 1424 ∧ mR 326 = some .boolean := by decide +kernel
theorem q326_1424 : qD 326 1424 (.aload_n 1) 1 1425 ∧ ((1 : Fin 4) : Nat) = 1 := by decide +kernel
theorem q326_1425 : qD 326 1425 (.aload_n 0) 1 1426 ∧ ((0 : Fin 4) : Nat) = 0 := by decide +kernel
theorem q326_1426 : qD 326 1426 (.iload 4) 2 1428 := by decide +kernel
theorem q326_1428 : qD 326 1428 (.iconst 1) 1 1429 ∧ Int32.ofInt (1) = (1 : Int32) := by decide +kernel
theorem q326_1429 : qD 326 1429 (.iadd) 1 1430 := by decide +kernel
theorem q326_1430 : qD 326 1430 (.iaload) 1 1431 := by decide +kernel
theorem q326_1431 : qD 326 1431 (.invokevirtual 182) 3 1434 ∧ qI 326 182 133 1004 := by decide +kernel
theorem q326_1434 : qD 326 1434 (.aload_n 2) 1 1435 ∧ ((2 : Fin 4) : Nat) = 2 := by decide +kernel
theorem q326_1435 : qD 326 1435 (.aload_n 0) 1 1436 ∧ ((0 : Fin 4) : Nat) = 0 := by decide +kernel
theorem q326_1436 : qD 326 1436 (.iload 4) 2 1438 := by decide +kernel
theorem q326_1438 : qD 326 1438 (.iconst 1) 1 1439 ∧ Int32.ofInt (1) = (1 : Int32) := by decide +kernel
theorem q326_1439 : qD 326 1439 (.iadd) 1 1440 := by decide +kernel
theorem q326_1440 : qD 326 1440 (.iaload) 1 1441 := by decide +kernel
theorem q326_1441 : qD 326 1441 (.invokevirtual 185) 3 1444 ∧ qI 326 185 278 1880 := by decide +kernel
theorem q326_1444 : qJ 326 1444 (.if_icmp .eq 268) 1447 (268) 1712 := by decide +kernel
theorem q326_1447 : qD 326 1447 (.iconst 0) 1 1448 ∧ Int32.ofInt (0) = (0 : Int32) := by decide +kernel
theorem q326_1448 : qD 326 1448 (.ireturn) 1 1449 ∧ mR 326 = some .boolean := by decide +kernel
theorem q326_1449 : qD 326 1449 (.aload_n 1) 1 1450 ∧ ((1 : Fin 4) : Nat) = 1 := by decide +kernel
theorem q326_1450 : qD 326 1450 (.invokevirtual 186) 3 1453 ∧ qI 326 186 150 1086 := by decide +kernel
theorem q326_1453 : qD 326 1453 (.aload_n 2) 1 1454 ∧ ((2 : Fin 4) : Nat) = 2 := by decide +kernel
theorem q326_1454 : qD 326 1454 (.invokevirtual 189) 3 1457 ∧ qI 326 189 279 1884 := by decide +kernel
theorem q326_1457 : qJ 326 1457 (.if_icmp .eq 255) 1460 (255) 1712 := by decide +kernel
theorem q326_1460 : qD 326 1460 (.iconst 0) 1 1461 ∧ Int32.ofInt (0) = (0 : Int32) := by decide +kernel
theorem q326_1461 : qD 326 1461 (.ireturn) 1 1462 ∧ mR 326 = some .boolean := by decide +kernel
theorem q326_1462 : qD 326 1462 (.aload_n 1) 1 1463 ∧ ((1 : Fin 4) : Nat) = 1 := by decide +kernel
theorem q326_1463 : qD 326 1463 (.aload_n 0) 1 1464 ∧ ((0 : Fin 4) : Nat) = 0 := by decide +kernel
theorem q326_1464 : qD 326 1464 (.iload 4) 2 1466 := by decide +kernel
theorem q326_1466 : qD 326 1466 (.iconst 1) 1 1467 ∧ Int32.ofInt (1) = (1 : Int32) := by decide +kernel
theorem q326_1467 : qD 326 1467 (.iadd) 1 1468 := by decide +kernel
theorem q326_1468 : qD 326 1468 (.iaload) 1 1469 := by decide +kernel
theorem q326_1469 : qD 326 1469 (.invokevirtual 190) 3 1472 ∧ qI 326 190 140 1044 := by decide +kernel
theorem q326_1472 : qD 326 1472 (.aload_n 2) 1 1473 ∧ ((2 : Fin 4) : Nat) = 2 := by decide +kernel
theorem q326_1473 : qD 326 1473 (.aload_n 0) 1 1474 ∧ ((0 : Fin 4) : Nat) = 0 := by decide +kernel
theorem q326_1474 : qD 326 1474 (.iload 4) 2 1476 := by decide +kernel
theorem q326_1476 : qD 326 1476 (.iconst 1) 1 1477 ∧ Int32.ofInt (1) = (1 : Int32) := by decide +kernel
theorem q326_1477 : qD 326 1477 (.iadd) 1 1478 := by decide +kernel
theorem q326_1478 : qD 326 1478 (.iaload) 1 1479 := by decide +kernel
theorem q326_1479 : qD 326 1479 (.invokevirtual 193) 3 1482 ∧ qI 326 193 280 1888 := by decide +kernel
theorem q326_1482 : qJ 326 1482 (.if_icmp .eq 230) 1485 (230) 1712 := by decide +kernel
theorem q326_1485 : qD 326 1485 (.iconst 0) 1 1486 ∧ Int32.ofInt (0) = (0 : Int32) := by decide +kernel
theorem q326_1486 : qD 326 1486 (.ireturn) 1 1487 ∧ mR 326 = some .boolean := by decide +kernel
theorem q326_1487 : qD 326 1487 (.aload_n 1) 1 1488 ∧ ((1 : Fin 4) : Nat) = 1 := by decide +kernel
theorem q326_1488 : qD 326 1488 (.invokevirtual 194) 3 1491 ∧ qI 326 194 151 1090 := by decide +kernel
theorem q326_1491 : qD 326 1491 (.aload_n 2) 1 1492 ∧ ((2 : Fin 4) : Nat) = 2 := by decide +kernel
theorem q326_1492 : qD 326 1492 (.invokevirtual 197) 3 1495 ∧ qI 326 197 281 1892 := by decide +kernel
theorem q326_1495 : qJ 326 1495 (.if_icmp .eq 217) 1498 (217) 1712 := by decide +kernel
theorem q326_1498 : qD 326 1498 (.iconst 0) 1 1499 ∧ Int32.ofInt (0) = (0 : Int32) := by decide +kernel
theorem q326_1499 : qD 326 1499 (.ireturn) 1 1500 ∧ mR 326 = some .boolean := by decide +kernel
theorem q326_1500 : qD 326 1500 (.aload_n 1) 1 1501 ∧ ((1 : Fin 4) : Nat) = 1 := by decide +kernel
theorem q326_1501 : qD 326 1501 (.invokevirtual 198) 3 1504 ∧ qI 326 198 152 1094 := by decide +kernel
theorem q326_1504 : qD 326 1504 (.aload_n 2) 1 1505 ∧ ((2 : Fin 4) : Nat) = 2 := by decide +kernel
theorem q326_1505 : qD 326 1505 (.invokevirtual 201) 3 1508 ∧ qI 326 201 282 1896 := by decide +kernel
theorem q326_1508 : qJ 326 1508 (.if_icmp .eq 204) 1511 (204) 1712 := by decide +kernel
theorem q326_1511 : qD 326 1511 (.iconst 0) 1 1512 ∧ Int32.ofInt (0) = (0 : Int32) := by decide +kernel
theorem q326_1512 : qD 326 1512 (.ireturn) 1 1513 ∧ mR 326 = some .boolean := by decide +kernel
theorem q326_1513 : qD 326 1513 (.aload_n 1) 1 1514 ∧ ((1 : Fin 4) : Nat) = 1 := by decide +kernel
theorem q326_1514 : qD 326 1514 (.invokevirtual 202) 3 1517 ∧ qI 326 202 153 1098 := by decide +kernel
theorem q326_1517 : qD 326 1517 (.aload_n 2) 1 1518 ∧ ((2 : Fin 4) : Nat) = 2 := by decide +kernel
theorem q326_1518 : qD 326 1518 (.invokevirtual 205) 3 1521 ∧ qI 326 205 283 1900 := by decide +kernel
theorem q326_1521 : qJ 326 1521 (.if_icmp .eq 191) 1524 (191) 1712 := by decide +kernel
theorem q326_1524 : qD 326 1524 (.iconst 0) 1 1525 ∧ Int32.ofInt (0) = (0 : Int32) := by decide +kernel
theorem q326_1525 : qD 326 1525 (.ireturn) 1 1526 ∧ mR 326 = some .boolean := by decide +kernel
theorem q326_1526 : qD 326 1526 (.aload_n 1) 1 1527 ∧ ((1 : Fin 4) : Nat) = 1 := by decide +kernel
theorem q326_1527 : qD 326 1527 (.aload_n 0) 1 1528 ∧ ((0 : Fin 4) : Nat) = 0 := by decide +kernel
theorem q326_1528 : qD 326 1528 (.iload 4) 2 1530 := by decide +kernel
theorem q326_1530 : qD 326 1530 (.iconst 1) 1 1531 ∧ Int32.ofInt (1) = (1 : Int32) := by decide +kernel
theorem q326_1531 : qD 326 1531 (.iadd) 1 1532 := by decide +kernel
theorem q326_1532 : qD 326 1532 (.iaload) 1 1533 := by decide +kernel
theorem q326_1533 : qD 326 1533 (.invokevirtual 206) 3 1536 ∧ qI 326 206 141 1048 := by decide +kernel
theorem q326_1536 : qD 326 1536 (.aload_n 2) 1 1537 ∧ ((2 : Fin 4) : Nat) = 2 := by decide +kernel
theorem q326_1537 : qD 326 1537 (.aload_n 0) 1 1538 ∧ ((0 : Fin 4) : Nat) = 0 := by decide +kernel
theorem q326_1538 : qD 326 1538 (.iload 4) 2 1540 := by decide +kernel
theorem q326_1540 : qD 326 1540 (.iconst 1) 1 1541 ∧ Int32.ofInt (1) = (1 : Int32) := by decide +kernel
theorem q326_1541 : qD 326 1541 (.iadd) 1 1542 := by decide +kernel
theorem q326_1542 : qD 326 1542 (.iaload) 1 1543 := by decide +kernel
theorem q326_1543 : qD 326 1543 (.invokevirtual 209) 3 1546 ∧ qI 326 209 284 1904 := by decide +kernel
theorem q326_1546 : qJ 326 1546 (.if_icmp .eq 166) 1549 (166) 1712 := by decide +kernel
theorem q326_1549 : qD 326 1549 (.iconst 0) 1 1550 ∧ Int32.ofInt (0) = (0 : Int32) := by decide +kernel
theorem q326_1550 : qD 326 1550 (.ireturn) 1 1551 ∧ mR 326 = some .boolean := by decide +kernel
theorem q326_1551 : qD 326 1551 (.aload_n 1) 1 1552 ∧ ((1 : Fin 4) : Nat) = 1 := by decide +kernel
theorem q326_1552 : qD 326 1552 (.aload_n 0) 1 1553 ∧ ((0 : Fin 4) : Nat) = 0 := by decide +kernel
theorem q326_1553 : qD 326 1553 (.iload 4) 2 1555 := by decide +kernel
theorem q326_1555 : qD 326 1555 (.iconst 1) 1 1556 ∧ Int32.ofInt (1) = (1 : Int32) := by decide +kernel
theorem q326_1556 : qD 326 1556 (.iadd) 1 1557 := by decide +kernel
theorem q326_1557 : qD 326 1557 (.iaload) 1 1558 := by decide +kernel
theorem q326_1558 : qD 326 1558 (.aload_n 0) 1 1559 ∧ ((0 : Fin 4) : Nat) = 0 := by decide +kernel
theorem q326_1559 : qD 326 1559 (.iload 4) 2 1561 := by decide +kernel
theorem q326_1561 : qD 326 1561 (.iconst 2) 1 1562 ∧ Int32.ofInt (2) = (2 : Int32) := by decide +kernel
theorem q326_1562 : qD 326 1562 (.iadd) 1 1563 := by decide +kernel
theorem q326_1563 : qD 326 1563 (.iaload) 1 1564 := by decide +kernel
theorem q326_1564 : qD 326 1564 (.aload_n 0) 1 1565 ∧ ((0 : Fin 4) : Nat) = 0 := by decide +kernel
theorem q326_1565 : qD 326 1565 (.iload 4) 2 1567 := by decide +kernel
theorem q326_1567 : qD 326 1567 (.iconst 3) 1 1568 ∧ Int32.ofInt (3) = (3 : Int32) := by decide +kernel
theorem q326_1568 : qD 326 1568 (.iadd) 1 1569 := by decide +kernel
theorem q326_1569 : qD 326 1569 (.iaload) 1 1570 := by decide +kernel
theorem q326_1570 : qD 326 1570 (.aload_n 0) 1 1571 ∧ ((0 : Fin 4) : Nat) = 0 := by decide +kernel
theorem q326_1571 : qD 326 1571 (.iload 4) 2 1573 := by decide +kernel
theorem q326_1573 : qD 326 1573 (.iconst 4) 1 1574 ∧ Int32.ofInt (4) = (4 : Int32) := by decide +kernel
theorem q326_1574 : qD 326 1574 (.iadd) 1 1575 := by decide +kernel
theorem q326_1575 : qD 326 1575 (.iaload) 1 1576 := by decide +kernel
theorem q326_1576 : qD 326 1576 (.invokevirtual 210) 3 1579 ∧ qI 326 210 142 1052 := by decide +kernel
theorem q326_1579 : qD 326 1579 (.aload_n 2) 1 1580 ∧ ((2 : Fin 4) : Nat) = 2 := by decide +kernel
theorem q326_1580 : qD 326 1580 (.aload_n 0) 1 1581 ∧ ((0 : Fin 4) : Nat) = 0 := by decide +kernel
theorem q326_1581 : qD 326 1581 (.iload 4) 2 1583 := by decide +kernel
theorem q326_1583 : qD 326 1583 (.iconst 1) 1 1584 ∧ Int32.ofInt (1) = (1 : Int32) := by decide +kernel
theorem q326_1584 : qD 326 1584 (.iadd) 1 1585 := by decide +kernel
theorem q326_1585 : qD 326 1585 (.iaload) 1 1586 := by decide +kernel
theorem q326_1586 : qD 326 1586 (.aload_n 0) 1 1587 ∧ ((0 : Fin 4) : Nat) = 0 := by decide +kernel
theorem q326_1587 : qD 326 1587 (.iload 4) 2 1589 := by decide +kernel
theorem q326_1589 : qD 326 1589 (.iconst 2) 1 1590 ∧ Int32.ofInt (2) = (2 : Int32) := by decide +kernel
theorem q326_1590 : qD 326 1590 (.iadd) 1 1591 := by decide +kernel
theorem q326_1591 : qD 326 1591 (.iaload) 1 1592 := by decide +kernel
theorem q326_1592 : qD 326 1592 (.aload_n 0) 1 1593 ∧ ((0 : Fin 4) : Nat) = 0 := by decide +kernel
theorem q326_1593 : qD 326 1593 (.iload 4) 2 1595 := by decide +kernel
theorem q326_1595 : qD 326 1595 (.iconst 3) 1 1596 ∧ Int32.ofInt (3) = (3 : Int32) := by decide +kernel
theorem q326_1596 : qD 326 1596 (.iadd) 1 1597 := by decide +kernel
theorem q326_1597 : qD 326 1597 (.iaload) 1 1598 := by decide +kernel
theorem q326_1598 : qD 326 1598 (.aload_n 0) 1 1599 ∧ ((0 : Fin 4) : Nat) = 0 := by decide +kernel
theorem q326_1599 : qD 326 1599 (.iload 4) 2 1601 := by decide +kernel
theorem q326_1601 : qD 326 1601 (.iconst 4) 1 1602 ∧ Int32.ofInt (4) = (4 : Int32) := by decide +kernel
theorem q326_1602 : qD 326 1602 (.iadd) 1 1603 := by decide +kernel
theorem q326_1603 : qD 326 1603 (.iaload) 1 1604 := by decide +kernel
theorem q326_1604 : qD 326 1604 (.invokevirtual 214) 3 1607 ∧ qI 326 214 287 1908 := by decide +kernel
theorem q326_1607 : qJ 326 1607 (.if_icmp .eq 105) 1610 (105) 1712 := by decide +kernel
theorem q326_1610 : qD 326 1610 (.iconst 0) 1 1611 ∧ Int32.ofInt (0) = (0 : Int32) := by decide +kernel
theorem q326_1611 : qD 326 1611 (.ireturn) 1 1612 ∧ mR 326 = some .boolean := by decide +kernel
theorem q326_1612 : qD 326 1612 (.aload_n 1) 1 1613 ∧ ((1 : Fin 4) : Nat) = 1 := by decide +kernel
theorem q326_1613 : qD 326 1613 (.aload_n 0) 1 1614 ∧ ((0 : Fin 4) : Nat) = 0 := by decide +kernel
theorem q326_1614 : qD 326 1614 (.iload 4) 2 1616 := by decide +kernel
theorem q326_1616 : qD 326 1616 (.iconst 1) 1 1617 ∧ Int32.ofInt (1) = (1 : Int32) := by decide +kernel
theorem q326_1617 : qD 326 1617 (.iadd) 1 1618 := by decide +kernel
theorem q326_1618 : qD 326 1618 (.iaload) 1 1619 := by decide +kernel
theorem q326_1619 : qD 326 1619 (.aload_n 0) 1 1620 ∧ ((0 : Fin 4) : Nat) = 0 := by decide +kernel
theorem q326_1620 : qD 326 1620 (.iload 4) 2 1622 := by decide +kernel
theorem q326_1622 : qD 326 1622 (.iconst 2) 1 1623 ∧ Int32.ofInt (2) = (2 : Int32) := by decide +kernel
theorem q326_1623 : qD 326 1623 (.iadd) 1 1624 := by decide +kernel
theorem q326_1624 : qD 326 1624 (.iaload) 1 1625 := by decide +kernel
theorem q326_1625 : qD 326 1625 (.aload_n 0) 1 1626 ∧ ((0 : Fin 4) : Nat) = 0 := by decide +kernel
theorem q326_1626 : qD 326 1626 (.iload 4) 2 1628 := by decide +kernel
theorem q326_1628 : qD 326 1628 (.iconst 3) 1 1629 ∧ Int32.ofInt (3) = (3 : Int32) := by decide +kernel
theorem q326_1629 : qD 326 1629 (.iadd) 1 1630 := by decide +kernel
theorem q326_1630 : qD 326 1630 (.iaload) 1 1631 := by decide +kernel
theorem q326_1631 : qD 326 1631 (.invokevirtual 215) 3 1634 ∧ qI 326 215 143 1068 := by decide +kernel
theorem q326_1634 : qD 326 1634 (.aload_n 2) 1 1635 ∧ ((2 : Fin 4) : Nat) = 2 := by decide +kernel
theorem q326_1635 : qD 326 1635 (.aload_n 0) 1 1636 ∧ ((0 : Fin 4) : Nat) = 0 := by decide +kernel
theorem q326_1636 : qD 326 1636 (.iload 4) 2 1638 := by decide +kernel
theorem q326_1638 : qD 326 1638 (.iconst 1) 1 1639 ∧ Int32.ofInt (1) = (1 : Int32) := by decide +kernel
theorem q326_1639 : qD 326 1639 (.iadd) 1 1640 := by decide +kernel
theorem q326_1640 : qD 326 1640 (.iaload) 1 1641 := by decide +kernel
theorem q326_1641 : qD 326 1641 (.aload_n 0) 1 1642 ∧ ((0 : Fin 4) : Nat) = 0 := by decide +kernel
theorem q326_1642 : qD 326 1642 (.iload 4) 2 1644 := by decide +kernel
theorem q326_1644 : qD 326 1644 (.iconst 2) 1 1645 ∧ Int32.ofInt (2) = (2 : Int32) := by decide +kernel
theorem q326_1645 : qD 326 1645 (.iadd) 1 1646 := by decide +kernel
theorem q326_1646 : qD 326 1646 (.iaload) 1 1647 := by decide +kernel
theorem q326_1647 : qD 326 1647 (.aload_n 0) 1 1648 ∧ ((0 : Fin 4) : Nat) = 0 := by decide +kernel
theorem q326_1648 : qD 326 1648 (.iload 4) 2 1650 := by decide +kernel
theorem q326_1650 : qD 326 1650 (.iconst 3) 1 1651 ∧ Int32.ofInt (3) = (3 : Int32) := by decide +kernel
theorem q326_1651 : qD 326 1651 (.iadd) 1 1652 := by decide +kernel
theorem q326_1652 : qD 326 1652 (.iaload) 1 1653 := by decide +kernel
theorem q326_1653 : qD 326 1653 (.invokevirtual 218) 3 1656 ∧ qI 326 218 288 1920 := by decide +kernel
theorem q326_1656 : qJ 326 1656 (.if_icmp .eq 56) 1659 (56) 1712 := by decide +kernel
theorem q326_1659 : qD 326 1659 (.iconst 0) 1 1660 ∧ Int32.ofInt (0) = (0 : Int32) := by decide +kernel
theorem q326_1660 : qD 326 1660 (.ireturn) 1 1661 ∧ mR 326 = some .boolean := by decide +kernel
theorem q326_1661 : qD 326 1661 (.aload_n 1) 1 1662 ∧ ((1 : Fin 4) : Nat) = 1 := by decide +kernel
theorem q326_1662 : qD 326 1662 (.invokevirtual 219) 3 1665 ∧ qI 326 219 117 953 := by decide +kernel
theorem q326_1665 : qD 326 1665 (.aload_n 2) 1 1666 ∧ ((2 : Fin 4) : Nat) = 2 := by decide +kernel
theorem q326_1666 : qD 326 1666 (.invokevirtual 222) 3 1669 ∧ qI 326 222 289 1924 := by decide +kernel
theorem q326_1669 : qJ 326 1669 (.if_icmp .eq 43) 1672 (43) 1712 := by decide +kernel
theorem q326_1672 : qD 326 1672 (.iconst 0) 1 1673 ∧ Int32.ofInt (0) = (0 : Int32) := by decide +kernel
theorem q326_1673 : qD 326 1673 (.ireturn) 1 1674 ∧ mR 326 = some .boolean := by decide +kernel
theorem q326_1674 : qD 326 1674 (.aload_n 1) 1 1675 ∧ ((1 : Fin 4) : Nat) = 1 := by decide +kernel
theorem q326_1675 : qD 326 1675 (.invokevirtual 223) 3 1678 ∧ qI 326 223 118 967 := by decide +kernel
theorem q326_1678 : qD 326 1678 (.aload_n 2) 1 1679 ∧ ((2 : Fin 4) : Nat) = 2 := by decide +kernel
theorem q326_1679 : qD 326 1679 (.invokevirtual 226) 3 1682 ∧ qI 326 226 290 1928 := by decide +kernel
theorem q326_1682 : qJ 326 1682 (.if_icmp .eq 30) 1685 (30) 1712 := by decide +kernel
theorem q326_1685 : qD 326 1685 (.iconst 0) 1 1686 ∧ Int32.ofInt (0) = (0 : Int32) := by decide +kernel
theorem q326_1686 : qD 326 1686 (.ireturn) 1 1687 ∧ mR 326 = some .boolean := by decide +kernel
theorem q326_1687 : qD 326 1687 (.aload_n 1) 1 1688 ∧ ((1 : Fin 4) : Nat) = 1 := by decide +kernel
theorem q326_1688 : qD 326 1688 (.aload_n 0) 1 1689 ∧ ((0 : Fin 4) : Nat) = 0 := by decide +kernel
theorem q326_1689 : qD 326 1689 (.iload 4) 2 1691 := by decide +kernel
theorem q326_1691 : qD 326 1691 (.iconst 1) 1 1692 ∧ Int32.ofInt (1) = (1 : Int32) := by decide +kernel
theorem q326_1692 : qD 326 1692 (.iadd) 1 1693 := by decide +kernel
theorem q326_1693 : qD 326 1693 (.iaload) 1 1694 := by decide +kernel
theorem q326_1694 : qD 326 1694 (.invokevirtual 227) 3 1697 ∧ qI 326 227 101 752 := by decide +kernel
theorem q326_1697 : qD 326 1697 (.aload_n 2) 1 1698 ∧ ((2 : Fin 4) : Nat) = 2 := by decide +kernel
theorem q326_1698 : qD 326 1698 (.aload_n 0) 1 1699 ∧ ((0 : Fin 4) : Nat) = 0 := by decide +kernel
theorem q326_1699 : qD 326 1699 (.iload 4) 2 1701 := by decide +kernel
theorem q326_1701 : qD 326 1701 (.iconst 1) 1 1702 ∧ Int32.ofInt (1) = (1 : Int32) := by decide +kernel
theorem q326_1702 : qD 326 1702 (.iadd) 1 1703 := by decide +kernel
theorem q326_1703 : qD 326 1703 (.iaload) 1 1704 := by decide +kernel
theorem q326_1704 : qD 326 1704 (.invokevirtual 230) 3 1707 ∧ qI 326 230 291 1932 := by decide +kernel
theorem q326_1707 : qJ 326 1707 (.if_icmp .eq 5) 1710 (5) 1712 := by decide +kernel
theorem q326_1710 : qD 326 1710 (.iconst 0) 1 1711 ∧ Int32.ofInt (0) = (0 : Int32) := by decide +kernel
theorem q326_1711 : qD 326 1711 (.ireturn) 1 1712 ∧ mR 326 = some .boolean := by decide +kernel
theorem q326_1712 : qD 326 1712 (.iinc 4 6) 3 1715 ∧ 4 < mL 326 ∧ Int32.ofInt (6) = (6 : Int32) := by decide +kernel
theorem q326_1715 : qJ 326 1715 (.goto (-1692)) 1718 (-1692) 23 := by decide +kernel
theorem q326_1718 : qD 326 1718 (.iconst 1) 1 1719 ∧ Int32.ofInt (1) = (1 : Int32) := by decide +kernel
theorem q326_1719 : qD 326 1719 (.ireturn) 1 1720 ∧ mR 326 = some .boolean := by decide +kernel
