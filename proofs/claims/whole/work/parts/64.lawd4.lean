/-! the law, instruction by instruction (laid by wip/gen/lawd.py) -/
theorem d_law_1280 : decode code 1280 = .ok (.iaload, 1) := by decide +kernel
theorem d_law_1281 : decode code 1281 = .ok (.aload_n 3, 1) := by decide +kernel
theorem d_law_1282 : decode code 1282 = .ok (.invokestatic 161, 3) := by decide +kernel
theorem d_law_1285 : decode code 1285 = .ok (.istore 5, 2) := by decide +kernel
theorem d_law_1287 : decode code 1287 = .ok (.aload_n 2, 1) := by decide +kernel
theorem d_law_1288 : decode code 1288 = .ok (.aload_n 0, 1) := by decide +kernel
theorem d_law_1289 : decode code 1289 = .ok (.iload 4, 2) := by decide +kernel
theorem d_law_1291 : decode code 1291 = .ok (.iconst 1, 1) := by decide +kernel
theorem d_law_1292 : decode code 1292 = .ok (.iadd, 1) := by decide +kernel
theorem d_law_1293 : decode code 1293 = .ok (.iaload, 1) := by decide +kernel
theorem d_law_1294 : decode code 1294 = .ok (.invokevirtual 163, 3) := by decide +kernel
theorem d_law_1297 : decode code 1297 = .ok (.istore 6, 2) := by decide +kernel
theorem d_law_1299 : decode code 1299 = .ok (.aload_n 2, 1) := by decide +kernel
theorem d_law_1300 : decode code 1300 = .ok (.invokevirtual 99, 3) := by decide +kernel
theorem d_law_1303 : decode code 1303 = .ok (.iload 5, 2) := by decide +kernel
theorem d_law_1305 : decode code 1305 = .ok (.if_icmp .eq 5, 3) := by decide +kernel
theorem d_law_1308 : decode code 1308 = .ok (.iconst 0, 1) := by decide +kernel
theorem d_law_1309 : decode code 1309 = .ok (.ireturn, 1) := by decide +kernel
theorem d_law_1310 : decode code 1310 = .ok (.iload 5, 2) := by decide +kernel
theorem d_law_1312 : decode code 1312 = .ok (.ifCond .ne 15, 3) := by decide +kernel
theorem d_law_1315 : decode code 1315 = .ok (.aload_n 3, 1) := by decide +kernel
theorem d_law_1316 : decode code 1316 = .ok (.iconst 0, 1) := by decide +kernel
theorem d_law_1317 : decode code 1317 = .ok (.laload, 1) := by decide +kernel
theorem d_law_1318 : decode code 1318 = .ok (.iload 6, 2) := by decide +kernel
theorem d_law_1320 : decode code 1320 = .ok (.i2l, 1) := by decide +kernel
theorem d_law_1321 : decode code 1321 = .ok (.lcmp, 1) := by decide +kernel
theorem d_law_1322 : decode code 1322 = .ok (.ifCond .eq 5, 3) := by decide +kernel
theorem d_law_1325 : decode code 1325 = .ok (.iconst 0, 1) := by decide +kernel
theorem d_law_1326 : decode code 1326 = .ok (.ireturn, 1) := by decide +kernel
theorem d_law_1327 : decode code 1327 = .ok (.goto 352, 3) := by decide +kernel
theorem d_law_1330 : decode code 1330 = .ok (.aload_n 1, 1) := by decide +kernel
theorem d_law_1331 : decode code 1331 = .ok (.aload_n 0, 1) := by decide +kernel
theorem d_law_1332 : decode code 1332 = .ok (.iload 4, 2) := by decide +kernel
theorem d_law_1334 : decode code 1334 = .ok (.iconst 1, 1) := by decide +kernel
theorem d_law_1335 : decode code 1335 = .ok (.iadd, 1) := by decide +kernel
theorem d_law_1336 : decode code 1336 = .ok (.iaload, 1) := by decide +kernel
theorem d_law_1337 : decode code 1337 = .ok (.aload_n 3, 1) := by decide +kernel
theorem d_law_1338 : decode code 1338 = .ok (.invokestatic 164, 3) := by decide +kernel
theorem d_law_1341 : decode code 1341 = .ok (.istore 5, 2) := by decide +kernel
theorem d_law_1343 : decode code 1343 = .ok (.aload_n 2, 1) := by decide +kernel
theorem d_law_1344 : decode code 1344 = .ok (.aload_n 0, 1) := by decide +kernel
theorem d_law_1345 : decode code 1345 = .ok (.iload 4, 2) := by decide +kernel
theorem d_law_1347 : decode code 1347 = .ok (.iconst 1, 1) := by decide +kernel
theorem d_law_1348 : decode code 1348 = .ok (.iadd, 1) := by decide +kernel
theorem d_law_1349 : decode code 1349 = .ok (.iaload, 1) := by decide +kernel
theorem d_law_1350 : decode code 1350 = .ok (.invokevirtual 166, 3) := by decide +kernel
theorem d_law_1353 : decode code 1353 = .ok (.istore 6, 2) := by decide +kernel
theorem d_law_1355 : decode code 1355 = .ok (.aload_n 2, 1) := by decide +kernel
theorem d_law_1356 : decode code 1356 = .ok (.invokevirtual 99, 3) := by decide +kernel
theorem d_law_1359 : decode code 1359 = .ok (.iload 5, 2) := by decide +kernel
theorem d_law_1361 : decode code 1361 = .ok (.if_icmp .eq 5, 3) := by decide +kernel
theorem d_law_1364 : decode code 1364 = .ok (.iconst 0, 1) := by decide +kernel
theorem d_law_1365 : decode code 1365 = .ok (.ireturn, 1) := by decide +kernel
theorem d_law_1366 : decode code 1366 = .ok (.iload 5, 2) := by decide +kernel
theorem d_law_1368 : decode code 1368 = .ok (.ifCond .ne 15, 3) := by decide +kernel
theorem d_law_1371 : decode code 1371 = .ok (.aload_n 3, 1) := by decide +kernel
theorem d_law_1372 : decode code 1372 = .ok (.iconst 0, 1) := by decide +kernel
theorem d_law_1373 : decode code 1373 = .ok (.laload, 1) := by decide +kernel
theorem d_law_1374 : decode code 1374 = .ok (.iload 6, 2) := by decide +kernel
theorem d_law_1376 : decode code 1376 = .ok (.i2l, 1) := by decide +kernel
theorem d_law_1377 : decode code 1377 = .ok (.lcmp, 1) := by decide +kernel
theorem d_law_1378 : decode code 1378 = .ok (.ifCond .eq 5, 3) := by decide +kernel
theorem d_law_1381 : decode code 1381 = .ok (.iconst 0, 1) := by decide +kernel
theorem d_law_1382 : decode code 1382 = .ok (.ireturn, 1) := by decide +kernel
theorem d_law_1383 : decode code 1383 = .ok (.goto 296, 3) := by decide +kernel
theorem d_law_1386 : decode code 1386 = .ok (.aload_n 1, 1) := by decide +kernel
theorem d_law_1387 : decode code 1387 = .ok (.aload_n 0, 1) := by decide +kernel
theorem d_law_1388 : decode code 1388 = .ok (.iload 4, 2) := by decide +kernel
theorem d_law_1390 : decode code 1390 = .ok (.iconst 1, 1) := by decide +kernel
theorem d_law_1391 : decode code 1391 = .ok (.iadd, 1) := by decide +kernel
theorem d_law_1392 : decode code 1392 = .ok (.iaload, 1) := by decide +kernel
theorem d_law_1393 : decode code 1393 = .ok (.aload_n 3, 1) := by decide +kernel
theorem d_law_1394 : decode code 1394 = .ok (.invokestatic 167, 3) := by decide +kernel
theorem d_law_1397 : decode code 1397 = .ok (.istore 5, 2) := by decide +kernel
theorem d_law_1399 : decode code 1399 = .ok (.aload_n 2, 1) := by decide +kernel
theorem d_law_1400 : decode code 1400 = .ok (.aload_n 0, 1) := by decide +kernel
theorem d_law_1401 : decode code 1401 = .ok (.iload 4, 2) := by decide +kernel
theorem d_law_1403 : decode code 1403 = .ok (.iconst 1, 1) := by decide +kernel
theorem d_law_1404 : decode code 1404 = .ok (.iadd, 1) := by decide +kernel
theorem d_law_1405 : decode code 1405 = .ok (.iaload, 1) := by decide +kernel
theorem d_law_1406 : decode code 1406 = .ok (.invokevirtual 169, 3) := by decide +kernel
theorem d_law_1409 : decode code 1409 = .ok (.istore 6, 2) := by decide +kernel
theorem d_law_1411 : decode code 1411 = .ok (.aload_n 2, 1) := by decide +kernel
theorem d_law_1412 : decode code 1412 = .ok (.invokevirtual 99, 3) := by decide +kernel
theorem d_law_1415 : decode code 1415 = .ok (.iload 5, 2) := by decide +kernel
theorem d_law_1417 : decode code 1417 = .ok (.if_icmp .eq 5, 3) := by decide +kernel
theorem d_law_1420 : decode code 1420 = .ok (.iconst 0, 1) := by decide +kernel
theorem d_law_1421 : decode code 1421 = .ok (.ireturn, 1) := by decide +kernel
theorem d_law_1422 : decode code 1422 = .ok (.iload 5, 2) := by decide +kernel
theorem d_law_1424 : decode code 1424 = .ok (.ifCond .ne 15, 3) := by decide +kernel
theorem d_law_1427 : decode code 1427 = .ok (.aload_n 3, 1) := by decide +kernel
theorem d_law_1428 : decode code 1428 = .ok (.iconst 0, 1) := by decide +kernel
theorem d_law_1429 : decode code 1429 = .ok (.laload, 1) := by decide +kernel
theorem d_law_1430 : decode code 1430 = .ok (.iload 6, 2) := by decide +kernel
theorem d_law_1432 : decode code 1432 = .ok (.i2l, 1) := by decide +kernel
theorem d_law_1433 : decode code 1433 = .ok (.lcmp, 1) := by decide +kernel
theorem d_law_1434 : decode code 1434 = .ok (.ifCond .eq 5, 3) := by decide +kernel
theorem d_law_1437 : decode code 1437 = .ok (.iconst 0, 1) := by decide +kernel
theorem d_law_1438 : decode code 1438 = .ok (.ireturn, 1) := by decide +kernel
theorem d_law_1439 : decode code 1439 = .ok (.goto 240, 3) := by decide +kernel
theorem d_law_1442 : decode code 1442 = .ok (.aload_n 1, 1) := by decide +kernel
theorem d_law_1443 : decode code 1443 = .ok (.aload_n 0, 1) := by decide +kernel
theorem d_law_1444 : decode code 1444 = .ok (.iload 4, 2) := by decide +kernel
theorem d_law_1446 : decode code 1446 = .ok (.iconst 1, 1) := by decide +kernel
theorem d_law_1447 : decode code 1447 = .ok (.iadd, 1) := by decide +kernel
theorem d_law_1448 : decode code 1448 = .ok (.iaload, 1) := by decide +kernel
theorem d_law_1449 : decode code 1449 = .ok (.aload_n 3, 1) := by decide +kernel
theorem d_law_1450 : decode code 1450 = .ok (.invokestatic 170, 3) := by decide +kernel
theorem d_law_1453 : decode code 1453 = .ok (.istore 5, 2) := by decide +kernel
theorem d_law_1455 : decode code 1455 = .ok (.aload_n 2, 1) := by decide +kernel
theorem d_law_1456 : decode code 1456 = .ok (.aload_n 0, 1) := by decide +kernel
theorem d_law_1457 : decode code 1457 = .ok (.iload 4, 2) := by decide +kernel
theorem d_law_1459 : decode code 1459 = .ok (.iconst 1, 1) := by decide +kernel
theorem d_law_1460 : decode code 1460 = .ok (.iadd, 1) := by decide +kernel
theorem d_law_1461 : decode code 1461 = .ok (.iaload, 1) := by decide +kernel
theorem d_law_1462 : decode code 1462 = .ok (.invokevirtual 172, 3) := by decide +kernel
theorem d_law_1465 : decode code 1465 = .ok (.istore 6, 2) := by decide +kernel
theorem d_law_1467 : decode code 1467 = .ok (.aload_n 2, 1) := by decide +kernel
theorem d_law_1468 : decode code 1468 = .ok (.invokevirtual 99, 3) := by decide +kernel
theorem d_law_1471 : decode code 1471 = .ok (.iload 5, 2) := by decide +kernel
theorem d_law_1473 : decode code 1473 = .ok (.if_icmp .eq 5, 3) := by decide +kernel
theorem d_law_1476 : decode code 1476 = .ok (.iconst 0, 1) := by decide +kernel
theorem d_law_1477 : decode code 1477 = .ok (.ireturn, 1) := by decide +kernel
theorem d_law_1478 : decode code 1478 = .ok (.iload 5, 2) := by decide +kernel
theorem d_law_1480 : decode code 1480 = .ok (.ifCond .ne 15, 3) := by decide +kernel
theorem d_law_1483 : decode code 1483 = .ok (.aload_n 3, 1) := by decide +kernel
theorem d_law_1484 : decode code 1484 = .ok (.iconst 0, 1) := by decide +kernel
theorem d_law_1485 : decode code 1485 = .ok (.laload, 1) := by decide +kernel
theorem d_law_1486 : decode code 1486 = .ok (.iload 6, 2) := by decide +kernel
theorem d_law_1488 : decode code 1488 = .ok (.i2l, 1) := by decide +kernel
theorem d_law_1489 : decode code 1489 = .ok (.lcmp, 1) := by decide +kernel
theorem d_law_1490 : decode code 1490 = .ok (.ifCond .eq 5, 3) := by decide +kernel
theorem d_law_1493 : decode code 1493 = .ok (.iconst 0, 1) := by decide +kernel
theorem d_law_1494 : decode code 1494 = .ok (.ireturn, 1) := by decide +kernel
theorem d_law_1495 : decode code 1495 = .ok (.goto 184, 3) := by decide +kernel
theorem d_law_1498 : decode code 1498 = .ok (.aload_n 1, 1) := by decide +kernel
theorem d_law_1499 : decode code 1499 = .ok (.aload_n 0, 1) := by decide +kernel
theorem d_law_1500 : decode code 1500 = .ok (.iload 4, 2) := by decide +kernel
theorem d_law_1502 : decode code 1502 = .ok (.iconst 1, 1) := by decide +kernel
theorem d_law_1503 : decode code 1503 = .ok (.iadd, 1) := by decide +kernel
theorem d_law_1504 : decode code 1504 = .ok (.iaload, 1) := by decide +kernel
theorem d_law_1505 : decode code 1505 = .ok (.aload_n 3, 1) := by decide +kernel
theorem d_law_1506 : decode code 1506 = .ok (.invokestatic 173, 3) := by decide +kernel
theorem d_law_1509 : decode code 1509 = .ok (.istore 5, 2) := by decide +kernel
theorem d_law_1511 : decode code 1511 = .ok (.aload_n 2, 1) := by decide +kernel
theorem d_law_1512 : decode code 1512 = .ok (.aload_n 0, 1) := by decide +kernel
theorem d_law_1513 : decode code 1513 = .ok (.iload 4, 2) := by decide +kernel
theorem d_law_1515 : decode code 1515 = .ok (.iconst 1, 1) := by decide +kernel
theorem d_law_1516 : decode code 1516 = .ok (.iadd, 1) := by decide +kernel
theorem d_law_1517 : decode code 1517 = .ok (.iaload, 1) := by decide +kernel
theorem d_law_1518 : decode code 1518 = .ok (.invokevirtual 175, 3) := by decide +kernel
theorem d_law_1521 : decode code 1521 = .ok (.istore 6, 2) := by decide +kernel
theorem d_law_1523 : decode code 1523 = .ok (.aload_n 2, 1) := by decide +kernel
theorem d_law_1524 : decode code 1524 = .ok (.invokevirtual 99, 3) := by decide +kernel
theorem d_law_1527 : decode code 1527 = .ok (.iload 5, 2) := by decide +kernel
theorem d_law_1529 : decode code 1529 = .ok (.if_icmp .eq 5, 3) := by decide +kernel
theorem d_law_1532 : decode code 1532 = .ok (.iconst 0, 1) := by decide +kernel
theorem d_law_1533 : decode code 1533 = .ok (.ireturn, 1) := by decide +kernel
theorem d_law_1534 : decode code 1534 = .ok (.iload 5, 2) := by decide +kernel
theorem d_law_1536 : decode code 1536 = .ok (.ifCond .ne 15, 3) := by decide +kernel
theorem d_law_1539 : decode code 1539 = .ok (.aload_n 3, 1) := by decide +kernel
theorem d_law_1540 : decode code 1540 = .ok (.iconst 0, 1) := by decide +kernel
theorem d_law_1541 : decode code 1541 = .ok (.laload, 1) := by decide +kernel
theorem d_law_1542 : decode code 1542 = .ok (.iload 6, 2) := by decide +kernel
theorem d_law_1544 : decode code 1544 = .ok (.i2l, 1) := by decide +kernel
theorem d_law_1545 : decode code 1545 = .ok (.lcmp, 1) := by decide +kernel
theorem d_law_1546 : decode code 1546 = .ok (.ifCond .eq 5, 3) := by decide +kernel
theorem d_law_1549 : decode code 1549 = .ok (.iconst 0, 1) := by decide +kernel
theorem d_law_1550 : decode code 1550 = .ok (.ireturn, 1) := by decide +kernel
theorem d_law_1551 : decode code 1551 = .ok (.goto 128, 3) := by decide +kernel
theorem d_law_1554 : decode code 1554 = .ok (.aload_n 1, 1) := by decide +kernel
theorem d_law_1555 : decode code 1555 = .ok (.aload_n 0, 1) := by decide +kernel
theorem d_law_1556 : decode code 1556 = .ok (.iload 4, 2) := by decide +kernel
theorem d_law_1558 : decode code 1558 = .ok (.iconst 1, 1) := by decide +kernel
theorem d_law_1559 : decode code 1559 = .ok (.iadd, 1) := by decide +kernel
theorem d_law_1560 : decode code 1560 = .ok (.iaload, 1) := by decide +kernel
theorem d_law_1561 : decode code 1561 = .ok (.aload_n 3, 1) := by decide +kernel
theorem d_law_1562 : decode code 1562 = .ok (.invokestatic 176, 3) := by decide +kernel
theorem d_law_1565 : decode code 1565 = .ok (.istore 5, 2) := by decide +kernel
theorem d_law_1567 : decode code 1567 = .ok (.aload_n 2, 1) := by decide +kernel
theorem d_law_1568 : decode code 1568 = .ok (.aload_n 0, 1) := by decide +kernel
theorem d_law_1569 : decode code 1569 = .ok (.iload 4, 2) := by decide +kernel
theorem d_law_1571 : decode code 1571 = .ok (.iconst 1, 1) := by decide +kernel
theorem d_law_1572 : decode code 1572 = .ok (.iadd, 1) := by decide +kernel
theorem d_law_1573 : decode code 1573 = .ok (.iaload, 1) := by decide +kernel
theorem d_law_1574 : decode code 1574 = .ok (.invokevirtual 178, 3) := by decide +kernel
theorem d_law_1577 : decode code 1577 = .ok (.istore 6, 2) := by decide +kernel
theorem d_law_1579 : decode code 1579 = .ok (.aload_n 2, 1) := by decide +kernel
theorem d_law_1580 : decode code 1580 = .ok (.invokevirtual 99, 3) := by decide +kernel
theorem d_law_1583 : decode code 1583 = .ok (.iload 5, 2) := by decide +kernel
theorem d_law_1585 : decode code 1585 = .ok (.if_icmp .eq 5, 3) := by decide +kernel
theorem d_law_1588 : decode code 1588 = .ok (.iconst 0, 1) := by decide +kernel
theorem d_law_1589 : decode code 1589 = .ok (.ireturn, 1) := by decide +kernel
theorem d_law_1590 : decode code 1590 = .ok (.iload 5, 2) := by decide +kernel
theorem d_law_1592 : decode code 1592 = .ok (.ifCond .ne 15, 3) := by decide +kernel
theorem d_law_1595 : decode code 1595 = .ok (.aload_n 3, 1) := by decide +kernel
theorem d_law_1596 : decode code 1596 = .ok (.iconst 0, 1) := by decide +kernel
theorem d_law_1597 : decode code 1597 = .ok (.laload, 1) := by decide +kernel
theorem d_law_1598 : decode code 1598 = .ok (.iload 6, 2) := by decide +kernel
theorem d_law_1600 : decode code 1600 = .ok (.i2l, 1) := by decide +kernel
theorem d_law_1601 : decode code 1601 = .ok (.lcmp, 1) := by decide +kernel
theorem d_law_1602 : decode code 1602 = .ok (.ifCond .eq 5, 3) := by decide +kernel
theorem d_law_1605 : decode code 1605 = .ok (.iconst 0, 1) := by decide +kernel
theorem d_law_1606 : decode code 1606 = .ok (.ireturn, 1) := by decide +kernel
theorem d_law_1607 : decode code 1607 = .ok (.goto 72, 3) := by decide +kernel
theorem d_law_1610 : decode code 1610 = .ok (.aload_n 1, 1) := by decide +kernel
theorem d_law_1611 : decode code 1611 = .ok (.aload_n 0, 1) := by decide +kernel
theorem d_law_1612 : decode code 1612 = .ok (.iload 4, 2) := by decide +kernel
theorem d_law_1614 : decode code 1614 = .ok (.iconst 1, 1) := by decide +kernel
theorem d_law_1615 : decode code 1615 = .ok (.iadd, 1) := by decide +kernel
theorem d_law_1616 : decode code 1616 = .ok (.iaload, 1) := by decide +kernel
theorem d_law_1617 : decode code 1617 = .ok (.aload_n 3, 1) := by decide +kernel
theorem d_law_1618 : decode code 1618 = .ok (.invokestatic 179, 3) := by decide +kernel
theorem d_law_1621 : decode code 1621 = .ok (.istore 5, 2) := by decide +kernel
theorem d_law_1623 : decode code 1623 = .ok (.aload_n 2, 1) := by decide +kernel
theorem d_law_1624 : decode code 1624 = .ok (.aload_n 0, 1) := by decide +kernel
theorem d_law_1625 : decode code 1625 = .ok (.iload 4, 2) := by decide +kernel
theorem d_law_1627 : decode code 1627 = .ok (.iconst 1, 1) := by decide +kernel
theorem d_law_1628 : decode code 1628 = .ok (.iadd, 1) := by decide +kernel
theorem d_law_1629 : decode code 1629 = .ok (.iaload, 1) := by decide +kernel
theorem d_law_1630 : decode code 1630 = .ok (.invokevirtual 181, 3) := by decide +kernel
theorem d_law_1633 : decode code 1633 = .ok (.istore 6, 2) := by decide +kernel
theorem d_law_1635 : decode code 1635 = .ok (.aload_n 2, 1) := by decide +kernel
theorem d_law_1636 : decode code 1636 = .ok (.invokevirtual 99, 3) := by decide +kernel
theorem d_law_1639 : decode code 1639 = .ok (.iload 5, 2) := by decide +kernel
theorem d_law_1641 : decode code 1641 = .ok (.if_icmp .eq 5, 3) := by decide +kernel
theorem d_law_1644 : decode code 1644 = .ok (.iconst 0, 1) := by decide +kernel
theorem d_law_1645 : decode code 1645 = .ok (.ireturn, 1) := by decide +kernel
theorem d_law_1646 : decode code 1646 = .ok (.iload 5, 2) := by decide +kernel
theorem d_law_1648 : decode code 1648 = .ok (.ifCond .ne 15, 3) := by decide +kernel
theorem d_law_1651 : decode code 1651 = .ok (.aload_n 3, 1) := by decide +kernel
theorem d_law_1652 : decode code 1652 = .ok (.iconst 0, 1) := by decide +kernel
theorem d_law_1653 : decode code 1653 = .ok (.laload, 1) := by decide +kernel
theorem d_law_1654 : decode code 1654 = .ok (.iload 6, 2) := by decide +kernel
theorem d_law_1656 : decode code 1656 = .ok (.i2l, 1) := by decide +kernel
theorem d_law_1657 : decode code 1657 = .ok (.lcmp, 1) := by decide +kernel
theorem d_law_1658 : decode code 1658 = .ok (.ifCond .eq 5, 3) := by decide +kernel
theorem d_law_1661 : decode code 1661 = .ok (.iconst 0, 1) := by decide +kernel
theorem d_law_1662 : decode code 1662 = .ok (.ireturn, 1) := by decide +kernel
theorem d_law_1663 : decode code 1663 = .ok (.goto 16, 3) := by decide +kernel
theorem d_law_1666 : decode code 1666 = .ok (.aload_n 1, 1) := by decide +kernel
theorem d_law_1667 : decode code 1667 = .ok (.invokevirtual 182, 3) := by decide +kernel
theorem d_law_1670 : decode code 1670 = .ok (.aload_n 2, 1) := by decide +kernel
theorem d_law_1671 : decode code 1671 = .ok (.invokevirtual 185, 3) := by decide +kernel
theorem d_law_1674 : decode code 1674 = .ok (.if_icmp .eq 5, 3) := by decide +kernel
theorem d_law_1677 : decode code 1677 = .ok (.iconst 0, 1) := by decide +kernel
theorem d_law_1678 : decode code 1678 = .ok (.ireturn, 1) := by decide +kernel
theorem d_law_1679 : decode code 1679 = .ok (.iinc 4 6, 3) := by decide +kernel
theorem d_law_1682 : decode code 1682 = .ok (.goto (-1659), 3) := by decide +kernel
theorem d_law_1685 : decode code 1685 = .ok (.iconst 1, 1) := by decide +kernel
theorem d_law_1686 : decode code 1686 = .ok (.ireturn, 1) := by decide +kernel
