/-! decode rows of the law (by program) -/
theorem d_L_1358 : decode code 1358 = .ok (.aload_n 2, 1) := by decide +kernel
theorem d_L_1359 : decode code 1359 = .ok (.aload_n 0, 1) := by decide +kernel
theorem d_L_1360 : decode code 1360 = .ok (.iload_n 3, 1) := by decide +kernel
theorem d_L_1361 : decode code 1361 = .ok (.iconst 1, 1) := by decide +kernel
theorem d_L_1362 : decode code 1362 = .ok (.iadd, 1) := by decide +kernel
theorem d_L_1363 : decode code 1363 = .ok (.iaload, 1) := by decide +kernel
theorem d_L_1364 : decode code 1364 = .ok (.aload_n 0, 1) := by decide +kernel
theorem d_L_1365 : decode code 1365 = .ok (.iload_n 3, 1) := by decide +kernel
theorem d_L_1366 : decode code 1366 = .ok (.iconst 2, 1) := by decide +kernel
theorem d_L_1367 : decode code 1367 = .ok (.iadd, 1) := by decide +kernel
theorem d_L_1368 : decode code 1368 = .ok (.iaload, 1) := by decide +kernel
theorem d_L_1369 : decode code 1369 = .ok (.aload_n 0, 1) := by decide +kernel
theorem d_L_1370 : decode code 1370 = .ok (.iload_n 3, 1) := by decide +kernel
theorem d_L_1371 : decode code 1371 = .ok (.iconst 3, 1) := by decide +kernel
theorem d_L_1372 : decode code 1372 = .ok (.iadd, 1) := by decide +kernel
theorem d_L_1373 : decode code 1373 = .ok (.iaload, 1) := by decide +kernel
theorem d_L_1374 : decode code 1374 = .ok (.invokevirtual 156, 3) := by decide +kernel
theorem d_L_1377 : decode code 1377 = .ok (.if_icmp .eq 316, 3) := by decide +kernel
theorem d_L_1380 : decode code 1380 = .ok (.iconst 0, 1) := by decide +kernel
theorem d_L_1381 : decode code 1381 = .ok (.ireturn, 1) := by decide +kernel
theorem d_L_1382 : decode code 1382 = .ok (.aload_n 1, 1) := by decide +kernel
theorem d_L_1383 : decode code 1383 = .ok (.aload_n 0, 1) := by decide +kernel
theorem d_L_1384 : decode code 1384 = .ok (.iload_n 3, 1) := by decide +kernel
theorem d_L_1385 : decode code 1385 = .ok (.iconst 1, 1) := by decide +kernel
theorem d_L_1386 : decode code 1386 = .ok (.iadd, 1) := by decide +kernel
theorem d_L_1387 : decode code 1387 = .ok (.iaload, 1) := by decide +kernel
theorem d_L_1388 : decode code 1388 = .ok (.aload_n 0, 1) := by decide +kernel
theorem d_L_1389 : decode code 1389 = .ok (.iload_n 3, 1) := by decide +kernel
theorem d_L_1390 : decode code 1390 = .ok (.iconst 2, 1) := by decide +kernel
theorem d_L_1391 : decode code 1391 = .ok (.iadd, 1) := by decide +kernel
theorem d_L_1392 : decode code 1392 = .ok (.iaload, 1) := by decide +kernel
theorem d_L_1393 : decode code 1393 = .ok (.aload_n 0, 1) := by decide +kernel
theorem d_L_1394 : decode code 1394 = .ok (.iload_n 3, 1) := by decide +kernel
theorem d_L_1395 : decode code 1395 = .ok (.iconst 3, 1) := by decide +kernel
theorem d_L_1396 : decode code 1396 = .ok (.iadd, 1) := by decide +kernel
theorem d_L_1397 : decode code 1397 = .ok (.iaload, 1) := by decide +kernel
theorem d_L_1398 : decode code 1398 = .ok (.invokevirtual 157, 3) := by decide +kernel
theorem d_L_1401 : decode code 1401 = .ok (.aload_n 2, 1) := by decide +kernel
theorem d_L_1402 : decode code 1402 = .ok (.aload_n 0, 1) := by decide +kernel
theorem d_L_1403 : decode code 1403 = .ok (.iload_n 3, 1) := by decide +kernel
theorem d_L_1404 : decode code 1404 = .ok (.iconst 1, 1) := by decide +kernel
theorem d_L_1405 : decode code 1405 = .ok (.iadd, 1) := by decide +kernel
theorem d_L_1406 : decode code 1406 = .ok (.iaload, 1) := by decide +kernel
theorem d_L_1407 : decode code 1407 = .ok (.aload_n 0, 1) := by decide +kernel
theorem d_L_1408 : decode code 1408 = .ok (.iload_n 3, 1) := by decide +kernel
theorem d_L_1409 : decode code 1409 = .ok (.iconst 2, 1) := by decide +kernel
theorem d_L_1410 : decode code 1410 = .ok (.iadd, 1) := by decide +kernel
theorem d_L_1411 : decode code 1411 = .ok (.iaload, 1) := by decide +kernel
theorem d_L_1412 : decode code 1412 = .ok (.aload_n 0, 1) := by decide +kernel
theorem d_L_1413 : decode code 1413 = .ok (.iload_n 3, 1) := by decide +kernel
theorem d_L_1414 : decode code 1414 = .ok (.iconst 3, 1) := by decide +kernel
theorem d_L_1415 : decode code 1415 = .ok (.iadd, 1) := by decide +kernel
theorem d_L_1416 : decode code 1416 = .ok (.iaload, 1) := by decide +kernel
theorem d_L_1417 : decode code 1417 = .ok (.invokevirtual 160, 3) := by decide +kernel
theorem d_L_1420 : decode code 1420 = .ok (.if_icmp .eq 273, 3) := by decide +kernel
theorem d_L_1423 : decode code 1423 = .ok (.iconst 0, 1) := by decide +kernel
theorem d_L_1424 : decode code 1424 = .ok (.ireturn, 1) := by decide +kernel
theorem d_L_1425 : decode code 1425 = .ok (.aload_n 1, 1) := by decide +kernel
theorem d_L_1426 : decode code 1426 = .ok (.aload_n 0, 1) := by decide +kernel
theorem d_L_1427 : decode code 1427 = .ok (.iload_n 3, 1) := by decide +kernel
theorem d_L_1428 : decode code 1428 = .ok (.iconst 1, 1) := by decide +kernel
theorem d_L_1429 : decode code 1429 = .ok (.iadd, 1) := by decide +kernel
theorem d_L_1430 : decode code 1430 = .ok (.iaload, 1) := by decide +kernel
theorem d_L_1431 : decode code 1431 = .ok (.aload_n 0, 1) := by decide +kernel
theorem d_L_1432 : decode code 1432 = .ok (.iload_n 3, 1) := by decide +kernel
theorem d_L_1433 : decode code 1433 = .ok (.iconst 2, 1) := by decide +kernel
theorem d_L_1434 : decode code 1434 = .ok (.iadd, 1) := by decide +kernel
theorem d_L_1435 : decode code 1435 = .ok (.iaload, 1) := by decide +kernel
theorem d_L_1436 : decode code 1436 = .ok (.invokevirtual 161, 3) := by decide +kernel
theorem d_L_1439 : decode code 1439 = .ok (.aload_n 2, 1) := by decide +kernel
theorem d_L_1440 : decode code 1440 = .ok (.aload_n 0, 1) := by decide +kernel
theorem d_L_1441 : decode code 1441 = .ok (.iload_n 3, 1) := by decide +kernel
theorem d_L_1442 : decode code 1442 = .ok (.iconst 1, 1) := by decide +kernel
theorem d_L_1443 : decode code 1443 = .ok (.iadd, 1) := by decide +kernel
theorem d_L_1444 : decode code 1444 = .ok (.iaload, 1) := by decide +kernel
theorem d_L_1445 : decode code 1445 = .ok (.aload_n 0, 1) := by decide +kernel
theorem d_L_1446 : decode code 1446 = .ok (.iload_n 3, 1) := by decide +kernel
theorem d_L_1447 : decode code 1447 = .ok (.iconst 2, 1) := by decide +kernel
theorem d_L_1448 : decode code 1448 = .ok (.iadd, 1) := by decide +kernel
theorem d_L_1449 : decode code 1449 = .ok (.iaload, 1) := by decide +kernel
theorem d_L_1450 : decode code 1450 = .ok (.invokevirtual 164, 3) := by decide +kernel
theorem d_L_1453 : decode code 1453 = .ok (.if_icmp .eq 240, 3) := by decide +kernel
theorem d_L_1456 : decode code 1456 = .ok (.iconst 0, 1) := by decide +kernel
theorem d_L_1457 : decode code 1457 = .ok (.ireturn, 1) := by decide +kernel
theorem d_L_1458 : decode code 1458 = .ok (.aload_n 1, 1) := by decide +kernel
theorem d_L_1459 : decode code 1459 = .ok (.invokevirtual 165, 3) := by decide +kernel
theorem d_L_1462 : decode code 1462 = .ok (.aload_n 2, 1) := by decide +kernel
theorem d_L_1463 : decode code 1463 = .ok (.invokevirtual 168, 3) := by decide +kernel
theorem d_L_1466 : decode code 1466 = .ok (.if_icmp .eq 227, 3) := by decide +kernel
theorem d_L_1469 : decode code 1469 = .ok (.iconst 0, 1) := by decide +kernel
theorem d_L_1470 : decode code 1470 = .ok (.ireturn, 1) := by decide +kernel
theorem d_L_1471 : decode code 1471 = .ok (.aload_n 1, 1) := by decide +kernel
theorem d_L_1472 : decode code 1472 = .ok (.aload_n 0, 1) := by decide +kernel
theorem d_L_1473 : decode code 1473 = .ok (.iload_n 3, 1) := by decide +kernel
theorem d_L_1474 : decode code 1474 = .ok (.iconst 1, 1) := by decide +kernel
theorem d_L_1475 : decode code 1475 = .ok (.iadd, 1) := by decide +kernel
theorem d_L_1476 : decode code 1476 = .ok (.iaload, 1) := by decide +kernel
theorem d_L_1477 : decode code 1477 = .ok (.invokevirtual 169, 3) := by decide +kernel
theorem d_L_1480 : decode code 1480 = .ok (.aload_n 2, 1) := by decide +kernel
theorem d_L_1481 : decode code 1481 = .ok (.aload_n 0, 1) := by decide +kernel
theorem d_L_1482 : decode code 1482 = .ok (.iload_n 3, 1) := by decide +kernel
theorem d_L_1483 : decode code 1483 = .ok (.iconst 1, 1) := by decide +kernel
theorem d_L_1484 : decode code 1484 = .ok (.iadd, 1) := by decide +kernel
theorem d_L_1485 : decode code 1485 = .ok (.iaload, 1) := by decide +kernel
theorem d_L_1486 : decode code 1486 = .ok (.invokevirtual 172, 3) := by decide +kernel
theorem d_L_1489 : decode code 1489 = .ok (.if_icmp .eq 204, 3) := by decide +kernel
theorem d_L_1492 : decode code 1492 = .ok (.iconst 0, 1) := by decide +kernel
theorem d_L_1493 : decode code 1493 = .ok (.ireturn, 1) := by decide +kernel
theorem d_L_1494 : decode code 1494 = .ok (.aload_n 1, 1) := by decide +kernel
theorem d_L_1495 : decode code 1495 = .ok (.invokevirtual 173, 3) := by decide +kernel
theorem d_L_1498 : decode code 1498 = .ok (.aload_n 2, 1) := by decide +kernel
theorem d_L_1499 : decode code 1499 = .ok (.invokevirtual 176, 3) := by decide +kernel
theorem d_L_1502 : decode code 1502 = .ok (.if_icmp .eq 191, 3) := by decide +kernel
theorem d_L_1505 : decode code 1505 = .ok (.iconst 0, 1) := by decide +kernel
theorem d_L_1506 : decode code 1506 = .ok (.ireturn, 1) := by decide +kernel
theorem d_L_1507 : decode code 1507 = .ok (.aload_n 1, 1) := by decide +kernel
theorem d_L_1508 : decode code 1508 = .ok (.aload_n 0, 1) := by decide +kernel
theorem d_L_1509 : decode code 1509 = .ok (.iload_n 3, 1) := by decide +kernel
theorem d_L_1510 : decode code 1510 = .ok (.iconst 1, 1) := by decide +kernel
theorem d_L_1511 : decode code 1511 = .ok (.iadd, 1) := by decide +kernel
theorem d_L_1512 : decode code 1512 = .ok (.iaload, 1) := by decide +kernel
theorem d_L_1513 : decode code 1513 = .ok (.aload_n 0, 1) := by decide +kernel
theorem d_L_1514 : decode code 1514 = .ok (.iload_n 3, 1) := by decide +kernel
theorem d_L_1515 : decode code 1515 = .ok (.iconst 2, 1) := by decide +kernel
theorem d_L_1516 : decode code 1516 = .ok (.iadd, 1) := by decide +kernel
theorem d_L_1517 : decode code 1517 = .ok (.iaload, 1) := by decide +kernel
theorem d_L_1518 : decode code 1518 = .ok (.ifCond .eq 7, 3) := by decide +kernel
theorem d_L_1521 : decode code 1521 = .ok (.iconst 1, 1) := by decide +kernel
theorem d_L_1522 : decode code 1522 = .ok (.goto 4, 3) := by decide +kernel
theorem d_L_1525 : decode code 1525 = .ok (.iconst 0, 1) := by decide +kernel
theorem d_L_1526 : decode code 1526 = .ok (.invokevirtual 177, 3) := by decide +kernel
theorem d_L_1529 : decode code 1529 = .ok (.aload_n 2, 1) := by decide +kernel
theorem d_L_1530 : decode code 1530 = .ok (.aload_n 0, 1) := by decide +kernel
theorem d_L_1531 : decode code 1531 = .ok (.iload_n 3, 1) := by decide +kernel
theorem d_L_1532 : decode code 1532 = .ok (.iconst 1, 1) := by decide +kernel
theorem d_L_1533 : decode code 1533 = .ok (.iadd, 1) := by decide +kernel
theorem d_L_1534 : decode code 1534 = .ok (.iaload, 1) := by decide +kernel
theorem d_L_1535 : decode code 1535 = .ok (.aload_n 0, 1) := by decide +kernel
theorem d_L_1536 : decode code 1536 = .ok (.iload_n 3, 1) := by decide +kernel
theorem d_L_1537 : decode code 1537 = .ok (.iconst 2, 1) := by decide +kernel
theorem d_L_1538 : decode code 1538 = .ok (.iadd, 1) := by decide +kernel
theorem d_L_1539 : decode code 1539 = .ok (.iaload, 1) := by decide +kernel
theorem d_L_1540 : decode code 1540 = .ok (.ifCond .eq 7, 3) := by decide +kernel
theorem d_L_1543 : decode code 1543 = .ok (.iconst 1, 1) := by decide +kernel
theorem d_L_1544 : decode code 1544 = .ok (.goto 4, 3) := by decide +kernel
theorem d_L_1547 : decode code 1547 = .ok (.iconst 0, 1) := by decide +kernel
theorem d_L_1548 : decode code 1548 = .ok (.invokevirtual 180, 3) := by decide +kernel
theorem d_L_1551 : decode code 1551 = .ok (.if_icmp .eq 142, 3) := by decide +kernel
theorem d_L_1554 : decode code 1554 = .ok (.iconst 0, 1) := by decide +kernel
theorem d_L_1555 : decode code 1555 = .ok (.ireturn, 1) := by decide +kernel
theorem d_L_1556 : decode code 1556 = .ok (.aload_n 1, 1) := by decide +kernel
theorem d_L_1557 : decode code 1557 = .ok (.aload_n 0, 1) := by decide +kernel
theorem d_L_1558 : decode code 1558 = .ok (.iload_n 3, 1) := by decide +kernel
theorem d_L_1559 : decode code 1559 = .ok (.iconst 1, 1) := by decide +kernel
theorem d_L_1560 : decode code 1560 = .ok (.iadd, 1) := by decide +kernel
theorem d_L_1561 : decode code 1561 = .ok (.iaload, 1) := by decide +kernel
theorem d_L_1562 : decode code 1562 = .ok (.invokevirtual 181, 3) := by decide +kernel
theorem d_L_1565 : decode code 1565 = .ok (.aload_n 2, 1) := by decide +kernel
theorem d_L_1566 : decode code 1566 = .ok (.aload_n 0, 1) := by decide +kernel
theorem d_L_1567 : decode code 1567 = .ok (.iload_n 3, 1) := by decide +kernel
theorem d_L_1568 : decode code 1568 = .ok (.iconst 1, 1) := by decide +kernel
theorem d_L_1569 : decode code 1569 = .ok (.iadd, 1) := by decide +kernel
theorem d_L_1570 : decode code 1570 = .ok (.iaload, 1) := by decide +kernel
theorem d_L_1571 : decode code 1571 = .ok (.invokevirtual 184, 3) := by decide +kernel
theorem d_L_1574 : decode code 1574 = .ok (.if_icmp .eq 119, 3) := by decide +kernel
theorem d_L_1577 : decode code 1577 = .ok (.iconst 0, 1) := by decide +kernel
theorem d_L_1578 : decode code 1578 = .ok (.ireturn, 1) := by decide +kernel
theorem d_L_1579 : decode code 1579 = .ok (.aload_n 1, 1) := by decide +kernel
theorem d_L_1580 : decode code 1580 = .ok (.invokevirtual 185, 3) := by decide +kernel
theorem d_L_1583 : decode code 1583 = .ok (.aload_n 2, 1) := by decide +kernel
theorem d_L_1584 : decode code 1584 = .ok (.invokevirtual 188, 3) := by decide +kernel
theorem d_L_1587 : decode code 1587 = .ok (.if_icmp .eq 106, 3) := by decide +kernel
theorem d_L_1590 : decode code 1590 = .ok (.iconst 0, 1) := by decide +kernel
theorem d_L_1591 : decode code 1591 = .ok (.ireturn, 1) := by decide +kernel
theorem d_L_1592 : decode code 1592 = .ok (.aload_n 1, 1) := by decide +kernel
theorem d_L_1593 : decode code 1593 = .ok (.invokevirtual 189, 3) := by decide +kernel
theorem d_L_1596 : decode code 1596 = .ok (.aload_n 2, 1) := by decide +kernel
theorem d_L_1597 : decode code 1597 = .ok (.invokevirtual 193, 3) := by decide +kernel
theorem d_L_1600 : decode code 1600 = .ok (.lcmp, 1) := by decide +kernel
theorem d_L_1601 : decode code 1601 = .ok (.ifCond .eq 92, 3) := by decide +kernel
theorem d_L_1604 : decode code 1604 = .ok (.iconst 0, 1) := by decide +kernel
theorem d_L_1605 : decode code 1605 = .ok (.ireturn, 1) := by decide +kernel
theorem d_L_1606 : decode code 1606 = .ok (.aload_n 1, 1) := by decide +kernel
theorem d_L_1607 : decode code 1607 = .ok (.invokevirtual 194, 3) := by decide +kernel
theorem d_L_1610 : decode code 1610 = .ok (.aload_n 2, 1) := by decide +kernel
theorem d_L_1611 : decode code 1611 = .ok (.invokevirtual 197, 3) := by decide +kernel
theorem d_L_1614 : decode code 1614 = .ok (.lcmp, 1) := by decide +kernel
theorem d_L_1615 : decode code 1615 = .ok (.ifCond .eq 78, 3) := by decide +kernel
theorem d_L_1618 : decode code 1618 = .ok (.iconst 0, 1) := by decide +kernel
theorem d_L_1619 : decode code 1619 = .ok (.ireturn, 1) := by decide +kernel
theorem d_L_1620 : decode code 1620 = .ok (.aload_n 1, 1) := by decide +kernel
theorem d_L_1621 : decode code 1621 = .ok (.aload_n 0, 1) := by decide +kernel
theorem d_L_1622 : decode code 1622 = .ok (.iload_n 3, 1) := by decide +kernel
theorem d_L_1623 : decode code 1623 = .ok (.iconst 1, 1) := by decide +kernel
theorem d_L_1624 : decode code 1624 = .ok (.iadd, 1) := by decide +kernel
theorem d_L_1625 : decode code 1625 = .ok (.iaload, 1) := by decide +kernel
theorem d_L_1626 : decode code 1626 = .ok (.invokevirtual 198, 3) := by decide +kernel
theorem d_L_1629 : decode code 1629 = .ok (.aload_n 2, 1) := by decide +kernel
theorem d_L_1630 : decode code 1630 = .ok (.aload_n 0, 1) := by decide +kernel
theorem d_L_1631 : decode code 1631 = .ok (.iload_n 3, 1) := by decide +kernel
theorem d_L_1632 : decode code 1632 = .ok (.iconst 1, 1) := by decide +kernel
theorem d_L_1633 : decode code 1633 = .ok (.iadd, 1) := by decide +kernel
theorem d_L_1634 : decode code 1634 = .ok (.iaload, 1) := by decide +kernel
theorem d_L_1635 : decode code 1635 = .ok (.invokevirtual 201, 3) := by decide +kernel
theorem d_L_1638 : decode code 1638 = .ok (.if_icmp .eq 55, 3) := by decide +kernel
theorem d_L_1641 : decode code 1641 = .ok (.iconst 0, 1) := by decide +kernel
theorem d_L_1642 : decode code 1642 = .ok (.ireturn, 1) := by decide +kernel
theorem d_L_1643 : decode code 1643 = .ok (.aload_n 1, 1) := by decide +kernel
theorem d_L_1644 : decode code 1644 = .ok (.invokevirtual 202, 3) := by decide +kernel
theorem d_L_1647 : decode code 1647 = .ok (.aload_n 2, 1) := by decide +kernel
theorem d_L_1648 : decode code 1648 = .ok (.invokevirtual 205, 3) := by decide +kernel
theorem d_L_1651 : decode code 1651 = .ok (.if_icmp .eq 42, 3) := by decide +kernel
theorem d_L_1654 : decode code 1654 = .ok (.iconst 0, 1) := by decide +kernel
theorem d_L_1655 : decode code 1655 = .ok (.ireturn, 1) := by decide +kernel
theorem d_L_1656 : decode code 1656 = .ok (.aload_n 1, 1) := by decide +kernel
theorem d_L_1657 : decode code 1657 = .ok (.aload_n 0, 1) := by decide +kernel
theorem d_L_1658 : decode code 1658 = .ok (.iload_n 3, 1) := by decide +kernel
theorem d_L_1659 : decode code 1659 = .ok (.iconst 1, 1) := by decide +kernel
theorem d_L_1660 : decode code 1660 = .ok (.iadd, 1) := by decide +kernel
theorem d_L_1661 : decode code 1661 = .ok (.iaload, 1) := by decide +kernel
theorem d_L_1662 : decode code 1662 = .ok (.invokevirtual 206, 3) := by decide +kernel
theorem d_L_1665 : decode code 1665 = .ok (.aload_n 2, 1) := by decide +kernel
theorem d_L_1666 : decode code 1666 = .ok (.aload_n 0, 1) := by decide +kernel
theorem d_L_1667 : decode code 1667 = .ok (.iload_n 3, 1) := by decide +kernel
theorem d_L_1668 : decode code 1668 = .ok (.iconst 1, 1) := by decide +kernel
theorem d_L_1669 : decode code 1669 = .ok (.iadd, 1) := by decide +kernel
theorem d_L_1670 : decode code 1670 = .ok (.iaload, 1) := by decide +kernel
theorem d_L_1671 : decode code 1671 = .ok (.invokevirtual 209, 3) := by decide +kernel
theorem d_L_1674 : decode code 1674 = .ok (.if_icmp .eq 19, 3) := by decide +kernel
theorem d_L_1677 : decode code 1677 = .ok (.iconst 0, 1) := by decide +kernel
theorem d_L_1678 : decode code 1678 = .ok (.ireturn, 1) := by decide +kernel
theorem d_L_1679 : decode code 1679 = .ok (.aload_n 1, 1) := by decide +kernel
theorem d_L_1680 : decode code 1680 = .ok (.invokevirtual 210, 3) := by decide +kernel
theorem d_L_1683 : decode code 1683 = .ok (.aload_n 2, 1) := by decide +kernel
theorem d_L_1684 : decode code 1684 = .ok (.invokevirtual 213, 3) := by decide +kernel
theorem d_L_1687 : decode code 1687 = .ok (.lcmp, 1) := by decide +kernel
theorem d_L_1688 : decode code 1688 = .ok (.ifCond .eq 5, 3) := by decide +kernel
theorem d_L_1691 : decode code 1691 = .ok (.iconst 0, 1) := by decide +kernel
theorem d_L_1692 : decode code 1692 = .ok (.ireturn, 1) := by decide +kernel
theorem d_L_1693 : decode code 1693 = .ok (.iinc 3 6, 3) := by decide +kernel
theorem d_L_1696 : decode code 1696 = .ok (.goto (-1678), 3) := by decide +kernel
theorem d_L_1699 : decode code 1699 = .ok (.iconst 1, 1) := by decide +kernel
theorem d_L_1700 : decode code 1700 = .ok (.ireturn, 1) := by decide +kernel
