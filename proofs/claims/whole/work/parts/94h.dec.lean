theorem dl_1455 : decode code 1455 = .ok (.aload_n 3, 1) := by decide +kernel
theorem dl_1456 : decode code 1456 = .ok (.invokestatic 223, 3) := by decide +kernel
theorem dl_1459 : decode code 1459 = .ok (.istore 5, 2) := by decide +kernel
theorem dl_1461 : decode code 1461 = .ok (.aload_n 2, 1) := by decide +kernel
theorem dl_1462 : decode code 1462 = .ok (.aload_n 0, 1) := by decide +kernel
theorem dl_1463 : decode code 1463 = .ok (.iload 4, 2) := by decide +kernel
theorem dl_1465 : decode code 1465 = .ok (.iconst 1, 1) := by decide +kernel
theorem dl_1466 : decode code 1466 = .ok (.iadd, 1) := by decide +kernel
theorem dl_1467 : decode code 1467 = .ok (.iaload, 1) := by decide +kernel
theorem dl_1468 : decode code 1468 = .ok (.invokevirtual 225, 3) := by decide +kernel
theorem dl_1471 : decode code 1471 = .ok (.istore 6, 2) := by decide +kernel
theorem dl_1473 : decode code 1473 = .ok (.aload_n 2, 1) := by decide +kernel
theorem dl_1474 : decode code 1474 = .ok (.invokevirtual 131, 3) := by decide +kernel
theorem dl_1477 : decode code 1477 = .ok (.iload 5, 2) := by decide +kernel
theorem dl_1479 : decode code 1479 = .ok (.if_icmp .eq 5, 3) := by decide +kernel
theorem dl_1482 : decode code 1482 = .ok (.iconst 0, 1) := by decide +kernel
theorem dl_1483 : decode code 1483 = .ok (.ireturn, 1) := by decide +kernel
theorem dl_1484 : decode code 1484 = .ok (.iload 5, 2) := by decide +kernel
theorem dl_1486 : decode code 1486 = .ok (.ifCond .ne 15, 3) := by decide +kernel
theorem dl_1489 : decode code 1489 = .ok (.aload_n 3, 1) := by decide +kernel
theorem dl_1490 : decode code 1490 = .ok (.iconst 0, 1) := by decide +kernel
theorem dl_1491 : decode code 1491 = .ok (.laload, 1) := by decide +kernel
theorem dl_1492 : decode code 1492 = .ok (.iload 6, 2) := by decide +kernel
theorem dl_1494 : decode code 1494 = .ok (.i2l, 1) := by decide +kernel
theorem dl_1495 : decode code 1495 = .ok (.lcmp, 1) := by decide +kernel
theorem dl_1496 : decode code 1496 = .ok (.ifCond .eq 5, 3) := by decide +kernel
theorem dl_1499 : decode code 1499 = .ok (.iconst 0, 1) := by decide +kernel
theorem dl_1500 : decode code 1500 = .ok (.ireturn, 1) := by decide +kernel
theorem dl_1501 : decode code 1501 = .ok (.goto 1198, 3) := by decide +kernel
theorem dl_1504 : decode code 1504 = .ok (.aload_n 1, 1) := by decide +kernel
theorem dl_1505 : decode code 1505 = .ok (.aload_n 0, 1) := by decide +kernel
theorem dl_1506 : decode code 1506 = .ok (.iload 4, 2) := by decide +kernel
theorem dl_1508 : decode code 1508 = .ok (.iconst 1, 1) := by decide +kernel
theorem dl_1509 : decode code 1509 = .ok (.iadd, 1) := by decide +kernel
theorem dl_1510 : decode code 1510 = .ok (.iaload, 1) := by decide +kernel
theorem dl_1511 : decode code 1511 = .ok (.aload_n 3, 1) := by decide +kernel
theorem dl_1512 : decode code 1512 = .ok (.invokestatic 226, 3) := by decide +kernel
theorem dl_1515 : decode code 1515 = .ok (.istore 5, 2) := by decide +kernel
theorem dl_1517 : decode code 1517 = .ok (.aload_n 2, 1) := by decide +kernel
theorem dl_1518 : decode code 1518 = .ok (.aload_n 0, 1) := by decide +kernel
theorem dl_1519 : decode code 1519 = .ok (.iload 4, 2) := by decide +kernel
theorem dl_1521 : decode code 1521 = .ok (.iconst 1, 1) := by decide +kernel
theorem dl_1522 : decode code 1522 = .ok (.iadd, 1) := by decide +kernel
theorem dl_1523 : decode code 1523 = .ok (.iaload, 1) := by decide +kernel
theorem dl_1524 : decode code 1524 = .ok (.invokevirtual 228, 3) := by decide +kernel
theorem dl_1527 : decode code 1527 = .ok (.istore 6, 2) := by decide +kernel
theorem dl_1529 : decode code 1529 = .ok (.aload_n 2, 1) := by decide +kernel
theorem dl_1530 : decode code 1530 = .ok (.invokevirtual 131, 3) := by decide +kernel
theorem dl_1533 : decode code 1533 = .ok (.iload 5, 2) := by decide +kernel
theorem dl_1535 : decode code 1535 = .ok (.if_icmp .eq 5, 3) := by decide +kernel
theorem dl_1538 : decode code 1538 = .ok (.iconst 0, 1) := by decide +kernel
theorem dl_1539 : decode code 1539 = .ok (.ireturn, 1) := by decide +kernel
theorem dl_1540 : decode code 1540 = .ok (.iload 5, 2) := by decide +kernel
theorem dl_1542 : decode code 1542 = .ok (.ifCond .ne 15, 3) := by decide +kernel
theorem dl_1545 : decode code 1545 = .ok (.aload_n 3, 1) := by decide +kernel
theorem dl_1546 : decode code 1546 = .ok (.iconst 0, 1) := by decide +kernel
theorem dl_1547 : decode code 1547 = .ok (.laload, 1) := by decide +kernel
theorem dl_1548 : decode code 1548 = .ok (.iload 6, 2) := by decide +kernel
theorem dl_1550 : decode code 1550 = .ok (.i2l, 1) := by decide +kernel
theorem dl_1551 : decode code 1551 = .ok (.lcmp, 1) := by decide +kernel
theorem dl_1552 : decode code 1552 = .ok (.ifCond .eq 5, 3) := by decide +kernel
theorem dl_1555 : decode code 1555 = .ok (.iconst 0, 1) := by decide +kernel
theorem dl_1556 : decode code 1556 = .ok (.ireturn, 1) := by decide +kernel
theorem dl_1557 : decode code 1557 = .ok (.goto 1142, 3) := by decide +kernel
theorem dl_1560 : decode code 1560 = .ok (.aload_n 1, 1) := by decide +kernel
theorem dl_1561 : decode code 1561 = .ok (.aload_n 0, 1) := by decide +kernel
theorem dl_1562 : decode code 1562 = .ok (.iload 4, 2) := by decide +kernel
theorem dl_1564 : decode code 1564 = .ok (.iconst 1, 1) := by decide +kernel
theorem dl_1565 : decode code 1565 = .ok (.iadd, 1) := by decide +kernel
theorem dl_1566 : decode code 1566 = .ok (.iaload, 1) := by decide +kernel
theorem dl_1567 : decode code 1567 = .ok (.aload_n 3, 1) := by decide +kernel
theorem dl_1568 : decode code 1568 = .ok (.invokestatic 229, 3) := by decide +kernel
theorem dl_1571 : decode code 1571 = .ok (.istore 5, 2) := by decide +kernel
theorem dl_1573 : decode code 1573 = .ok (.aload_n 2, 1) := by decide +kernel
theorem dl_1574 : decode code 1574 = .ok (.aload_n 0, 1) := by decide +kernel
theorem dl_1575 : decode code 1575 = .ok (.iload 4, 2) := by decide +kernel
theorem dl_1577 : decode code 1577 = .ok (.iconst 1, 1) := by decide +kernel
theorem dl_1578 : decode code 1578 = .ok (.iadd, 1) := by decide +kernel
theorem dl_1579 : decode code 1579 = .ok (.iaload, 1) := by decide +kernel
theorem dl_1580 : decode code 1580 = .ok (.invokevirtual 231, 3) := by decide +kernel
theorem dl_1583 : decode code 1583 = .ok (.istore 6, 2) := by decide +kernel
theorem dl_1585 : decode code 1585 = .ok (.aload_n 2, 1) := by decide +kernel
theorem dl_1586 : decode code 1586 = .ok (.invokevirtual 131, 3) := by decide +kernel
theorem dl_1589 : decode code 1589 = .ok (.iload 5, 2) := by decide +kernel
theorem dl_1591 : decode code 1591 = .ok (.if_icmp .eq 5, 3) := by decide +kernel
theorem dl_1594 : decode code 1594 = .ok (.iconst 0, 1) := by decide +kernel
theorem dl_1595 : decode code 1595 = .ok (.ireturn, 1) := by decide +kernel
theorem dl_1596 : decode code 1596 = .ok (.iload 5, 2) := by decide +kernel
theorem dl_1598 : decode code 1598 = .ok (.ifCond .ne 15, 3) := by decide +kernel
theorem dl_1601 : decode code 1601 = .ok (.aload_n 3, 1) := by decide +kernel
theorem dl_1602 : decode code 1602 = .ok (.iconst 0, 1) := by decide +kernel
theorem dl_1603 : decode code 1603 = .ok (.laload, 1) := by decide +kernel
theorem dl_1604 : decode code 1604 = .ok (.iload 6, 2) := by decide +kernel
theorem dl_1606 : decode code 1606 = .ok (.i2l, 1) := by decide +kernel
theorem dl_1607 : decode code 1607 = .ok (.lcmp, 1) := by decide +kernel
theorem dl_1608 : decode code 1608 = .ok (.ifCond .eq 5, 3) := by decide +kernel
theorem dl_1611 : decode code 1611 = .ok (.iconst 0, 1) := by decide +kernel
theorem dl_1612 : decode code 1612 = .ok (.ireturn, 1) := by decide +kernel
theorem dl_1613 : decode code 1613 = .ok (.goto 1086, 3) := by decide +kernel
theorem dl_1616 : decode code 1616 = .ok (.aload_n 1, 1) := by decide +kernel
theorem dl_1617 : decode code 1617 = .ok (.invokevirtual 232, 3) := by decide +kernel
theorem dl_1620 : decode code 1620 = .ok (.aload_n 2, 1) := by decide +kernel
theorem dl_1621 : decode code 1621 = .ok (.invokevirtual 235, 3) := by decide +kernel
theorem dl_1624 : decode code 1624 = .ok (.if_icmp .eq 1075, 3) := by decide +kernel
theorem dl_1627 : decode code 1627 = .ok (.iconst 0, 1) := by decide +kernel
theorem dl_1628 : decode code 1628 = .ok (.ireturn, 1) := by decide +kernel
theorem dl_1629 : decode code 1629 = .ok (.aload_n 1, 1) := by decide +kernel
theorem dl_1630 : decode code 1630 = .ok (.invokevirtual 236, 3) := by decide +kernel
theorem dl_1633 : decode code 1633 = .ok (.aload_n 2, 1) := by decide +kernel
theorem dl_1634 : decode code 1634 = .ok (.invokevirtual 240, 3) := by decide +kernel
