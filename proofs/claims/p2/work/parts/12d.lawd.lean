theorem dL_law_1484 : decode cL_law 1484 = .ok (.iadd, 1) := dLg_45.2.2.2.2.2.2.2.2.2.2.2.2.2.2.1
theorem dL_law_1485 : decode cL_law 1485 = .ok (.iaload, 1) := dLg_45.2.2.2.2.2.2.2.2.2.2.2.2.2.2.2.1
theorem dL_law_1486 : decode cL_law 1486 = .ok (.aload_n 0, 1) := dLg_45.2.2.2.2.2.2.2.2.2.2.2.2.2.2.2.2.1
theorem dL_law_1487 : decode cL_law 1487 = .ok (.iload_n 3, 1) := dLg_45.2.2.2.2.2.2.2.2.2.2.2.2.2.2.2.2.2.1
theorem dL_law_1488 : decode cL_law 1488 = .ok (.iconst 2, 1) := dLg_45.2.2.2.2.2.2.2.2.2.2.2.2.2.2.2.2.2.2.1
theorem dL_law_1489 : decode cL_law 1489 = .ok (.iadd, 1) := dLg_45.2.2.2.2.2.2.2.2.2.2.2.2.2.2.2.2.2.2.2.1
theorem dL_law_1490 : decode cL_law 1490 = .ok (.iaload, 1) := dLg_45.2.2.2.2.2.2.2.2.2.2.2.2.2.2.2.2.2.2.2.2.1
theorem dL_law_1491 : decode cL_law 1491 = .ok (.invokevirtual 150, 3) := dLg_45.2.2.2.2.2.2.2.2.2.2.2.2.2.2.2.2.2.2.2.2.2.1
theorem dL_law_1494 : decode cL_law 1494 = .ok (.pop, 1) := dLg_45.2.2.2.2.2.2.2.2.2.2.2.2.2.2.2.2.2.2.2.2.2.2.1
theorem dL_law_1495 : decode cL_law 1495 = .ok (.goto 419, 3) := dLg_45.2.2.2.2.2.2.2.2.2.2.2.2.2.2.2.2.2.2.2.2.2.2.2
theorem dLg_46 : (decode cL_law 1498 = .ok (.aload_n 1, 1)) ∧ (decode cL_law 1499 = .ok (.aload_n 0, 1)) ∧ (decode cL_law 1500 = .ok (.iload_n 3, 1)) ∧ (decode cL_law 1501 = .ok (.iconst 1, 1)) ∧ (decode cL_law 1502 = .ok (.iadd, 1)) ∧ (decode cL_law 1503 = .ok (.iaload, 1)) ∧ (decode cL_law 1504 = .ok (.aload_n 0, 1)) ∧ (decode cL_law 1505 = .ok (.iload_n 3, 1)) ∧ (decode cL_law 1506 = .ok (.iconst 2, 1)) ∧ (decode cL_law 1507 = .ok (.iadd, 1)) ∧ (decode cL_law 1508 = .ok (.iaload, 1)) ∧ (decode cL_law 1509 = .ok (.invokevirtual 151, 3)) ∧ (decode cL_law 1512 = .ok (.pop, 1)) ∧ (decode cL_law 1513 = .ok (.aload_n 2, 1)) ∧ (decode cL_law 1514 = .ok (.aload_n 0, 1)) ∧ (decode cL_law 1515 = .ok (.iload_n 3, 1)) ∧ (decode cL_law 1516 = .ok (.iconst 1, 1)) ∧ (decode cL_law 1517 = .ok (.iadd, 1)) ∧ (decode cL_law 1518 = .ok (.iaload, 1)) ∧ (decode cL_law 1519 = .ok (.aload_n 0, 1)) ∧ (decode cL_law 1520 = .ok (.iload_n 3, 1)) ∧ (decode cL_law 1521 = .ok (.iconst 2, 1)) ∧ (decode cL_law 1522 = .ok (.iadd, 1)) ∧ (decode cL_law 1523 = .ok (.iaload, 1)) := by decide +kernel
theorem dL_law_1498 : decode cL_law 1498 = .ok (.aload_n 1, 1) := dLg_46.1
theorem dL_law_1499 : decode cL_law 1499 = .ok (.aload_n 0, 1) := dLg_46.2.1
theorem dL_law_1500 : decode cL_law 1500 = .ok (.iload_n 3, 1) := dLg_46.2.2.1
theorem dL_law_1501 : decode cL_law 1501 = .ok (.iconst 1, 1) := dLg_46.2.2.2.1
theorem dL_law_1502 : decode cL_law 1502 = .ok (.iadd, 1) := dLg_46.2.2.2.2.1
theorem dL_law_1503 : decode cL_law 1503 = .ok (.iaload, 1) := dLg_46.2.2.2.2.2.1
theorem dL_law_1504 : decode cL_law 1504 = .ok (.aload_n 0, 1) := dLg_46.2.2.2.2.2.2.1
theorem dL_law_1505 : decode cL_law 1505 = .ok (.iload_n 3, 1) := dLg_46.2.2.2.2.2.2.2.1
theorem dL_law_1506 : decode cL_law 1506 = .ok (.iconst 2, 1) := dLg_46.2.2.2.2.2.2.2.2.1
theorem dL_law_1507 : decode cL_law 1507 = .ok (.iadd, 1) := dLg_46.2.2.2.2.2.2.2.2.2.1
theorem dL_law_1508 : decode cL_law 1508 = .ok (.iaload, 1) := dLg_46.2.2.2.2.2.2.2.2.2.2.1
theorem dL_law_1509 : decode cL_law 1509 = .ok (.invokevirtual 151, 3) := dLg_46.2.2.2.2.2.2.2.2.2.2.2.1
theorem dL_law_1512 : decode cL_law 1512 = .ok (.pop, 1) := dLg_46.2.2.2.2.2.2.2.2.2.2.2.2.1
theorem dL_law_1513 : decode cL_law 1513 = .ok (.aload_n 2, 1) := dLg_46.2.2.2.2.2.2.2.2.2.2.2.2.2.1
theorem dL_law_1514 : decode cL_law 1514 = .ok (.aload_n 0, 1) := dLg_46.2.2.2.2.2.2.2.2.2.2.2.2.2.2.1
theorem dL_law_1515 : decode cL_law 1515 = .ok (.iload_n 3, 1) := dLg_46.2.2.2.2.2.2.2.2.2.2.2.2.2.2.2.1
theorem dL_law_1516 : decode cL_law 1516 = .ok (.iconst 1, 1) := dLg_46.2.2.2.2.2.2.2.2.2.2.2.2.2.2.2.2.1
theorem dL_law_1517 : decode cL_law 1517 = .ok (.iadd, 1) := dLg_46.2.2.2.2.2.2.2.2.2.2.2.2.2.2.2.2.2.1
theorem dL_law_1518 : decode cL_law 1518 = .ok (.iaload, 1) := dLg_46.2.2.2.2.2.2.2.2.2.2.2.2.2.2.2.2.2.2.1
theorem dL_law_1519 : decode cL_law 1519 = .ok (.aload_n 0, 1) := dLg_46.2.2.2.2.2.2.2.2.2.2.2.2.2.2.2.2.2.2.2.1
theorem dL_law_1520 : decode cL_law 1520 = .ok (.iload_n 3, 1) := dLg_46.2.2.2.2.2.2.2.2.2.2.2.2.2.2.2.2.2.2.2.2.1
theorem dL_law_1521 : decode cL_law 1521 = .ok (.iconst 2, 1) := dLg_46.2.2.2.2.2.2.2.2.2.2.2.2.2.2.2.2.2.2.2.2.2.1
theorem dL_law_1522 : decode cL_law 1522 = .ok (.iadd, 1) := dLg_46.2.2.2.2.2.2.2.2.2.2.2.2.2.2.2.2.2.2.2.2.2.2.1
theorem dL_law_1523 : decode cL_law 1523 = .ok (.iaload, 1) := dLg_46.2.2.2.2.2.2.2.2.2.2.2.2.2.2.2.2.2.2.2.2.2.2.2
theorem dLg_47 : (decode cL_law 1524 = .ok (.invokevirtual 155, 3)) ∧ (decode cL_law 1527 = .ok (.pop, 1)) ∧ (decode cL_law 1528 = .ok (.goto 386, 3)) ∧ (decode cL_law 1531 = .ok (.aload_n 1, 1)) ∧ (decode cL_law 1532 = .ok (.aload_n 0, 1)) ∧ (decode cL_law 1533 = .ok (.iload_n 3, 1)) ∧ (decode cL_law 1534 = .ok (.iconst 1, 1)) ∧ (decode cL_law 1535 = .ok (.iadd, 1)) ∧ (decode cL_law 1536 = .ok (.iaload, 1)) ∧ (decode cL_law 1537 = .ok (.invokevirtual 156, 3)) ∧ (decode cL_law 1540 = .ok (.pop, 1)) ∧ (decode cL_law 1541 = .ok (.aload_n 2, 1)) ∧ (decode cL_law 1542 = .ok (.aload_n 0, 1)) ∧ (decode cL_law 1543 = .ok (.iload_n 3, 1)) ∧ (decode cL_law 1544 = .ok (.iconst 1, 1)) ∧ (decode cL_law 1545 = .ok (.iadd, 1)) ∧ (decode cL_law 1546 = .ok (.iaload, 1)) ∧ (decode cL_law 1547 = .ok (.invokevirtual 159, 3)) ∧ (decode cL_law 1550 = .ok (.pop, 1)) ∧ (decode cL_law 1551 = .ok (.goto 363, 3)) ∧ (decode cL_law 1554 = .ok (.aload_n 1, 1)) ∧ (decode cL_law 1555 = .ok (.aload_n 0, 1)) ∧ (decode cL_law 1556 = .ok (.iload_n 3, 1)) ∧ (decode cL_law 1557 = .ok (.iconst 1, 1)) := by decide +kernel
theorem dL_law_1524 : decode cL_law 1524 = .ok (.invokevirtual 155, 3) := dLg_47.1
theorem dL_law_1527 : decode cL_law 1527 = .ok (.pop, 1) := dLg_47.2.1
theorem dL_law_1528 : decode cL_law 1528 = .ok (.goto 386, 3) := dLg_47.2.2.1
theorem dL_law_1531 : decode cL_law 1531 = .ok (.aload_n 1, 1) := dLg_47.2.2.2.1
theorem dL_law_1532 : decode cL_law 1532 = .ok (.aload_n 0, 1) := dLg_47.2.2.2.2.1
theorem dL_law_1533 : decode cL_law 1533 = .ok (.iload_n 3, 1) := dLg_47.2.2.2.2.2.1
theorem dL_law_1534 : decode cL_law 1534 = .ok (.iconst 1, 1) := dLg_47.2.2.2.2.2.2.1
theorem dL_law_1535 : decode cL_law 1535 = .ok (.iadd, 1) := dLg_47.2.2.2.2.2.2.2.1
theorem dL_law_1536 : decode cL_law 1536 = .ok (.iaload, 1) := dLg_47.2.2.2.2.2.2.2.2.1
theorem dL_law_1537 : decode cL_law 1537 = .ok (.invokevirtual 156, 3) := dLg_47.2.2.2.2.2.2.2.2.2.1
theorem dL_law_1540 : decode cL_law 1540 = .ok (.pop, 1) := dLg_47.2.2.2.2.2.2.2.2.2.2.1
theorem dL_law_1541 : decode cL_law 1541 = .ok (.aload_n 2, 1) := dLg_47.2.2.2.2.2.2.2.2.2.2.2.1
theorem dL_law_1542 : decode cL_law 1542 = .ok (.aload_n 0, 1) := dLg_47.2.2.2.2.2.2.2.2.2.2.2.2.1
theorem dL_law_1543 : decode cL_law 1543 = .ok (.iload_n 3, 1) := dLg_47.2.2.2.2.2.2.2.2.2.2.2.2.2.1
theorem dL_law_1544 : decode cL_law 1544 = .ok (.iconst 1, 1) := dLg_47.2.2.2.2.2.2.2.2.2.2.2.2.2.2.1
theorem dL_law_1545 : decode cL_law 1545 = .ok (.iadd, 1) := dLg_47.2.2.2.2.2.2.2.2.2.2.2.2.2.2.2.1
theorem dL_law_1546 : decode cL_law 1546 = .ok (.iaload, 1) := dLg_47.2.2.2.2.2.2.2.2.2.2.2.2.2.2.2.2.1
theorem dL_law_1547 : decode cL_law 1547 = .ok (.invokevirtual 159, 3) := dLg_47.2.2.2.2.2.2.2.2.2.2.2.2.2.2.2.2.2.1
theorem dL_law_1550 : decode cL_law 1550 = .ok (.pop, 1) := dLg_47.2.2.2.2.2.2.2.2.2.2.2.2.2.2.2.2.2.2.1
theorem dL_law_1551 : decode cL_law 1551 = .ok (.goto 363, 3) := dLg_47.2.2.2.2.2.2.2.2.2.2.2.2.2.2.2.2.2.2.2.1
theorem dL_law_1554 : decode cL_law 1554 = .ok (.aload_n 1, 1) := dLg_47.2.2.2.2.2.2.2.2.2.2.2.2.2.2.2.2.2.2.2.2.1
theorem dL_law_1555 : decode cL_law 1555 = .ok (.aload_n 0, 1) := dLg_47.2.2.2.2.2.2.2.2.2.2.2.2.2.2.2.2.2.2.2.2.2.1
theorem dL_law_1556 : decode cL_law 1556 = .ok (.iload_n 3, 1) := dLg_47.2.2.2.2.2.2.2.2.2.2.2.2.2.2.2.2.2.2.2.2.2.2.1
theorem dL_law_1557 : decode cL_law 1557 = .ok (.iconst 1, 1) := dLg_47.2.2.2.2.2.2.2.2.2.2.2.2.2.2.2.2.2.2.2.2.2.2.2
theorem dLg_48 : (decode cL_law 1558 = .ok (.iadd, 1)) ∧ (decode cL_law 1559 = .ok (.iaload, 1)) ∧ (decode cL_law 1560 = .ok (.invokevirtual 160, 3)) ∧ (decode cL_law 1563 = .ok (.pop, 1)) ∧ (decode cL_law 1564 = .ok (.aload_n 2, 1)) ∧ (decode cL_law 1565 = .ok (.aload_n 0, 1)) ∧ (decode cL_law 1566 = .ok (.iload_n 3, 1)) ∧ (decode cL_law 1567 = .ok (.iconst 1, 1)) ∧ (decode cL_law 1568 = .ok (.iadd, 1)) ∧ (decode cL_law 1569 = .ok (.iaload, 1)) ∧ (decode cL_law 1570 = .ok (.invokevirtual 163, 3)) ∧ (decode cL_law 1573 = .ok (.pop, 1)) ∧ (decode cL_law 1574 = .ok (.goto 340, 3)) ∧ (decode cL_law 1577 = .ok (.aload_n 1, 1)) ∧ (decode cL_law 1578 = .ok (.aload_n 0, 1)) ∧ (decode cL_law 1579 = .ok (.iload_n 3, 1)) ∧ (decode cL_law 1580 = .ok (.iconst 1, 1)) ∧ (decode cL_law 1581 = .ok (.iadd, 1)) ∧ (decode cL_law 1582 = .ok (.iaload, 1)) ∧ (decode cL_law 1583 = .ok (.aload_n 0, 1)) ∧ (decode cL_law 1584 = .ok (.iload_n 3, 1)) ∧ (decode cL_law 1585 = .ok (.iconst 2, 1)) ∧ (decode cL_law 1586 = .ok (.iadd, 1)) ∧ (decode cL_law 1587 = .ok (.iaload, 1)) := by decide +kernel
theorem dL_law_1558 : decode cL_law 1558 = .ok (.iadd, 1) := dLg_48.1
theorem dL_law_1559 : decode cL_law 1559 = .ok (.iaload, 1) := dLg_48.2.1
theorem dL_law_1560 : decode cL_law 1560 = .ok (.invokevirtual 160, 3) := dLg_48.2.2.1
theorem dL_law_1563 : decode cL_law 1563 = .ok (.pop, 1) := dLg_48.2.2.2.1
theorem dL_law_1564 : decode cL_law 1564 = .ok (.aload_n 2, 1) := dLg_48.2.2.2.2.1
theorem dL_law_1565 : decode cL_law 1565 = .ok (.aload_n 0, 1) := dLg_48.2.2.2.2.2.1
theorem dL_law_1566 : decode cL_law 1566 = .ok (.iload_n 3, 1) := dLg_48.2.2.2.2.2.2.1
theorem dL_law_1567 : decode cL_law 1567 = .ok (.iconst 1, 1) := dLg_48.2.2.2.2.2.2.2.1
theorem dL_law_1568 : decode cL_law 1568 = .ok (.iadd, 1) := dLg_48.2.2.2.2.2.2.2.2.1
theorem dL_law_1569 : decode cL_law 1569 = .ok (.iaload, 1) := dLg_48.2.2.2.2.2.2.2.2.2.1
theorem dL_law_1570 : decode cL_law 1570 = .ok (.invokevirtual 163, 3) := dLg_48.2.2.2.2.2.2.2.2.2.2.1
theorem dL_law_1573 : decode cL_law 1573 = .ok (.pop, 1) := dLg_48.2.2.2.2.2.2.2.2.2.2.2.1
theorem dL_law_1574 : decode cL_law 1574 = .ok (.goto 340, 3) := dLg_48.2.2.2.2.2.2.2.2.2.2.2.2.1
theorem dL_law_1577 : decode cL_law 1577 = .ok (.aload_n 1, 1) := dLg_48.2.2.2.2.2.2.2.2.2.2.2.2.2.1
theorem dL_law_1578 : decode cL_law 1578 = .ok (.aload_n 0, 1) := dLg_48.2.2.2.2.2.2.2.2.2.2.2.2.2.2.1
theorem dL_law_1579 : decode cL_law 1579 = .ok (.iload_n 3, 1) := dLg_48.2.2.2.2.2.2.2.2.2.2.2.2.2.2.2.1
theorem dL_law_1580 : decode cL_law 1580 = .ok (.iconst 1, 1) := dLg_48.2.2.2.2.2.2.2.2.2.2.2.2.2.2.2.2.1
theorem dL_law_1581 : decode cL_law 1581 = .ok (.iadd, 1) := dLg_48.2.2.2.2.2.2.2.2.2.2.2.2.2.2.2.2.2.1
theorem dL_law_1582 : decode cL_law 1582 = .ok (.iaload, 1) := dLg_48.2.2.2.2.2.2.2.2.2.2.2.2.2.2.2.2.2.2.1
theorem dL_law_1583 : decode cL_law 1583 = .ok (.aload_n 0, 1) := dLg_48.2.2.2.2.2.2.2.2.2.2.2.2.2.2.2.2.2.2.2.1
theorem dL_law_1584 : decode cL_law 1584 = .ok (.iload_n 3, 1) := dLg_48.2.2.2.2.2.2.2.2.2.2.2.2.2.2.2.2.2.2.2.2.1
theorem dL_law_1585 : decode cL_law 1585 = .ok (.iconst 2, 1) := dLg_48.2.2.2.2.2.2.2.2.2.2.2.2.2.2.2.2.2.2.2.2.2.1
theorem dL_law_1586 : decode cL_law 1586 = .ok (.iadd, 1) := dLg_48.2.2.2.2.2.2.2.2.2.2.2.2.2.2.2.2.2.2.2.2.2.2.1
theorem dL_law_1587 : decode cL_law 1587 = .ok (.iaload, 1) := dLg_48.2.2.2.2.2.2.2.2.2.2.2.2.2.2.2.2.2.2.2.2.2.2.2
theorem dLg_49 : (decode cL_law 1588 = .ok (.aload_n 0, 1)) ∧ (decode cL_law 1589 = .ok (.iload_n 3, 1)) ∧ (decode cL_law 1590 = .ok (.iconst 3, 1)) ∧ (decode cL_law 1591 = .ok (.iadd, 1)) ∧ (decode cL_law 1592 = .ok (.iaload, 1)) ∧ (decode cL_law 1593 = .ok (.invokevirtual 164, 3)) ∧ (decode cL_law 1596 = .ok (.pop, 1)) ∧ (decode cL_law 1597 = .ok (.aload_n 2, 1)) ∧ (decode cL_law 1598 = .ok (.aload_n 0, 1)) ∧ (decode cL_law 1599 = .ok (.iload_n 3, 1)) ∧ (decode cL_law 1600 = .ok (.iconst 1, 1)) ∧ (decode cL_law 1601 = .ok (.iadd, 1)) ∧ (decode cL_law 1602 = .ok (.iaload, 1)) ∧ (decode cL_law 1603 = .ok (.aload_n 0, 1)) ∧ (decode cL_law 1604 = .ok (.iload_n 3, 1)) ∧ (decode cL_law 1605 = .ok (.iconst 2, 1)) ∧ (decode cL_law 1606 = .ok (.iadd, 1)) ∧ (decode cL_law 1607 = .ok (.iaload, 1)) ∧ (decode cL_law 1608 = .ok (.aload_n 0, 1)) ∧ (decode cL_law 1609 = .ok (.iload_n 3, 1)) ∧ (decode cL_law 1610 = .ok (.iconst 3, 1)) ∧ (decode cL_law 1611 = .ok (.iadd, 1)) ∧ (decode cL_law 1612 = .ok (.iaload, 1)) ∧ (decode cL_law 1613 = .ok (.invokevirtual 167, 3)) := by decide +kernel
theorem dL_law_1588 : decode cL_law 1588 = .ok (.aload_n 0, 1) := dLg_49.1
theorem dL_law_1589 : decode cL_law 1589 = .ok (.iload_n 3, 1) := dLg_49.2.1
theorem dL_law_1590 : decode cL_law 1590 = .ok (.iconst 3, 1) := dLg_49.2.2.1
theorem dL_law_1591 : decode cL_law 1591 = .ok (.iadd, 1) := dLg_49.2.2.2.1
theorem dL_law_1592 : decode cL_law 1592 = .ok (.iaload, 1) := dLg_49.2.2.2.2.1
theorem dL_law_1593 : decode cL_law 1593 = .ok (.invokevirtual 164, 3) := dLg_49.2.2.2.2.2.1
theorem dL_law_1596 : decode cL_law 1596 = .ok (.pop, 1) := dLg_49.2.2.2.2.2.2.1
theorem dL_law_1597 : decode cL_law 1597 = .ok (.aload_n 2, 1) := dLg_49.2.2.2.2.2.2.2.1
theorem dL_law_1598 : decode cL_law 1598 = .ok (.aload_n 0, 1) := dLg_49.2.2.2.2.2.2.2.2.1
theorem dL_law_1599 : decode cL_law 1599 = .ok (.iload_n 3, 1) := dLg_49.2.2.2.2.2.2.2.2.2.1
theorem dL_law_1600 : decode cL_law 1600 = .ok (.iconst 1, 1) := dLg_49.2.2.2.2.2.2.2.2.2.2.1
theorem dL_law_1601 : decode cL_law 1601 = .ok (.iadd, 1) := dLg_49.2.2.2.2.2.2.2.2.2.2.2.1
theorem dL_law_1602 : decode cL_law 1602 = .ok (.iaload, 1) := dLg_49.2.2.2.2.2.2.2.2.2.2.2.2.1
theorem dL_law_1603 : decode cL_law 1603 = .ok (.aload_n 0, 1) := dLg_49.2.2.2.2.2.2.2.2.2.2.2.2.2.1
theorem dL_law_1604 : decode cL_law 1604 = .ok (.iload_n 3, 1) := dLg_49.2.2.2.2.2.2.2.2.2.2.2.2.2.2.1
theorem dL_law_1605 : decode cL_law 1605 = .ok (.iconst 2, 1) := dLg_49.2.2.2.2.2.2.2.2.2.2.2.2.2.2.2.1
theorem dL_law_1606 : decode cL_law 1606 = .ok (.iadd, 1) := dLg_49.2.2.2.2.2.2.2.2.2.2.2.2.2.2.2.2.1
theorem dL_law_1607 : decode cL_law 1607 = .ok (.iaload, 1) := dLg_49.2.2.2.2.2.2.2.2.2.2.2.2.2.2.2.2.2.1
theorem dL_law_1608 : decode cL_law 1608 = .ok (.aload_n 0, 1) := dLg_49.2.2.2.2.2.2.2.2.2.2.2.2.2.2.2.2.2.2.1
theorem dL_law_1609 : decode cL_law 1609 = .ok (.iload_n 3, 1) := dLg_49.2.2.2.2.2.2.2.2.2.2.2.2.2.2.2.2.2.2.2.1
theorem dL_law_1610 : decode cL_law 1610 = .ok (.iconst 3, 1) := dLg_49.2.2.2.2.2.2.2.2.2.2.2.2.2.2.2.2.2.2.2.2.1
theorem dL_law_1611 : decode cL_law 1611 = .ok (.iadd, 1) := dLg_49.2.2.2.2.2.2.2.2.2.2.2.2.2.2.2.2.2.2.2.2.2.1
theorem dL_law_1612 : decode cL_law 1612 = .ok (.iaload, 1) := dLg_49.2.2.2.2.2.2.2.2.2.2.2.2.2.2.2.2.2.2.2.2.2.2.1
theorem dL_law_1613 : decode cL_law 1613 = .ok (.invokevirtual 167, 3) := dLg_49.2.2.2.2.2.2.2.2.2.2.2.2.2.2.2.2.2.2.2.2.2.2.2
theorem dLg_50 : (decode cL_law 1616 = .ok (.pop, 1)) ∧ (decode cL_law 1617 = .ok (.goto 297, 3)) ∧ (decode cL_law 1620 = .ok (.aload_n 1, 1)) ∧ (decode cL_law 1621 = .ok (.aload_n 0, 1)) ∧ (decode cL_law 1622 = .ok (.iload_n 3, 1)) ∧ (decode cL_law 1623 = .ok (.iconst 1, 1)) ∧ (decode cL_law 1624 = .ok (.iadd, 1)) ∧ (decode cL_law 1625 = .ok (.iaload, 1)) ∧ (decode cL_law 1626 = .ok (.aload_n 0, 1)) ∧ (decode cL_law 1627 = .ok (.iload_n 3, 1)) ∧ (decode cL_law 1628 = .ok (.iconst 2, 1)) ∧ (decode cL_law 1629 = .ok (.iadd, 1)) ∧ (decode cL_law 1630 = .ok (.iaload, 1)) ∧ (decode cL_law 1631 = .ok (.aload_n 0, 1)) ∧ (decode cL_law 1632 = .ok (.iload_n 3, 1)) ∧ (decode cL_law 1633 = .ok (.iconst 3, 1)) ∧ (decode cL_law 1634 = .ok (.iadd, 1)) ∧ (decode cL_law 1635 = .ok (.iaload, 1)) ∧ (decode cL_law 1636 = .ok (.invokevirtual 168, 3)) ∧ (decode cL_law 1639 = .ok (.pop, 1)) ∧ (decode cL_law 1640 = .ok (.aload_n 2, 1)) ∧ (decode cL_law 1641 = .ok (.aload_n 0, 1)) ∧ (decode cL_law 1642 = .ok (.iload_n 3, 1)) ∧ (decode cL_law 1643 = .ok (.iconst 1, 1)) := by decide +kernel
theorem dL_law_1616 : decode cL_law 1616 = .ok (.pop, 1) := dLg_50.1
theorem dL_law_1617 : decode cL_law 1617 = .ok (.goto 297, 3) := dLg_50.2.1
theorem dL_law_1620 : decode cL_law 1620 = .ok (.aload_n 1, 1) := dLg_50.2.2.1
theorem dL_law_1621 : decode cL_law 1621 = .ok (.aload_n 0, 1) := dLg_50.2.2.2.1
theorem dL_law_1622 : decode cL_law 1622 = .ok (.iload_n 3, 1) := dLg_50.2.2.2.2.1
theorem dL_law_1623 : decode cL_law 1623 = .ok (.iconst 1, 1) := dLg_50.2.2.2.2.2.1
theorem dL_law_1624 : decode cL_law 1624 = .ok (.iadd, 1) := dLg_50.2.2.2.2.2.2.1
theorem dL_law_1625 : decode cL_law 1625 = .ok (.iaload, 1) := dLg_50.2.2.2.2.2.2.2.1
theorem dL_law_1626 : decode cL_law 1626 = .ok (.aload_n 0, 1) := dLg_50.2.2.2.2.2.2.2.2.1
theorem dL_law_1627 : decode cL_law 1627 = .ok (.iload_n 3, 1) := dLg_50.2.2.2.2.2.2.2.2.2.1
theorem dL_law_1628 : decode cL_law 1628 = .ok (.iconst 2, 1) := dLg_50.2.2.2.2.2.2.2.2.2.2.1
theorem dL_law_1629 : decode cL_law 1629 = .ok (.iadd, 1) := dLg_50.2.2.2.2.2.2.2.2.2.2.2.1
theorem dL_law_1630 : decode cL_law 1630 = .ok (.iaload, 1) := dLg_50.2.2.2.2.2.2.2.2.2.2.2.2.1
theorem dL_law_1631 : decode cL_law 1631 = .ok (.aload_n 0, 1) := dLg_50.2.2.2.2.2.2.2.2.2.2.2.2.2.1
theorem dL_law_1632 : decode cL_law 1632 = .ok (.iload_n 3, 1) := dLg_50.2.2.2.2.2.2.2.2.2.2.2.2.2.2.1
theorem dL_law_1633 : decode cL_law 1633 = .ok (.iconst 3, 1) := dLg_50.2.2.2.2.2.2.2.2.2.2.2.2.2.2.2.1
theorem dL_law_1634 : decode cL_law 1634 = .ok (.iadd, 1) := dLg_50.2.2.2.2.2.2.2.2.2.2.2.2.2.2.2.2.1
theorem dL_law_1635 : decode cL_law 1635 = .ok (.iaload, 1) := dLg_50.2.2.2.2.2.2.2.2.2.2.2.2.2.2.2.2.2.1
theorem dL_law_1636 : decode cL_law 1636 = .ok (.invokevirtual 168, 3) := dLg_50.2.2.2.2.2.2.2.2.2.2.2.2.2.2.2.2.2.2.1
theorem dL_law_1639 : decode cL_law 1639 = .ok (.pop, 1) := dLg_50.2.2.2.2.2.2.2.2.2.2.2.2.2.2.2.2.2.2.2.1
theorem dL_law_1640 : decode cL_law 1640 = .ok (.aload_n 2, 1) := dLg_50.2.2.2.2.2.2.2.2.2.2.2.2.2.2.2.2.2.2.2.2.1
theorem dL_law_1641 : decode cL_law 1641 = .ok (.aload_n 0, 1) := dLg_50.2.2.2.2.2.2.2.2.2.2.2.2.2.2.2.2.2.2.2.2.2.1
theorem dL_law_1642 : decode cL_law 1642 = .ok (.iload_n 3, 1) := dLg_50.2.2.2.2.2.2.2.2.2.2.2.2.2.2.2.2.2.2.2.2.2.2.1
theorem dL_law_1643 : decode cL_law 1643 = .ok (.iconst 1, 1) := dLg_50.2.2.2.2.2.2.2.2.2.2.2.2.2.2.2.2.2.2.2.2.2.2.2
theorem dLg_51 : (decode cL_law 1644 = .ok (.iadd, 1)) ∧ (decode cL_law 1645 = .ok (.iaload, 1)) ∧ (decode cL_law 1646 = .ok (.aload_n 0, 1)) ∧ (decode cL_law 1647 = .ok (.iload_n 3, 1)) ∧ (decode cL_law 1648 = .ok (.iconst 2, 1)) ∧ (decode cL_law 1649 = .ok (.iadd, 1)) ∧ (decode cL_law 1650 = .ok (.iaload, 1)) ∧ (decode cL_law 1651 = .ok (.aload_n 0, 1)) ∧ (decode cL_law 1652 = .ok (.iload_n 3, 1)) ∧ (decode cL_law 1653 = .ok (.iconst 3, 1)) ∧ (decode cL_law 1654 = .ok (.iadd, 1)) ∧ (decode cL_law 1655 = .ok (.iaload, 1)) ∧ (decode cL_law 1656 = .ok (.invokevirtual 171, 3)) ∧ (decode cL_law 1659 = .ok (.pop, 1)) ∧ (decode cL_law 1660 = .ok (.goto 254, 3)) ∧ (decode cL_law 1663 = .ok (.aload_n 1, 1)) ∧ (decode cL_law 1664 = .ok (.aload_n 0, 1)) ∧ (decode cL_law 1665 = .ok (.iload_n 3, 1)) ∧ (decode cL_law 1666 = .ok (.iconst 1, 1)) ∧ (decode cL_law 1667 = .ok (.iadd, 1)) ∧ (decode cL_law 1668 = .ok (.iaload, 1)) ∧ (decode cL_law 1669 = .ok (.aload_n 0, 1)) ∧ (decode cL_law 1670 = .ok (.iload_n 3, 1)) ∧ (decode cL_law 1671 = .ok (.iconst 2, 1)) := by decide +kernel
theorem dL_law_1644 : decode cL_law 1644 = .ok (.iadd, 1) := dLg_51.1
theorem dL_law_1645 : decode cL_law 1645 = .ok (.iaload, 1) := dLg_51.2.1
theorem dL_law_1646 : decode cL_law 1646 = .ok (.aload_n 0, 1) := dLg_51.2.2.1
theorem dL_law_1647 : decode cL_law 1647 = .ok (.iload_n 3, 1) := dLg_51.2.2.2.1
theorem dL_law_1648 : decode cL_law 1648 = .ok (.iconst 2, 1) := dLg_51.2.2.2.2.1
theorem dL_law_1649 : decode cL_law 1649 = .ok (.iadd, 1) := dLg_51.2.2.2.2.2.1
theorem dL_law_1650 : decode cL_law 1650 = .ok (.iaload, 1) := dLg_51.2.2.2.2.2.2.1
theorem dL_law_1651 : decode cL_law 1651 = .ok (.aload_n 0, 1) := dLg_51.2.2.2.2.2.2.2.1
theorem dL_law_1652 : decode cL_law 1652 = .ok (.iload_n 3, 1) := dLg_51.2.2.2.2.2.2.2.2.1
theorem dL_law_1653 : decode cL_law 1653 = .ok (.iconst 3, 1) := dLg_51.2.2.2.2.2.2.2.2.2.1
theorem dL_law_1654 : decode cL_law 1654 = .ok (.iadd, 1) := dLg_51.2.2.2.2.2.2.2.2.2.2.1
theorem dL_law_1655 : decode cL_law 1655 = .ok (.iaload, 1) := dLg_51.2.2.2.2.2.2.2.2.2.2.2.1
theorem dL_law_1656 : decode cL_law 1656 = .ok (.invokevirtual 171, 3) := dLg_51.2.2.2.2.2.2.2.2.2.2.2.2.1
theorem dL_law_1659 : decode cL_law 1659 = .ok (.pop, 1) := dLg_51.2.2.2.2.2.2.2.2.2.2.2.2.2.1
theorem dL_law_1660 : decode cL_law 1660 = .ok (.goto 254, 3) := dLg_51.2.2.2.2.2.2.2.2.2.2.2.2.2.2.1
theorem dL_law_1663 : decode cL_law 1663 = .ok (.aload_n 1, 1) := dLg_51.2.2.2.2.2.2.2.2.2.2.2.2.2.2.2.1
theorem dL_law_1664 : decode cL_law 1664 = .ok (.aload_n 0, 1) := dLg_51.2.2.2.2.2.2.2.2.2.2.2.2.2.2.2.2.1
theorem dL_law_1665 : decode cL_law 1665 = .ok (.iload_n 3, 1) := dLg_51.2.2.2.2.2.2.2.2.2.2.2.2.2.2.2.2.2.1
theorem dL_law_1666 : decode cL_law 1666 = .ok (.iconst 1, 1) := dLg_51.2.2.2.2.2.2.2.2.2.2.2.2.2.2.2.2.2.2.1
theorem dL_law_1667 : decode cL_law 1667 = .ok (.iadd, 1) := dLg_51.2.2.2.2.2.2.2.2.2.2.2.2.2.2.2.2.2.2.2.1
theorem dL_law_1668 : decode cL_law 1668 = .ok (.iaload, 1) := dLg_51.2.2.2.2.2.2.2.2.2.2.2.2.2.2.2.2.2.2.2.2.1
theorem dL_law_1669 : decode cL_law 1669 = .ok (.aload_n 0, 1) := dLg_51.2.2.2.2.2.2.2.2.2.2.2.2.2.2.2.2.2.2.2.2.2.1
theorem dL_law_1670 : decode cL_law 1670 = .ok (.iload_n 3, 1) := dLg_51.2.2.2.2.2.2.2.2.2.2.2.2.2.2.2.2.2.2.2.2.2.2.1
theorem dL_law_1671 : decode cL_law 1671 = .ok (.iconst 2, 1) := dLg_51.2.2.2.2.2.2.2.2.2.2.2.2.2.2.2.2.2.2.2.2.2.2.2
theorem dLg_52 : (decode cL_law 1672 = .ok (.iadd, 1)) ∧ (decode cL_law 1673 = .ok (.iaload, 1)) ∧ (decode cL_law 1674 = .ok (.aload_n 0, 1)) ∧ (decode cL_law 1675 = .ok (.iload_n 3, 1)) ∧ (decode cL_law 1676 = .ok (.iconst 3, 1)) ∧ (decode cL_law 1677 = .ok (.iadd, 1)) ∧ (decode cL_law 1678 = .ok (.iaload, 1)) ∧ (decode cL_law 1679 = .ok (.aload_n 0, 1)) ∧ (decode cL_law 1680 = .ok (.iload_n 3, 1)) ∧ (decode cL_law 1681 = .ok (.iconst 4, 1)) ∧ (decode cL_law 1682 = .ok (.iadd, 1)) ∧ (decode cL_law 1683 = .ok (.iaload, 1)) ∧ (decode cL_law 1684 = .ok (.aload_n 0, 1)) ∧ (decode cL_law 1685 = .ok (.iload_n 3, 1)) ∧ (decode cL_law 1686 = .ok (.iconst 5, 1)) ∧ (decode cL_law 1687 = .ok (.iadd, 1)) ∧ (decode cL_law 1688 = .ok (.iaload, 1)) ∧ (decode cL_law 1689 = .ok (.invokevirtual 172, 3)) ∧ (decode cL_law 1692 = .ok (.pop, 1)) ∧ (decode cL_law 1693 = .ok (.aload_n 2, 1)) ∧ (decode cL_law 1694 = .ok (.aload_n 0, 1)) ∧ (decode cL_law 1695 = .ok (.iload_n 3, 1)) ∧ (decode cL_law 1696 = .ok (.iconst 1, 1)) ∧ (decode cL_law 1697 = .ok (.iadd, 1)) := by decide +kernel
theorem dL_law_1672 : decode cL_law 1672 = .ok (.iadd, 1) := dLg_52.1
theorem dL_law_1673 : decode cL_law 1673 = .ok (.iaload, 1) := dLg_52.2.1
theorem dL_law_1674 : decode cL_law 1674 = .ok (.aload_n 0, 1) := dLg_52.2.2.1
theorem dL_law_1675 : decode cL_law 1675 = .ok (.iload_n 3, 1) := dLg_52.2.2.2.1
theorem dL_law_1676 : decode cL_law 1676 = .ok (.iconst 3, 1) := dLg_52.2.2.2.2.1
theorem dL_law_1677 : decode cL_law 1677 = .ok (.iadd, 1) := dLg_52.2.2.2.2.2.1
theorem dL_law_1678 : decode cL_law 1678 = .ok (.iaload, 1) := dLg_52.2.2.2.2.2.2.1
theorem dL_law_1679 : decode cL_law 1679 = .ok (.aload_n 0, 1) := dLg_52.2.2.2.2.2.2.2.1
theorem dL_law_1680 : decode cL_law 1680 = .ok (.iload_n 3, 1) := dLg_52.2.2.2.2.2.2.2.2.1
theorem dL_law_1681 : decode cL_law 1681 = .ok (.iconst 4, 1) := dLg_52.2.2.2.2.2.2.2.2.2.1
theorem dL_law_1682 : decode cL_law 1682 = .ok (.iadd, 1) := dLg_52.2.2.2.2.2.2.2.2.2.2.1
theorem dL_law_1683 : decode cL_law 1683 = .ok (.iaload, 1) := dLg_52.2.2.2.2.2.2.2.2.2.2.2.1
theorem dL_law_1684 : decode cL_law 1684 = .ok (.aload_n 0, 1) := dLg_52.2.2.2.2.2.2.2.2.2.2.2.2.1
theorem dL_law_1685 : decode cL_law 1685 = .ok (.iload_n 3, 1) := dLg_52.2.2.2.2.2.2.2.2.2.2.2.2.2.1
theorem dL_law_1686 : decode cL_law 1686 = .ok (.iconst 5, 1) := dLg_52.2.2.2.2.2.2.2.2.2.2.2.2.2.2.1
theorem dL_law_1687 : decode cL_law 1687 = .ok (.iadd, 1) := dLg_52.2.2.2.2.2.2.2.2.2.2.2.2.2.2.2.1
theorem dL_law_1688 : decode cL_law 1688 = .ok (.iaload, 1) := dLg_52.2.2.2.2.2.2.2.2.2.2.2.2.2.2.2.2.1
theorem dL_law_1689 : decode cL_law 1689 = .ok (.invokevirtual 172, 3) := dLg_52.2.2.2.2.2.2.2.2.2.2.2.2.2.2.2.2.2.1
theorem dL_law_1692 : decode cL_law 1692 = .ok (.pop, 1) := dLg_52.2.2.2.2.2.2.2.2.2.2.2.2.2.2.2.2.2.2.1
theorem dL_law_1693 : decode cL_law 1693 = .ok (.aload_n 2, 1) := dLg_52.2.2.2.2.2.2.2.2.2.2.2.2.2.2.2.2.2.2.2.1
theorem dL_law_1694 : decode cL_law 1694 = .ok (.aload_n 0, 1) := dLg_52.2.2.2.2.2.2.2.2.2.2.2.2.2.2.2.2.2.2.2.2.1
theorem dL_law_1695 : decode cL_law 1695 = .ok (.iload_n 3, 1) := dLg_52.2.2.2.2.2.2.2.2.2.2.2.2.2.2.2.2.2.2.2.2.2.1
theorem dL_law_1696 : decode cL_law 1696 = .ok (.iconst 1, 1) := dLg_52.2.2.2.2.2.2.2.2.2.2.2.2.2.2.2.2.2.2.2.2.2.2.1
theorem dL_law_1697 : decode cL_law 1697 = .ok (.iadd, 1) := dLg_52.2.2.2.2.2.2.2.2.2.2.2.2.2.2.2.2.2.2.2.2.2.2.2
theorem dLg_53 : (decode cL_law 1698 = .ok (.iaload, 1)) ∧ (decode cL_law 1699 = .ok (.aload_n 0, 1)) ∧ (decode cL_law 1700 = .ok (.iload_n 3, 1)) ∧ (decode cL_law 1701 = .ok (.iconst 2, 1)) ∧ (decode cL_law 1702 = .ok (.iadd, 1)) ∧ (decode cL_law 1703 = .ok (.iaload, 1)) ∧ (decode cL_law 1704 = .ok (.aload_n 0, 1)) ∧ (decode cL_law 1705 = .ok (.iload_n 3, 1)) ∧ (decode cL_law 1706 = .ok (.iconst 3, 1)) ∧ (decode cL_law 1707 = .ok (.iadd, 1)) ∧ (decode cL_law 1708 = .ok (.iaload, 1)) ∧ (decode cL_law 1709 = .ok (.aload_n 0, 1)) ∧ (decode cL_law 1710 = .ok (.iload_n 3, 1)) ∧ (decode cL_law 1711 = .ok (.iconst 4, 1)) ∧ (decode cL_law 1712 = .ok (.iadd, 1)) ∧ (decode cL_law 1713 = .ok (.iaload, 1)) ∧ (decode cL_law 1714 = .ok (.aload_n 0, 1)) ∧ (decode cL_law 1715 = .ok (.iload_n 3, 1)) ∧ (decode cL_law 1716 = .ok (.iconst 5, 1)) ∧ (decode cL_law 1717 = .ok (.iadd, 1)) ∧ (decode cL_law 1718 = .ok (.iaload, 1)) ∧ (decode cL_law 1719 = .ok (.invokevirtual 175, 3)) ∧ (decode cL_law 1722 = .ok (.pop, 1)) ∧ (decode cL_law 1723 = .ok (.goto 191, 3)) := by decide +kernel
theorem dL_law_1698 : decode cL_law 1698 = .ok (.iaload, 1) := dLg_53.1
theorem dL_law_1699 : decode cL_law 1699 = .ok (.aload_n 0, 1) := dLg_53.2.1
theorem dL_law_1700 : decode cL_law 1700 = .ok (.iload_n 3, 1) := dLg_53.2.2.1
theorem dL_law_1701 : decode cL_law 1701 = .ok (.iconst 2, 1) := dLg_53.2.2.2.1
theorem dL_law_1702 : decode cL_law 1702 = .ok (.iadd, 1) := dLg_53.2.2.2.2.1
theorem dL_law_1703 : decode cL_law 1703 = .ok (.iaload, 1) := dLg_53.2.2.2.2.2.1
theorem dL_law_1704 : decode cL_law 1704 = .ok (.aload_n 0, 1) := dLg_53.2.2.2.2.2.2.1
theorem dL_law_1705 : decode cL_law 1705 = .ok (.iload_n 3, 1) := dLg_53.2.2.2.2.2.2.2.1
theorem dL_law_1706 : decode cL_law 1706 = .ok (.iconst 3, 1) := dLg_53.2.2.2.2.2.2.2.2.1
theorem dL_law_1707 : decode cL_law 1707 = .ok (.iadd, 1) := dLg_53.2.2.2.2.2.2.2.2.2.1
theorem dL_law_1708 : decode cL_law 1708 = .ok (.iaload, 1) := dLg_53.2.2.2.2.2.2.2.2.2.2.1
theorem dL_law_1709 : decode cL_law 1709 = .ok (.aload_n 0, 1) := dLg_53.2.2.2.2.2.2.2.2.2.2.2.1
theorem dL_law_1710 : decode cL_law 1710 = .ok (.iload_n 3, 1) := dLg_53.2.2.2.2.2.2.2.2.2.2.2.2.1
theorem dL_law_1711 : decode cL_law 1711 = .ok (.iconst 4, 1) := dLg_53.2.2.2.2.2.2.2.2.2.2.2.2.2.1
theorem dL_law_1712 : decode cL_law 1712 = .ok (.iadd, 1) := dLg_53.2.2.2.2.2.2.2.2.2.2.2.2.2.2.1
theorem dL_law_1713 : decode cL_law 1713 = .ok (.iaload, 1) := dLg_53.2.2.2.2.2.2.2.2.2.2.2.2.2.2.2.1
theorem dL_law_1714 : decode cL_law 1714 = .ok (.aload_n 0, 1) := dLg_53.2.2.2.2.2.2.2.2.2.2.2.2.2.2.2.2.1
theorem dL_law_1715 : decode cL_law 1715 = .ok (.iload_n 3, 1) := dLg_53.2.2.2.2.2.2.2.2.2.2.2.2.2.2.2.2.2.1
theorem dL_law_1716 : decode cL_law 1716 = .ok (.iconst 5, 1) := dLg_53.2.2.2.2.2.2.2.2.2.2.2.2.2.2.2.2.2.2.1
theorem dL_law_1717 : decode cL_law 1717 = .ok (.iadd, 1) := dLg_53.2.2.2.2.2.2.2.2.2.2.2.2.2.2.2.2.2.2.2.1
theorem dL_law_1718 : decode cL_law 1718 = .ok (.iaload, 1) := dLg_53.2.2.2.2.2.2.2.2.2.2.2.2.2.2.2.2.2.2.2.2.1
theorem dL_law_1719 : decode cL_law 1719 = .ok (.invokevirtual 175, 3) := dLg_53.2.2.2.2.2.2.2.2.2.2.2.2.2.2.2.2.2.2.2.2.2.1
theorem dL_law_1722 : decode cL_law 1722 = .ok (.pop, 1) := dLg_53.2.2.2.2.2.2.2.2.2.2.2.2.2.2.2.2.2.2.2.2.2.2.1
theorem dL_law_1723 : decode cL_law 1723 = .ok (.goto 191, 3) := dLg_53.2.2.2.2.2.2.2.2.2.2.2.2.2.2.2.2.2.2.2.2.2.2.2
theorem dLg_54 : (decode cL_law 1726 = .ok (.aload_n 1, 1)) ∧ (decode cL_law 1727 = .ok (.aload_n 0, 1)) ∧ (decode cL_law 1728 = .ok (.iload_n 3, 1)) ∧ (decode cL_law 1729 = .ok (.iconst 1, 1)) ∧ (decode cL_law 1730 = .ok (.iadd, 1)) ∧ (decode cL_law 1731 = .ok (.iaload, 1)) ∧ (decode cL_law 1732 = .ok (.aload_n 0, 1)) ∧ (decode cL_law 1733 = .ok (.iload_n 3, 1)) ∧ (decode cL_law 1734 = .ok (.iconst 2, 1)) ∧ (decode cL_law 1735 = .ok (.iadd, 1)) ∧ (decode cL_law 1736 = .ok (.iaload, 1)) ∧ (decode cL_law 1737 = .ok (.aload_n 0, 1)) ∧ (decode cL_law 1738 = .ok (.iload_n 3, 1)) ∧ (decode cL_law 1739 = .ok (.iconst 3, 1)) ∧ (decode cL_law 1740 = .ok (.iadd, 1)) ∧ (decode cL_law 1741 = .ok (.iaload, 1)) ∧ (decode cL_law 1742 = .ok (.aload_n 0, 1)) ∧ (decode cL_law 1743 = .ok (.iload_n 3, 1)) ∧ (decode cL_law 1744 = .ok (.iconst 4, 1)) ∧ (decode cL_law 1745 = .ok (.iadd, 1)) ∧ (decode cL_law 1746 = .ok (.iaload, 1)) ∧ (decode cL_law 1747 = .ok (.invokevirtual 176, 3)) ∧ (decode cL_law 1750 = .ok (.pop, 1)) ∧ (decode cL_law 1751 = .ok (.aload_n 2, 1)) := by decide +kernel
theorem dL_law_1726 : decode cL_law 1726 = .ok (.aload_n 1, 1) := dLg_54.1
theorem dL_law_1727 : decode cL_law 1727 = .ok (.aload_n 0, 1) := dLg_54.2.1
theorem dL_law_1728 : decode cL_law 1728 = .ok (.iload_n 3, 1) := dLg_54.2.2.1
theorem dL_law_1729 : decode cL_law 1729 = .ok (.iconst 1, 1) := dLg_54.2.2.2.1
theorem dL_law_1730 : decode cL_law 1730 = .ok (.iadd, 1) := dLg_54.2.2.2.2.1
theorem dL_law_1731 : decode cL_law 1731 = .ok (.iaload, 1) := dLg_54.2.2.2.2.2.1
theorem dL_law_1732 : decode cL_law 1732 = .ok (.aload_n 0, 1) := dLg_54.2.2.2.2.2.2.1
theorem dL_law_1733 : decode cL_law 1733 = .ok (.iload_n 3, 1) := dLg_54.2.2.2.2.2.2.2.1
theorem dL_law_1734 : decode cL_law 1734 = .ok (.iconst 2, 1) := dLg_54.2.2.2.2.2.2.2.2.1
theorem dL_law_1735 : decode cL_law 1735 = .ok (.iadd, 1) := dLg_54.2.2.2.2.2.2.2.2.2.1
theorem dL_law_1736 : decode cL_law 1736 = .ok (.iaload, 1) := dLg_54.2.2.2.2.2.2.2.2.2.2.1
theorem dL_law_1737 : decode cL_law 1737 = .ok (.aload_n 0, 1) := dLg_54.2.2.2.2.2.2.2.2.2.2.2.1
theorem dL_law_1738 : decode cL_law 1738 = .ok (.iload_n 3, 1) := dLg_54.2.2.2.2.2.2.2.2.2.2.2.2.1
theorem dL_law_1739 : decode cL_law 1739 = .ok (.iconst 3, 1) := dLg_54.2.2.2.2.2.2.2.2.2.2.2.2.2.1
theorem dL_law_1740 : decode cL_law 1740 = .ok (.iadd, 1) := dLg_54.2.2.2.2.2.2.2.2.2.2.2.2.2.2.1
theorem dL_law_1741 : decode cL_law 1741 = .ok (.iaload, 1) := dLg_54.2.2.2.2.2.2.2.2.2.2.2.2.2.2.2.1
theorem dL_law_1742 : decode cL_law 1742 = .ok (.aload_n 0, 1) := dLg_54.2.2.2.2.2.2.2.2.2.2.2.2.2.2.2.2.1
theorem dL_law_1743 : decode cL_law 1743 = .ok (.iload_n 3, 1) := dLg_54.2.2.2.2.2.2.2.2.2.2.2.2.2.2.2.2.2.1
theorem dL_law_1744 : decode cL_law 1744 = .ok (.iconst 4, 1) := dLg_54.2.2.2.2.2.2.2.2.2.2.2.2.2.2.2.2.2.2.1
theorem dL_law_1745 : decode cL_law 1745 = .ok (.iadd, 1) := dLg_54.2.2.2.2.2.2.2.2.2.2.2.2.2.2.2.2.2.2.2.1
theorem dL_law_1746 : decode cL_law 1746 = .ok (.iaload, 1) := dLg_54.2.2.2.2.2.2.2.2.2.2.2.2.2.2.2.2.2.2.2.2.1
theorem dL_law_1747 : decode cL_law 1747 = .ok (.invokevirtual 176, 3) := dLg_54.2.2.2.2.2.2.2.2.2.2.2.2.2.2.2.2.2.2.2.2.2.1
theorem dL_law_1750 : decode cL_law 1750 = .ok (.pop, 1) := dLg_54.2.2.2.2.2.2.2.2.2.2.2.2.2.2.2.2.2.2.2.2.2.2.1
theorem dL_law_1751 : decode cL_law 1751 = .ok (.aload_n 2, 1) := dLg_54.2.2.2.2.2.2.2.2.2.2.2.2.2.2.2.2.2.2.2.2.2.2.2
theorem dLg_55 : (decode cL_law 1752 = .ok (.aload_n 0, 1)) ∧ (decode cL_law 1753 = .ok (.iload_n 3, 1)) ∧ (decode cL_law 1754 = .ok (.iconst 1, 1)) ∧ (decode cL_law 1755 = .ok (.iadd, 1)) ∧ (decode cL_law 1756 = .ok (.iaload, 1)) ∧ (decode cL_law 1757 = .ok (.aload_n 0, 1)) ∧ (decode cL_law 1758 = .ok (.iload_n 3, 1)) ∧ (decode cL_law 1759 = .ok (.iconst 2, 1)) ∧ (decode cL_law 1760 = .ok (.iadd, 1)) ∧ (decode cL_law 1761 = .ok (.iaload, 1)) ∧ (decode cL_law 1762 = .ok (.aload_n 0, 1)) ∧ (decode cL_law 1763 = .ok (.iload_n 3, 1)) ∧ (decode cL_law 1764 = .ok (.iconst 3, 1)) ∧ (decode cL_law 1765 = .ok (.iadd, 1)) ∧ (decode cL_law 1766 = .ok (.iaload, 1)) ∧ (decode cL_law 1767 = .ok (.aload_n 0, 1)) ∧ (decode cL_law 1768 = .ok (.iload_n 3, 1)) ∧ (decode cL_law 1769 = .ok (.iconst 4, 1)) ∧ (decode cL_law 1770 = .ok (.iadd, 1)) ∧ (decode cL_law 1771 = .ok (.iaload, 1)) ∧ (decode cL_law 1772 = .ok (.invokevirtual 179, 3)) ∧ (decode cL_law 1775 = .ok (.pop, 1)) ∧ (decode cL_law 1776 = .ok (.goto 138, 3)) ∧ (decode cL_law 1779 = .ok (.aload_n 1, 1)) := by decide +kernel
theorem dL_law_1752 : decode cL_law 1752 = .ok (.aload_n 0, 1) := dLg_55.1
theorem dL_law_1753 : decode cL_law 1753 = .ok (.iload_n 3, 1) := dLg_55.2.1
theorem dL_law_1754 : decode cL_law 1754 = .ok (.iconst 1, 1) := dLg_55.2.2.1
theorem dL_law_1755 : decode cL_law 1755 = .ok (.iadd, 1) := dLg_55.2.2.2.1
theorem dL_law_1756 : decode cL_law 1756 = .ok (.iaload, 1) := dLg_55.2.2.2.2.1
theorem dL_law_1757 : decode cL_law 1757 = .ok (.aload_n 0, 1) := dLg_55.2.2.2.2.2.1
theorem dL_law_1758 : decode cL_law 1758 = .ok (.iload_n 3, 1) := dLg_55.2.2.2.2.2.2.1
theorem dL_law_1759 : decode cL_law 1759 = .ok (.iconst 2, 1) := dLg_55.2.2.2.2.2.2.2.1
theorem dL_law_1760 : decode cL_law 1760 = .ok (.iadd, 1) := dLg_55.2.2.2.2.2.2.2.2.1
theorem dL_law_1761 : decode cL_law 1761 = .ok (.iaload, 1) := dLg_55.2.2.2.2.2.2.2.2.2.1
theorem dL_law_1762 : decode cL_law 1762 = .ok (.aload_n 0, 1) := dLg_55.2.2.2.2.2.2.2.2.2.2.1
theorem dL_law_1763 : decode cL_law 1763 = .ok (.iload_n 3, 1) := dLg_55.2.2.2.2.2.2.2.2.2.2.2.1
theorem dL_law_1764 : decode cL_law 1764 = .ok (.iconst 3, 1) := dLg_55.2.2.2.2.2.2.2.2.2.2.2.2.1
theorem dL_law_1765 : decode cL_law 1765 = .ok (.iadd, 1) := dLg_55.2.2.2.2.2.2.2.2.2.2.2.2.2.1
theorem dL_law_1766 : decode cL_law 1766 = .ok (.iaload, 1) := dLg_55.2.2.2.2.2.2.2.2.2.2.2.2.2.2.1
theorem dL_law_1767 : decode cL_law 1767 = .ok (.aload_n 0, 1) := dLg_55.2.2.2.2.2.2.2.2.2.2.2.2.2.2.2.1
theorem dL_law_1768 : decode cL_law 1768 = .ok (.iload_n 3, 1) := dLg_55.2.2.2.2.2.2.2.2.2.2.2.2.2.2.2.2.1
theorem dL_law_1769 : decode cL_law 1769 = .ok (.iconst 4, 1) := dLg_55.2.2.2.2.2.2.2.2.2.2.2.2.2.2.2.2.2.1
theorem dL_law_1770 : decode cL_law 1770 = .ok (.iadd, 1) := dLg_55.2.2.2.2.2.2.2.2.2.2.2.2.2.2.2.2.2.2.1
theorem dL_law_1771 : decode cL_law 1771 = .ok (.iaload, 1) := dLg_55.2.2.2.2.2.2.2.2.2.2.2.2.2.2.2.2.2.2.2.1
theorem dL_law_1772 : decode cL_law 1772 = .ok (.invokevirtual 179, 3) := dLg_55.2.2.2.2.2.2.2.2.2.2.2.2.2.2.2.2.2.2.2.2.1
theorem dL_law_1775 : decode cL_law 1775 = .ok (.pop, 1) := dLg_55.2.2.2.2.2.2.2.2.2.2.2.2.2.2.2.2.2.2.2.2.2.1
theorem dL_law_1776 : decode cL_law 1776 = .ok (.goto 138, 3) := dLg_55.2.2.2.2.2.2.2.2.2.2.2.2.2.2.2.2.2.2.2.2.2.2.1
theorem dL_law_1779 : decode cL_law 1779 = .ok (.aload_n 1, 1) := dLg_55.2.2.2.2.2.2.2.2.2.2.2.2.2.2.2.2.2.2.2.2.2.2.2
theorem dLg_56 : (decode cL_law 1780 = .ok (.aload_n 0, 1)) ∧ (decode cL_law 1781 = .ok (.iload_n 3, 1)) ∧ (decode cL_law 1782 = .ok (.iconst 1, 1)) ∧ (decode cL_law 1783 = .ok (.iadd, 1)) ∧ (decode cL_law 1784 = .ok (.iaload, 1)) ∧ (decode cL_law 1785 = .ok (.aload_n 0, 1)) ∧ (decode cL_law 1786 = .ok (.iload_n 3, 1)) ∧ (decode cL_law 1787 = .ok (.iconst 2, 1)) ∧ (decode cL_law 1788 = .ok (.iadd, 1)) ∧ (decode cL_law 1789 = .ok (.iaload, 1)) ∧ (decode cL_law 1790 = .ok (.aload_n 0, 1)) ∧ (decode cL_law 1791 = .ok (.iload_n 3, 1)) ∧ (decode cL_law 1792 = .ok (.iconst 3, 1)) ∧ (decode cL_law 1793 = .ok (.iadd, 1)) ∧ (decode cL_law 1794 = .ok (.iaload, 1)) ∧ (decode cL_law 1795 = .ok (.ifCond .eq 7, 3)) ∧ (decode cL_law 1798 = .ok (.iconst 1, 1)) ∧ (decode cL_law 1799 = .ok (.goto 4, 3)) ∧ (decode cL_law 1802 = .ok (.iconst 0, 1)) ∧ (decode cL_law 1803 = .ok (.invokevirtual 180, 3)) ∧ (decode cL_law 1806 = .ok (.pop, 1)) ∧ (decode cL_law 1807 = .ok (.aload_n 2, 1)) ∧ (decode cL_law 1808 = .ok (.aload_n 0, 1)) ∧ (decode cL_law 1809 = .ok (.iload_n 3, 1)) := by decide +kernel
theorem dL_law_1780 : decode cL_law 1780 = .ok (.aload_n 0, 1) := dLg_56.1
theorem dL_law_1781 : decode cL_law 1781 = .ok (.iload_n 3, 1) := dLg_56.2.1
theorem dL_law_1782 : decode cL_law 1782 = .ok (.iconst 1, 1) := dLg_56.2.2.1
theorem dL_law_1783 : decode cL_law 1783 = .ok (.iadd, 1) := dLg_56.2.2.2.1
theorem dL_law_1784 : decode cL_law 1784 = .ok (.iaload, 1) := dLg_56.2.2.2.2.1
theorem dL_law_1785 : decode cL_law 1785 = .ok (.aload_n 0, 1) := dLg_56.2.2.2.2.2.1
theorem dL_law_1786 : decode cL_law 1786 = .ok (.iload_n 3, 1) := dLg_56.2.2.2.2.2.2.1
theorem dL_law_1787 : decode cL_law 1787 = .ok (.iconst 2, 1) := dLg_56.2.2.2.2.2.2.2.1
theorem dL_law_1788 : decode cL_law 1788 = .ok (.iadd, 1) := dLg_56.2.2.2.2.2.2.2.2.1
theorem dL_law_1789 : decode cL_law 1789 = .ok (.iaload, 1) := dLg_56.2.2.2.2.2.2.2.2.2.1
theorem dL_law_1790 : decode cL_law 1790 = .ok (.aload_n 0, 1) := dLg_56.2.2.2.2.2.2.2.2.2.2.1
theorem dL_law_1791 : decode cL_law 1791 = .ok (.iload_n 3, 1) := dLg_56.2.2.2.2.2.2.2.2.2.2.2.1
theorem dL_law_1792 : decode cL_law 1792 = .ok (.iconst 3, 1) := dLg_56.2.2.2.2.2.2.2.2.2.2.2.2.1
theorem dL_law_1793 : decode cL_law 1793 = .ok (.iadd, 1) := dLg_56.2.2.2.2.2.2.2.2.2.2.2.2.2.1
theorem dL_law_1794 : decode cL_law 1794 = .ok (.iaload, 1) := dLg_56.2.2.2.2.2.2.2.2.2.2.2.2.2.2.1
theorem dL_law_1795 : decode cL_law 1795 = .ok (.ifCond .eq 7, 3) := dLg_56.2.2.2.2.2.2.2.2.2.2.2.2.2.2.2.1
theorem dL_law_1798 : decode cL_law 1798 = .ok (.iconst 1, 1) := dLg_56.2.2.2.2.2.2.2.2.2.2.2.2.2.2.2.2.1
theorem dL_law_1799 : decode cL_law 1799 = .ok (.goto 4, 3) := dLg_56.2.2.2.2.2.2.2.2.2.2.2.2.2.2.2.2.2.1
theorem dL_law_1802 : decode cL_law 1802 = .ok (.iconst 0, 1) := dLg_56.2.2.2.2.2.2.2.2.2.2.2.2.2.2.2.2.2.2.1
theorem dL_law_1803 : decode cL_law 1803 = .ok (.invokevirtual 180, 3) := dLg_56.2.2.2.2.2.2.2.2.2.2.2.2.2.2.2.2.2.2.2.1
theorem dL_law_1806 : decode cL_law 1806 = .ok (.pop, 1) := dLg_56.2.2.2.2.2.2.2.2.2.2.2.2.2.2.2.2.2.2.2.2.1
theorem dL_law_1807 : decode cL_law 1807 = .ok (.aload_n 2, 1) := dLg_56.2.2.2.2.2.2.2.2.2.2.2.2.2.2.2.2.2.2.2.2.2.1
theorem dL_law_1808 : decode cL_law 1808 = .ok (.aload_n 0, 1) := dLg_56.2.2.2.2.2.2.2.2.2.2.2.2.2.2.2.2.2.2.2.2.2.2.1
theorem dL_law_1809 : decode cL_law 1809 = .ok (.iload_n 3, 1) := dLg_56.2.2.2.2.2.2.2.2.2.2.2.2.2.2.2.2.2.2.2.2.2.2.2
theorem dLg_57 : (decode cL_law 1810 = .ok (.iconst 1, 1)) ∧ (decode cL_law 1811 = .ok (.iadd, 1)) ∧ (decode cL_law 1812 = .ok (.iaload, 1)) ∧ (decode cL_law 1813 = .ok (.aload_n 0, 1)) ∧ (decode cL_law 1814 = .ok (.iload_n 3, 1)) ∧ (decode cL_law 1815 = .ok (.iconst 2, 1)) ∧ (decode cL_law 1816 = .ok (.iadd, 1)) ∧ (decode cL_law 1817 = .ok (.iaload, 1)) ∧ (decode cL_law 1818 = .ok (.aload_n 0, 1)) ∧ (decode cL_law 1819 = .ok (.iload_n 3, 1)) ∧ (decode cL_law 1820 = .ok (.iconst 3, 1)) ∧ (decode cL_law 1821 = .ok (.iadd, 1)) ∧ (decode cL_law 1822 = .ok (.iaload, 1)) ∧ (decode cL_law 1823 = .ok (.ifCond .eq 7, 3)) ∧ (decode cL_law 1826 = .ok (.iconst 1, 1)) ∧ (decode cL_law 1827 = .ok (.goto 4, 3)) ∧ (decode cL_law 1830 = .ok (.iconst 0, 1)) ∧ (decode cL_law 1831 = .ok (.invokevirtual 184, 3)) ∧ (decode cL_law 1834 = .ok (.pop, 1)) ∧ (decode cL_law 1835 = .ok (.goto 79, 3)) ∧ (decode cL_law 1838 = .ok (.aload_n 1, 1)) ∧ (decode cL_law 1839 = .ok (.aload_n 0, 1)) ∧ (decode cL_law 1840 = .ok (.iload_n 3, 1)) ∧ (decode cL_law 1841 = .ok (.iconst 1, 1)) := by decide +kernel
theorem dL_law_1810 : decode cL_law 1810 = .ok (.iconst 1, 1) := dLg_57.1
theorem dL_law_1811 : decode cL_law 1811 = .ok (.iadd, 1) := dLg_57.2.1
theorem dL_law_1812 : decode cL_law 1812 = .ok (.iaload, 1) := dLg_57.2.2.1
theorem dL_law_1813 : decode cL_law 1813 = .ok (.aload_n 0, 1) := dLg_57.2.2.2.1
theorem dL_law_1814 : decode cL_law 1814 = .ok (.iload_n 3, 1) := dLg_57.2.2.2.2.1
theorem dL_law_1815 : decode cL_law 1815 = .ok (.iconst 2, 1) := dLg_57.2.2.2.2.2.1
theorem dL_law_1816 : decode cL_law 1816 = .ok (.iadd, 1) := dLg_57.2.2.2.2.2.2.1
theorem dL_law_1817 : decode cL_law 1817 = .ok (.iaload, 1) := dLg_57.2.2.2.2.2.2.2.1
theorem dL_law_1818 : decode cL_law 1818 = .ok (.aload_n 0, 1) := dLg_57.2.2.2.2.2.2.2.2.1
theorem dL_law_1819 : decode cL_law 1819 = .ok (.iload_n 3, 1) := dLg_57.2.2.2.2.2.2.2.2.2.1
theorem dL_law_1820 : decode cL_law 1820 = .ok (.iconst 3, 1) := dLg_57.2.2.2.2.2.2.2.2.2.2.1
theorem dL_law_1821 : decode cL_law 1821 = .ok (.iadd, 1) := dLg_57.2.2.2.2.2.2.2.2.2.2.2.1
theorem dL_law_1822 : decode cL_law 1822 = .ok (.iaload, 1) := dLg_57.2.2.2.2.2.2.2.2.2.2.2.2.1
theorem dL_law_1823 : decode cL_law 1823 = .ok (.ifCond .eq 7, 3) := dLg_57.2.2.2.2.2.2.2.2.2.2.2.2.2.1
theorem dL_law_1826 : decode cL_law 1826 = .ok (.iconst 1, 1) := dLg_57.2.2.2.2.2.2.2.2.2.2.2.2.2.2.1
theorem dL_law_1827 : decode cL_law 1827 = .ok (.goto 4, 3) := dLg_57.2.2.2.2.2.2.2.2.2.2.2.2.2.2.2.1
theorem dL_law_1830 : decode cL_law 1830 = .ok (.iconst 0, 1) := dLg_57.2.2.2.2.2.2.2.2.2.2.2.2.2.2.2.2.1
theorem dL_law_1831 : decode cL_law 1831 = .ok (.invokevirtual 184, 3) := dLg_57.2.2.2.2.2.2.2.2.2.2.2.2.2.2.2.2.2.1
theorem dL_law_1834 : decode cL_law 1834 = .ok (.pop, 1) := dLg_57.2.2.2.2.2.2.2.2.2.2.2.2.2.2.2.2.2.2.1
theorem dL_law_1835 : decode cL_law 1835 = .ok (.goto 79, 3) := dLg_57.2.2.2.2.2.2.2.2.2.2.2.2.2.2.2.2.2.2.2.1
theorem dL_law_1838 : decode cL_law 1838 = .ok (.aload_n 1, 1) := dLg_57.2.2.2.2.2.2.2.2.2.2.2.2.2.2.2.2.2.2.2.2.1
theorem dL_law_1839 : decode cL_law 1839 = .ok (.aload_n 0, 1) := dLg_57.2.2.2.2.2.2.2.2.2.2.2.2.2.2.2.2.2.2.2.2.2.1
theorem dL_law_1840 : decode cL_law 1840 = .ok (.iload_n 3, 1) := dLg_57.2.2.2.2.2.2.2.2.2.2.2.2.2.2.2.2.2.2.2.2.2.2.1
theorem dL_law_1841 : decode cL_law 1841 = .ok (.iconst 1, 1) := dLg_57.2.2.2.2.2.2.2.2.2.2.2.2.2.2.2.2.2.2.2.2.2.2.2
theorem dLg_58 : (decode cL_law 1842 = .ok (.iadd, 1)) ∧ (decode cL_law 1843 = .ok (.iaload, 1)) ∧ (decode cL_law 1844 = .ok (.aload_n 0, 1)) ∧ (decode cL_law 1845 = .ok (.iload_n 3, 1)) ∧ (decode cL_law 1846 = .ok (.iconst 2, 1)) ∧ (decode cL_law 1847 = .ok (.iadd, 1)) ∧ (decode cL_law 1848 = .ok (.iaload, 1)) ∧ (decode cL_law 1849 = .ok (.aload_n 0, 1)) ∧ (decode cL_law 1850 = .ok (.iload_n 3, 1)) ∧ (decode cL_law 1851 = .ok (.iconst 3, 1)) ∧ (decode cL_law 1852 = .ok (.iadd, 1)) ∧ (decode cL_law 1853 = .ok (.iaload, 1)) ∧ (decode cL_law 1854 = .ok (.aload_n 0, 1)) ∧ (decode cL_law 1855 = .ok (.iload_n 3, 1)) ∧ (decode cL_law 1856 = .ok (.iconst 4, 1)) ∧ (decode cL_law 1857 = .ok (.iadd, 1)) ∧ (decode cL_law 1858 = .ok (.iaload, 1)) ∧ (decode cL_law 1859 = .ok (.invokevirtual 185, 3)) ∧ (decode cL_law 1862 = .ok (.pop, 1)) ∧ (decode cL_law 1863 = .ok (.aload_n 2, 1)) ∧ (decode cL_law 1864 = .ok (.aload_n 0, 1)) ∧ (decode cL_law 1865 = .ok (.iload_n 3, 1)) ∧ (decode cL_law 1866 = .ok (.iconst 1, 1)) ∧ (decode cL_law 1867 = .ok (.iadd, 1)) := by decide +kernel
theorem dL_law_1842 : decode cL_law 1842 = .ok (.iadd, 1) := dLg_58.1
theorem dL_law_1843 : decode cL_law 1843 = .ok (.iaload, 1) := dLg_58.2.1
theorem dL_law_1844 : decode cL_law 1844 = .ok (.aload_n 0, 1) := dLg_58.2.2.1
theorem dL_law_1845 : decode cL_law 1845 = .ok (.iload_n 3, 1) := dLg_58.2.2.2.1
theorem dL_law_1846 : decode cL_law 1846 = .ok (.iconst 2, 1) := dLg_58.2.2.2.2.1
theorem dL_law_1847 : decode cL_law 1847 = .ok (.iadd, 1) := dLg_58.2.2.2.2.2.1
theorem dL_law_1848 : decode cL_law 1848 = .ok (.iaload, 1) := dLg_58.2.2.2.2.2.2.1
theorem dL_law_1849 : decode cL_law 1849 = .ok (.aload_n 0, 1) := dLg_58.2.2.2.2.2.2.2.1
theorem dL_law_1850 : decode cL_law 1850 = .ok (.iload_n 3, 1) := dLg_58.2.2.2.2.2.2.2.2.1
theorem dL_law_1851 : decode cL_law 1851 = .ok (.iconst 3, 1) := dLg_58.2.2.2.2.2.2.2.2.2.1
theorem dL_law_1852 : decode cL_law 1852 = .ok (.iadd, 1) := dLg_58.2.2.2.2.2.2.2.2.2.2.1
theorem dL_law_1853 : decode cL_law 1853 = .ok (.iaload, 1) := dLg_58.2.2.2.2.2.2.2.2.2.2.2.1
theorem dL_law_1854 : decode cL_law 1854 = .ok (.aload_n 0, 1) := dLg_58.2.2.2.2.2.2.2.2.2.2.2.2.1
theorem dL_law_1855 : decode cL_law 1855 = .ok (.iload_n 3, 1) := dLg_58.2.2.2.2.2.2.2.2.2.2.2.2.2.1
theorem dL_law_1856 : decode cL_law 1856 = .ok (.iconst 4, 1) := dLg_58.2.2.2.2.2.2.2.2.2.2.2.2.2.2.1
theorem dL_law_1857 : decode cL_law 1857 = .ok (.iadd, 1) := dLg_58.2.2.2.2.2.2.2.2.2.2.2.2.2.2.2.1
theorem dL_law_1858 : decode cL_law 1858 = .ok (.iaload, 1) := dLg_58.2.2.2.2.2.2.2.2.2.2.2.2.2.2.2.2.1
theorem dL_law_1859 : decode cL_law 1859 = .ok (.invokevirtual 185, 3) := dLg_58.2.2.2.2.2.2.2.2.2.2.2.2.2.2.2.2.2.1
theorem dL_law_1862 : decode cL_law 1862 = .ok (.pop, 1) := dLg_58.2.2.2.2.2.2.2.2.2.2.2.2.2.2.2.2.2.2.1
theorem dL_law_1863 : decode cL_law 1863 = .ok (.aload_n 2, 1) := dLg_58.2.2.2.2.2.2.2.2.2.2.2.2.2.2.2.2.2.2.2.1
theorem dL_law_1864 : decode cL_law 1864 = .ok (.aload_n 0, 1) := dLg_58.2.2.2.2.2.2.2.2.2.2.2.2.2.2.2.2.2.2.2.2.1
theorem dL_law_1865 : decode cL_law 1865 = .ok (.iload_n 3, 1) := dLg_58.2.2.2.2.2.2.2.2.2.2.2.2.2.2.2.2.2.2.2.2.2.1
theorem dL_law_1866 : decode cL_law 1866 = .ok (.iconst 1, 1) := dLg_58.2.2.2.2.2.2.2.2.2.2.2.2.2.2.2.2.2.2.2.2.2.2.1
theorem dL_law_1867 : decode cL_law 1867 = .ok (.iadd, 1) := dLg_58.2.2.2.2.2.2.2.2.2.2.2.2.2.2.2.2.2.2.2.2.2.2.2
theorem dLg_59 : (decode cL_law 1868 = .ok (.iaload, 1)) ∧ (decode cL_law 1869 = .ok (.aload_n 0, 1)) ∧ (decode cL_law 1870 = .ok (.iload_n 3, 1)) ∧ (decode cL_law 1871 = .ok (.iconst 2, 1)) ∧ (decode cL_law 1872 = .ok (.iadd, 1)) ∧ (decode cL_law 1873 = .ok (.iaload, 1)) ∧ (decode cL_law 1874 = .ok (.aload_n 0, 1)) ∧ (decode cL_law 1875 = .ok (.iload_n 3, 1)) ∧ (decode cL_law 1876 = .ok (.iconst 3, 1)) ∧ (decode cL_law 1877 = .ok (.iadd, 1)) ∧ (decode cL_law 1878 = .ok (.iaload, 1)) ∧ (decode cL_law 1879 = .ok (.aload_n 0, 1)) ∧ (decode cL_law 1880 = .ok (.iload_n 3, 1)) ∧ (decode cL_law 1881 = .ok (.iconst 4, 1)) ∧ (decode cL_law 1882 = .ok (.iadd, 1)) ∧ (decode cL_law 1883 = .ok (.iaload, 1)) ∧ (decode cL_law 1884 = .ok (.invokevirtual 188, 3)) ∧ (decode cL_law 1887 = .ok (.pop, 1)) ∧ (decode cL_law 1888 = .ok (.goto 26, 3)) ∧ (decode cL_law 1891 = .ok (.aload_n 1, 1)) ∧ (decode cL_law 1892 = .ok (.aload_n 0, 1)) ∧ (decode cL_law 1893 = .ok (.iload_n 3, 1)) ∧ (decode cL_law 1894 = .ok (.iconst 1, 1)) ∧ (decode cL_law 1895 = .ok (.iadd, 1)) := by decide +kernel
theorem dL_law_1868 : decode cL_law 1868 = .ok (.iaload, 1) := dLg_59.1
theorem dL_law_1869 : decode cL_law 1869 = .ok (.aload_n 0, 1) := dLg_59.2.1
theorem dL_law_1870 : decode cL_law 1870 = .ok (.iload_n 3, 1) := dLg_59.2.2.1
theorem dL_law_1871 : decode cL_law 1871 = .ok (.iconst 2, 1) := dLg_59.2.2.2.1
theorem dL_law_1872 : decode cL_law 1872 = .ok (.iadd, 1) := dLg_59.2.2.2.2.1
theorem dL_law_1873 : decode cL_law 1873 = .ok (.iaload, 1) := dLg_59.2.2.2.2.2.1
theorem dL_law_1874 : decode cL_law 1874 = .ok (.aload_n 0, 1) := dLg_59.2.2.2.2.2.2.1
theorem dL_law_1875 : decode cL_law 1875 = .ok (.iload_n 3, 1) := dLg_59.2.2.2.2.2.2.2.1
theorem dL_law_1876 : decode cL_law 1876 = .ok (.iconst 3, 1) := dLg_59.2.2.2.2.2.2.2.2.1
theorem dL_law_1877 : decode cL_law 1877 = .ok (.iadd, 1) := dLg_59.2.2.2.2.2.2.2.2.2.1
theorem dL_law_1878 : decode cL_law 1878 = .ok (.iaload, 1) := dLg_59.2.2.2.2.2.2.2.2.2.2.1
theorem dL_law_1879 : decode cL_law 1879 = .ok (.aload_n 0, 1) := dLg_59.2.2.2.2.2.2.2.2.2.2.2.1
theorem dL_law_1880 : decode cL_law 1880 = .ok (.iload_n 3, 1) := dLg_59.2.2.2.2.2.2.2.2.2.2.2.2.1
theorem dL_law_1881 : decode cL_law 1881 = .ok (.iconst 4, 1) := dLg_59.2.2.2.2.2.2.2.2.2.2.2.2.2.1
theorem dL_law_1882 : decode cL_law 1882 = .ok (.iadd, 1) := dLg_59.2.2.2.2.2.2.2.2.2.2.2.2.2.2.1
theorem dL_law_1883 : decode cL_law 1883 = .ok (.iaload, 1) := dLg_59.2.2.2.2.2.2.2.2.2.2.2.2.2.2.2.1
theorem dL_law_1884 : decode cL_law 1884 = .ok (.invokevirtual 188, 3) := dLg_59.2.2.2.2.2.2.2.2.2.2.2.2.2.2.2.2.1
theorem dL_law_1887 : decode cL_law 1887 = .ok (.pop, 1) := dLg_59.2.2.2.2.2.2.2.2.2.2.2.2.2.2.2.2.2.1
theorem dL_law_1888 : decode cL_law 1888 = .ok (.goto 26, 3) := dLg_59.2.2.2.2.2.2.2.2.2.2.2.2.2.2.2.2.2.2.1
theorem dL_law_1891 : decode cL_law 1891 = .ok (.aload_n 1, 1) := dLg_59.2.2.2.2.2.2.2.2.2.2.2.2.2.2.2.2.2.2.2.1
theorem dL_law_1892 : decode cL_law 1892 = .ok (.aload_n 0, 1) := dLg_59.2.2.2.2.2.2.2.2.2.2.2.2.2.2.2.2.2.2.2.2.1
theorem dL_law_1893 : decode cL_law 1893 = .ok (.iload_n 3, 1) := dLg_59.2.2.2.2.2.2.2.2.2.2.2.2.2.2.2.2.2.2.2.2.2.1
theorem dL_law_1894 : decode cL_law 1894 = .ok (.iconst 1, 1) := dLg_59.2.2.2.2.2.2.2.2.2.2.2.2.2.2.2.2.2.2.2.2.2.2.1
theorem dL_law_1895 : decode cL_law 1895 = .ok (.iadd, 1) := dLg_59.2.2.2.2.2.2.2.2.2.2.2.2.2.2.2.2.2.2.2.2.2.2.2
theorem dLg_60 : (decode cL_law 1896 = .ok (.iaload, 1)) ∧ (decode cL_law 1897 = .ok (.invokevirtual 189, 3)) ∧ (decode cL_law 1900 = .ok (.pop, 1)) ∧ (decode cL_law 1901 = .ok (.aload_n 2, 1)) ∧ (decode cL_law 1902 = .ok (.aload_n 0, 1)) ∧ (decode cL_law 1903 = .ok (.iload_n 3, 1)) ∧ (decode cL_law 1904 = .ok (.iconst 1, 1)) ∧ (decode cL_law 1905 = .ok (.iadd, 1)) ∧ (decode cL_law 1906 = .ok (.iaload, 1)) ∧ (decode cL_law 1907 = .ok (.invokevirtual 192, 3)) ∧ (decode cL_law 1910 = .ok (.pop, 1)) ∧ (decode cL_law 1911 = .ok (.goto 3, 3)) ∧ (decode cL_law 1914 = .ok (.iinc 3 6, 3)) ∧ (decode cL_law 1917 = .ok (.goto (-1899), 3)) ∧ (decode cL_law 1920 = .ok (.iconst 1, 1)) ∧ (decode cL_law 1921 = .ok (.ireturn, 1)) := by decide +kernel
theorem dL_law_1896 : decode cL_law 1896 = .ok (.iaload, 1) := dLg_60.1
theorem dL_law_1897 : decode cL_law 1897 = .ok (.invokevirtual 189, 3) := dLg_60.2.1
theorem dL_law_1900 : decode cL_law 1900 = .ok (.pop, 1) := dLg_60.2.2.1
theorem dL_law_1901 : decode cL_law 1901 = .ok (.aload_n 2, 1) := dLg_60.2.2.2.1
theorem dL_law_1902 : decode cL_law 1902 = .ok (.aload_n 0, 1) := dLg_60.2.2.2.2.1
theorem dL_law_1903 : decode cL_law 1903 = .ok (.iload_n 3, 1) := dLg_60.2.2.2.2.2.1
theorem dL_law_1904 : decode cL_law 1904 = .ok (.iconst 1, 1) := dLg_60.2.2.2.2.2.2.1
theorem dL_law_1905 : decode cL_law 1905 = .ok (.iadd, 1) := dLg_60.2.2.2.2.2.2.2.1
theorem dL_law_1906 : decode cL_law 1906 = .ok (.iaload, 1) := dLg_60.2.2.2.2.2.2.2.2.1
theorem dL_law_1907 : decode cL_law 1907 = .ok (.invokevirtual 192, 3) := dLg_60.2.2.2.2.2.2.2.2.2.1
theorem dL_law_1910 : decode cL_law 1910 = .ok (.pop, 1) := dLg_60.2.2.2.2.2.2.2.2.2.2.1
theorem dL_law_1911 : decode cL_law 1911 = .ok (.goto 3, 3) := dLg_60.2.2.2.2.2.2.2.2.2.2.2.1
theorem dL_law_1914 : decode cL_law 1914 = .ok (.iinc 3 6, 3) := dLg_60.2.2.2.2.2.2.2.2.2.2.2.2.1
theorem dL_law_1917 : decode cL_law 1917 = .ok (.goto (-1899), 3) := dLg_60.2.2.2.2.2.2.2.2.2.2.2.2.2.1
theorem dL_law_1920 : decode cL_law 1920 = .ok (.iconst 1, 1) := dLg_60.2.2.2.2.2.2.2.2.2.2.2.2.2.2.1
theorem dL_law_1921 : decode cL_law 1921 = .ok (.ireturn, 1) := dLg_60.2.2.2.2.2.2.2.2.2.2.2.2.2.2.2
