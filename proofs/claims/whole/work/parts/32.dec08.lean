theorem dX10_init_1457 : decode cX10_init 1457 = .ok (.iastore, 1) := by decide +kernel
theorem dX10_init_1458 : decode cX10_init 1458 = .ok (.dup, 1) := by decide +kernel
theorem dX10_init_1459 : decode cX10_init 1459 = .ok (.sipush 199, 3) := by decide +kernel
theorem dX10_init_1462 : decode cX10_init 1462 = .ok (.sipush 2321, 3) := by decide +kernel
theorem dX10_init_1465 : decode cX10_init 1465 = .ok (.iastore, 1) := by decide +kernel
theorem dX10_init_1466 : decode cX10_init 1466 = .ok (.dup, 1) := by decide +kernel
theorem dX10_init_1467 : decode cX10_init 1467 = .ok (.sipush 200, 3) := by decide +kernel
theorem dX10_init_1470 : decode cX10_init 1470 = .ok (.sipush 577, 3) := by decide +kernel
theorem dX10_init_1473 : decode cX10_init 1473 = .ok (.iastore, 1) := by decide +kernel
theorem dX10_init_1474 : decode cX10_init 1474 = .ok (.dup, 1) := by decide +kernel
theorem dX10_init_1475 : decode cX10_init 1475 = .ok (.sipush 201, 3) := by decide +kernel
theorem dX10_init_1478 : decode cX10_init 1478 = .ok (.sipush 8449, 3) := by decide +kernel
theorem dX10_init_1481 : decode cX10_init 1481 = .ok (.iastore, 1) := by decide +kernel
theorem dX10_init_1482 : decode cX10_init 1482 = .ok (.dup, 1) := by decide +kernel
theorem dX10_init_1483 : decode cX10_init 1483 = .ok (.sipush 202, 3) := by decide +kernel
theorem dX10_init_1486 : decode cX10_init 1486 = .ok (.sipush 580, 3) := by decide +kernel
theorem dX10_init_1489 : decode cX10_init 1489 = .ok (.iastore, 1) := by decide +kernel
theorem dX10_init_1490 : decode cX10_init 1490 = .ok (.dup, 1) := by decide +kernel
theorem dX10_init_1491 : decode cX10_init 1491 = .ok (.sipush 203, 3) := by decide +kernel
theorem dX10_init_1494 : decode cX10_init 1494 = .ok (.sipush 576, 3) := by decide +kernel
theorem dX10_init_1497 : decode cX10_init 1497 = .ok (.iastore, 1) := by decide +kernel
theorem dX10_init_1498 : decode cX10_init 1498 = .ok (.dup, 1) := by decide +kernel
theorem dX10_init_1499 : decode cX10_init 1499 = .ok (.sipush 204, 3) := by decide +kernel
theorem dX10_init_1502 : decode cX10_init 1502 = .ok (.sipush 4353, 3) := by decide +kernel
theorem dX10_init_1505 : decode cX10_init 1505 = .ok (.iastore, 1) := by decide +kernel
theorem dX10_init_1506 : decode cX10_init 1506 = .ok (.dup, 1) := by decide +kernel
theorem dX10_init_1507 : decode cX10_init 1507 = .ok (.sipush 205, 3) := by decide +kernel
theorem dX10_init_1510 : decode cX10_init 1510 = .ok (.sipush 257, 3) := by decide +kernel
theorem dX10_init_1513 : decode cX10_init 1513 = .ok (.iastore, 1) := by decide +kernel
theorem dX10_init_1514 : decode cX10_init 1514 = .ok (.dup, 1) := by decide +kernel
theorem dX10_init_1515 : decode cX10_init 1515 = .ok (.sipush 206, 3) := by decide +kernel
theorem dX10_init_1518 : decode cX10_init 1518 = .ok (.sipush 144, 3) := by decide +kernel
theorem dX10_init_1521 : decode cX10_init 1521 = .ok (.iastore, 1) := by decide +kernel
theorem dX10_init_1522 : decode cX10_init 1522 = .ok (.dup, 1) := by decide +kernel
theorem dX10_init_1523 : decode cX10_init 1523 = .ok (.sipush 207, 3) := by decide +kernel
theorem dX10_init_1526 : decode cX10_init 1526 = .ok (.sipush 2305, 3) := by decide +kernel
theorem dX10_init_1529 : decode cX10_init 1529 = .ok (.iastore, 1) := by decide +kernel
theorem dX10_init_1530 : decode cX10_init 1530 = .ok (.dup, 1) := by decide +kernel
theorem dX10_init_1531 : decode cX10_init 1531 = .ok (.sipush 208, 3) := by decide +kernel
theorem dX10_init_1534 : decode cX10_init 1534 = .ok (.sipush 292, 3) := by decide +kernel
theorem dX10_init_1537 : decode cX10_init 1537 = .ok (.iastore, 1) := by decide +kernel
theorem dX10_init_1538 : decode cX10_init 1538 = .ok (.dup, 1) := by decide +kernel
theorem dX10_init_1539 : decode cX10_init 1539 = .ok (.sipush 209, 3) := by decide +kernel
theorem dX10_init_1542 : decode cX10_init 1542 = .ok (.sipush 8337, 3) := by decide +kernel
theorem dX10_init_1545 : decode cX10_init 1545 = .ok (.iastore, 1) := by decide +kernel
theorem dX10_init_1546 : decode cX10_init 1546 = .ok (.dup, 1) := by decide +kernel
theorem dX10_init_1547 : decode cX10_init 1547 = .ok (.sipush 210, 3) := by decide +kernel
theorem dX10_init_1550 : decode cX10_init 1550 = .ok (.sipush 9361, 3) := by decide +kernel
theorem dX10_init_1553 : decode cX10_init 1553 = .ok (.iastore, 1) := by decide +kernel
theorem dX10_init_1554 : decode cX10_init 1554 = .ok (.dup, 1) := by decide +kernel
theorem dX10_init_1555 : decode cX10_init 1555 = .ok (.sipush 211, 3) := by decide +kernel
theorem dX10_init_1558 : decode cX10_init 1558 = .ok (.sipush 8480, 3) := by decide +kernel
theorem dX10_init_1561 : decode cX10_init 1561 = .ok (.iastore, 1) := by decide +kernel
theorem dX10_init_1562 : decode cX10_init 1562 = .ok (.dup, 1) := by decide +kernel
theorem dX10_init_1563 : decode cX10_init 1563 = .ok (.sipush 212, 3) := by decide +kernel
theorem dX10_init_1566 : decode cX10_init 1566 = .ok (.sipush 4241, 3) := by decide +kernel
theorem dX10_init_1569 : decode cX10_init 1569 = .ok (.iastore, 1) := by decide +kernel
theorem dX10_init_1570 : decode cX10_init 1570 = .ok (.dup, 1) := by decide +kernel
theorem dX10_init_1571 : decode cX10_init 1571 = .ok (.sipush 213, 3) := by decide +kernel
theorem dX10_init_1574 : decode cX10_init 1574 = .ok (.sipush 145, 3) := by decide +kernel
theorem dX10_init_1577 : decode cX10_init 1577 = .ok (.iastore, 1) := by decide +kernel
theorem dX10_init_1578 : decode cX10_init 1578 = .ok (.dup, 1) := by decide +kernel
theorem dX10_init_1579 : decode cX10_init 1579 = .ok (.sipush 214, 3) := by decide +kernel
theorem dX10_init_1582 : decode cX10_init 1582 = .ok (.sipush 1169, 3) := by decide +kernel
theorem dX10_init_1585 : decode cX10_init 1585 = .ok (.iastore, 1) := by decide +kernel
theorem dX10_init_1586 : decode cX10_init 1586 = .ok (.dup, 1) := by decide +kernel
theorem dX10_init_1587 : decode cX10_init 1587 = .ok (.sipush 215, 3) := by decide +kernel
theorem dX10_init_1590 : decode cX10_init 1590 = .ok (.sipush 2193, 3) := by decide +kernel
theorem dX10_init_1593 : decode cX10_init 1593 = .ok (.iastore, 1) := by decide +kernel
theorem dX10_init_1594 : decode cX10_init 1594 = .ok (.dup, 1) := by decide +kernel
theorem dX10_init_1595 : decode cX10_init 1595 = .ok (.sipush 216, 3) := by decide +kernel
theorem dX10_init_1598 : decode cX10_init 1598 = .ok (.sipush 4625, 3) := by decide +kernel
theorem dX10_init_1601 : decode cX10_init 1601 = .ok (.iastore, 1) := by decide +kernel
theorem dX10_init_1602 : decode cX10_init 1602 = .ok (.dup, 1) := by decide +kernel
theorem dX10_init_1603 : decode cX10_init 1603 = .ok (.sipush 217, 3) := by decide +kernel
theorem dX10_init_1606 : decode cX10_init 1606 = .ok (.sipush 8209, 3) := by decide +kernel
theorem dX10_init_1609 : decode cX10_init 1609 = .ok (.iastore, 1) := by decide +kernel
theorem dX10_init_1610 : decode cX10_init 1610 = .ok (.dup, 1) := by decide +kernel
theorem dX10_init_1611 : decode cX10_init 1611 = .ok (.sipush 218, 3) := by decide +kernel
theorem dX10_init_1614 : decode cX10_init 1614 = .ok (.sipush 9233, 3) := by decide +kernel
theorem dX10_init_1617 : decode cX10_init 1617 = .ok (.iastore, 1) := by decide +kernel
theorem dX10_init_1618 : decode cX10_init 1618 = .ok (.dup, 1) := by decide +kernel
theorem dX10_init_1619 : decode cX10_init 1619 = .ok (.sipush 219, 3) := by decide +kernel
theorem dX10_init_1622 : decode cX10_init 1622 = .ok (.sipush 8721, 3) := by decide +kernel
theorem dX10_init_1625 : decode cX10_init 1625 = .ok (.iastore, 1) := by decide +kernel
theorem dX10_init_1626 : decode cX10_init 1626 = .ok (.dup, 1) := by decide +kernel
theorem dX10_init_1627 : decode cX10_init 1627 = .ok (.sipush 220, 3) := by decide +kernel
theorem dX10_init_1630 : decode cX10_init 1630 = .ok (.sipush 4113, 3) := by decide +kernel
theorem dX10_init_1633 : decode cX10_init 1633 = .ok (.iastore, 1) := by decide +kernel
theorem dX10_init_1634 : decode cX10_init 1634 = .ok (.dup, 1) := by decide +kernel
theorem dX10_init_1635 : decode cX10_init 1635 = .ok (.sipush 221, 3) := by decide +kernel
theorem dX10_init_1638 : decode cX10_init 1638 = .ok (.sipush 529, 3) := by decide +kernel
theorem dX10_init_1641 : decode cX10_init 1641 = .ok (.iastore, 1) := by decide +kernel
theorem dX10_init_1642 : decode cX10_init 1642 = .ok (.dup, 1) := by decide +kernel
theorem dX10_init_1643 : decode cX10_init 1643 = .ok (.sipush 222, 3) := by decide +kernel
theorem dX10_init_1646 : decode cX10_init 1646 = .ok (.sipush 1041, 3) := by decide +kernel
theorem dX10_init_1649 : decode cX10_init 1649 = .ok (.iastore, 1) := by decide +kernel
theorem dX10_init_1650 : decode cX10_init 1650 = .ok (.dup, 1) := by decide +kernel
theorem dX10_init_1651 : decode cX10_init 1651 = .ok (.sipush 223, 3) := by decide +kernel
theorem dX10_init_1654 : decode cX10_init 1654 = .ok (.sipush 2065, 3) := by decide +kernel
