def tab_Law_law_c41 : List (Nat × Instr × Nat) := [(1600, .iconst 2, 1), (1601, .iadd, 1), (1602, .iaload, 1), (1603, .invokevirtual 183, 3), (1606, .istore 6, 2), (1608, .aload_n 2, 1), (1609, .invokevirtual 118, 3), (1612, .iload 5, 2), (1614, .if_icmp .eq 5, 3), (1617, .iconst 0, 1), (1618, .ireturn, 1), (1619, .iload 5, 2), (1621, .ifCond .ne 15, 3), (1624, .aload_n 3, 1), (1625, .iconst 0, 1), (1626, .laload, 1), (1627, .iload 6, 2), (1629, .i2l, 1), (1630, .lcmp, 1), (1631, .ifCond .eq 5, 3), (1634, .iconst 0, 1), (1635, .ireturn, 1), (1636, .goto 385, 3), (1639, .aload_n 1, 1)]
theorem dt_Law_law_c41 (i : Nat) : decode (jm_cod M_Law_law) (tab_Law_law_c41.getD i (1600, .iconst 2, 1)).1 = .ok ((tab_Law_law_c41.getD i (1600, .iconst 2, 1)).2.1, (tab_Law_law_c41.getD i (1600, .iconst 2, 1)).2.2) := j_tab (by decide +kernel) i
theorem d_Law_law_1600 : decode (jm_cod M_Law_law) 1600 = .ok (.iconst 2, 1) := dt_Law_law_c41 0
theorem d_Law_law_1601 : decode (jm_cod M_Law_law) 1601 = .ok (.iadd, 1) := dt_Law_law_c41 1
theorem d_Law_law_1602 : decode (jm_cod M_Law_law) 1602 = .ok (.iaload, 1) := dt_Law_law_c41 2
theorem d_Law_law_1603 : decode (jm_cod M_Law_law) 1603 = .ok (.invokevirtual 183, 3) := dt_Law_law_c41 3
theorem d_Law_law_1606 : decode (jm_cod M_Law_law) 1606 = .ok (.istore 6, 2) := dt_Law_law_c41 4
theorem d_Law_law_1608 : decode (jm_cod M_Law_law) 1608 = .ok (.aload_n 2, 1) := dt_Law_law_c41 5
theorem d_Law_law_1609 : decode (jm_cod M_Law_law) 1609 = .ok (.invokevirtual 118, 3) := dt_Law_law_c41 6
theorem d_Law_law_1612 : decode (jm_cod M_Law_law) 1612 = .ok (.iload 5, 2) := dt_Law_law_c41 7
theorem d_Law_law_1614 : decode (jm_cod M_Law_law) 1614 = .ok (.if_icmp .eq 5, 3) := dt_Law_law_c41 8
theorem d_Law_law_1617 : decode (jm_cod M_Law_law) 1617 = .ok (.iconst 0, 1) := dt_Law_law_c41 9
theorem d_Law_law_1618 : decode (jm_cod M_Law_law) 1618 = .ok (.ireturn, 1) := dt_Law_law_c41 10
theorem d_Law_law_1619 : decode (jm_cod M_Law_law) 1619 = .ok (.iload 5, 2) := dt_Law_law_c41 11
theorem d_Law_law_1621 : decode (jm_cod M_Law_law) 1621 = .ok (.ifCond .ne 15, 3) := dt_Law_law_c41 12
theorem d_Law_law_1624 : decode (jm_cod M_Law_law) 1624 = .ok (.aload_n 3, 1) := dt_Law_law_c41 13
theorem d_Law_law_1625 : decode (jm_cod M_Law_law) 1625 = .ok (.iconst 0, 1) := dt_Law_law_c41 14
theorem d_Law_law_1626 : decode (jm_cod M_Law_law) 1626 = .ok (.laload, 1) := dt_Law_law_c41 15
theorem d_Law_law_1627 : decode (jm_cod M_Law_law) 1627 = .ok (.iload 6, 2) := dt_Law_law_c41 16
theorem d_Law_law_1629 : decode (jm_cod M_Law_law) 1629 = .ok (.i2l, 1) := dt_Law_law_c41 17
theorem d_Law_law_1630 : decode (jm_cod M_Law_law) 1630 = .ok (.lcmp, 1) := dt_Law_law_c41 18
theorem d_Law_law_1631 : decode (jm_cod M_Law_law) 1631 = .ok (.ifCond .eq 5, 3) := dt_Law_law_c41 19
theorem d_Law_law_1634 : decode (jm_cod M_Law_law) 1634 = .ok (.iconst 0, 1) := dt_Law_law_c41 20
theorem d_Law_law_1635 : decode (jm_cod M_Law_law) 1635 = .ok (.ireturn, 1) := dt_Law_law_c41 21
theorem d_Law_law_1636 : decode (jm_cod M_Law_law) 1636 = .ok (.goto 385, 3) := dt_Law_law_c41 22
theorem d_Law_law_1639 : decode (jm_cod M_Law_law) 1639 = .ok (.aload_n 1, 1) := dt_Law_law_c41 23
def tab_Law_law_c42 : List (Nat × Instr × Nat) := [(1640, .aload_n 0, 1), (1641, .iload 4, 2), (1643, .iconst 1, 1), (1644, .iadd, 1), (1645, .iaload, 1), (1646, .aload_n 0, 1), (1647, .iload 4, 2), (1649, .iconst 2, 1), (1650, .iadd, 1), (1651, .iaload, 1), (1652, .aload_n 3, 1), (1653, .invokestatic 184, 3), (1656, .istore 5, 2), (1658, .aload_n 2, 1), (1659, .aload_n 0, 1), (1660, .iload 4, 2), (1662, .iconst 1, 1), (1663, .iadd, 1), (1664, .iaload, 1), (1665, .aload_n 0, 1), (1666, .iload 4, 2), (1668, .iconst 2, 1), (1669, .iadd, 1), (1670, .iaload, 1)]
theorem dt_Law_law_c42 (i : Nat) : decode (jm_cod M_Law_law) (tab_Law_law_c42.getD i (1640, .aload_n 0, 1)).1 = .ok ((tab_Law_law_c42.getD i (1640, .aload_n 0, 1)).2.1, (tab_Law_law_c42.getD i (1640, .aload_n 0, 1)).2.2) := j_tab (by decide +kernel) i
theorem d_Law_law_1640 : decode (jm_cod M_Law_law) 1640 = .ok (.aload_n 0, 1) := dt_Law_law_c42 0
theorem d_Law_law_1641 : decode (jm_cod M_Law_law) 1641 = .ok (.iload 4, 2) := dt_Law_law_c42 1
theorem d_Law_law_1643 : decode (jm_cod M_Law_law) 1643 = .ok (.iconst 1, 1) := dt_Law_law_c42 2
theorem d_Law_law_1644 : decode (jm_cod M_Law_law) 1644 = .ok (.iadd, 1) := dt_Law_law_c42 3
theorem d_Law_law_1645 : decode (jm_cod M_Law_law) 1645 = .ok (.iaload, 1) := dt_Law_law_c42 4
theorem d_Law_law_1646 : decode (jm_cod M_Law_law) 1646 = .ok (.aload_n 0, 1) := dt_Law_law_c42 5
theorem d_Law_law_1647 : decode (jm_cod M_Law_law) 1647 = .ok (.iload 4, 2) := dt_Law_law_c42 6
theorem d_Law_law_1649 : decode (jm_cod M_Law_law) 1649 = .ok (.iconst 2, 1) := dt_Law_law_c42 7
theorem d_Law_law_1650 : decode (jm_cod M_Law_law) 1650 = .ok (.iadd, 1) := dt_Law_law_c42 8
theorem d_Law_law_1651 : decode (jm_cod M_Law_law) 1651 = .ok (.iaload, 1) := dt_Law_law_c42 9
theorem d_Law_law_1652 : decode (jm_cod M_Law_law) 1652 = .ok (.aload_n 3, 1) := dt_Law_law_c42 10
theorem d_Law_law_1653 : decode (jm_cod M_Law_law) 1653 = .ok (.invokestatic 184, 3) := dt_Law_law_c42 11
theorem d_Law_law_1656 : decode (jm_cod M_Law_law) 1656 = .ok (.istore 5, 2) := dt_Law_law_c42 12
theorem d_Law_law_1658 : decode (jm_cod M_Law_law) 1658 = .ok (.aload_n 2, 1) := dt_Law_law_c42 13
theorem d_Law_law_1659 : decode (jm_cod M_Law_law) 1659 = .ok (.aload_n 0, 1) := dt_Law_law_c42 14
theorem d_Law_law_1660 : decode (jm_cod M_Law_law) 1660 = .ok (.iload 4, 2) := dt_Law_law_c42 15
theorem d_Law_law_1662 : decode (jm_cod M_Law_law) 1662 = .ok (.iconst 1, 1) := dt_Law_law_c42 16
theorem d_Law_law_1663 : decode (jm_cod M_Law_law) 1663 = .ok (.iadd, 1) := dt_Law_law_c42 17
theorem d_Law_law_1664 : decode (jm_cod M_Law_law) 1664 = .ok (.iaload, 1) := dt_Law_law_c42 18
theorem d_Law_law_1665 : decode (jm_cod M_Law_law) 1665 = .ok (.aload_n 0, 1) := dt_Law_law_c42 19
theorem d_Law_law_1666 : decode (jm_cod M_Law_law) 1666 = .ok (.iload 4, 2) := dt_Law_law_c42 20
theorem d_Law_law_1668 : decode (jm_cod M_Law_law) 1668 = .ok (.iconst 2, 1) := dt_Law_law_c42 21
theorem d_Law_law_1669 : decode (jm_cod M_Law_law) 1669 = .ok (.iadd, 1) := dt_Law_law_c42 22
theorem d_Law_law_1670 : decode (jm_cod M_Law_law) 1670 = .ok (.iaload, 1) := dt_Law_law_c42 23
def tab_Law_law_c43 : List (Nat × Instr × Nat) := [(1671, .invokevirtual 186, 3), (1674, .istore 6, 2), (1676, .aload_n 2, 1), (1677, .invokevirtual 118, 3), (1680, .iload 5, 2), (1682, .if_icmp .eq 5, 3), (1685, .iconst 0, 1), (1686, .ireturn, 1), (1687, .iload 5, 2), (1689, .ifCond .ne 15, 3), (1692, .aload_n 3, 1), (1693, .iconst 0, 1), (1694, .laload, 1), (1695, .iload 6, 2), (1697, .i2l, 1), (1698, .lcmp, 1), (1699, .ifCond .eq 5, 3), (1702, .iconst 0, 1), (1703, .ireturn, 1), (1704, .goto 317, 3), (1707, .aload_n 1, 1), (1708, .aload_n 0, 1), (1709, .iload 4, 2), (1711, .iconst 1, 1)]
theorem dt_Law_law_c43 (i : Nat) : decode (jm_cod M_Law_law) (tab_Law_law_c43.getD i (1671, .invokevirtual 186, 3)).1 = .ok ((tab_Law_law_c43.getD i (1671, .invokevirtual 186, 3)).2.1, (tab_Law_law_c43.getD i (1671, .invokevirtual 186, 3)).2.2) := j_tab (by decide +kernel) i
theorem d_Law_law_1671 : decode (jm_cod M_Law_law) 1671 = .ok (.invokevirtual 186, 3) := dt_Law_law_c43 0
theorem d_Law_law_1674 : decode (jm_cod M_Law_law) 1674 = .ok (.istore 6, 2) := dt_Law_law_c43 1
theorem d_Law_law_1676 : decode (jm_cod M_Law_law) 1676 = .ok (.aload_n 2, 1) := dt_Law_law_c43 2
theorem d_Law_law_1677 : decode (jm_cod M_Law_law) 1677 = .ok (.invokevirtual 118, 3) := dt_Law_law_c43 3
theorem d_Law_law_1680 : decode (jm_cod M_Law_law) 1680 = .ok (.iload 5, 2) := dt_Law_law_c43 4
theorem d_Law_law_1682 : decode (jm_cod M_Law_law) 1682 = .ok (.if_icmp .eq 5, 3) := dt_Law_law_c43 5
theorem d_Law_law_1685 : decode (jm_cod M_Law_law) 1685 = .ok (.iconst 0, 1) := dt_Law_law_c43 6
theorem d_Law_law_1686 : decode (jm_cod M_Law_law) 1686 = .ok (.ireturn, 1) := dt_Law_law_c43 7
theorem d_Law_law_1687 : decode (jm_cod M_Law_law) 1687 = .ok (.iload 5, 2) := dt_Law_law_c43 8
theorem d_Law_law_1689 : decode (jm_cod M_Law_law) 1689 = .ok (.ifCond .ne 15, 3) := dt_Law_law_c43 9
theorem d_Law_law_1692 : decode (jm_cod M_Law_law) 1692 = .ok (.aload_n 3, 1) := dt_Law_law_c43 10
theorem d_Law_law_1693 : decode (jm_cod M_Law_law) 1693 = .ok (.iconst 0, 1) := dt_Law_law_c43 11
theorem d_Law_law_1694 : decode (jm_cod M_Law_law) 1694 = .ok (.laload, 1) := dt_Law_law_c43 12
theorem d_Law_law_1695 : decode (jm_cod M_Law_law) 1695 = .ok (.iload 6, 2) := dt_Law_law_c43 13
theorem d_Law_law_1697 : decode (jm_cod M_Law_law) 1697 = .ok (.i2l, 1) := dt_Law_law_c43 14
theorem d_Law_law_1698 : decode (jm_cod M_Law_law) 1698 = .ok (.lcmp, 1) := dt_Law_law_c43 15
theorem d_Law_law_1699 : decode (jm_cod M_Law_law) 1699 = .ok (.ifCond .eq 5, 3) := dt_Law_law_c43 16
theorem d_Law_law_1702 : decode (jm_cod M_Law_law) 1702 = .ok (.iconst 0, 1) := dt_Law_law_c43 17
theorem d_Law_law_1703 : decode (jm_cod M_Law_law) 1703 = .ok (.ireturn, 1) := dt_Law_law_c43 18
theorem d_Law_law_1704 : decode (jm_cod M_Law_law) 1704 = .ok (.goto 317, 3) := dt_Law_law_c43 19
theorem d_Law_law_1707 : decode (jm_cod M_Law_law) 1707 = .ok (.aload_n 1, 1) := dt_Law_law_c43 20
theorem d_Law_law_1708 : decode (jm_cod M_Law_law) 1708 = .ok (.aload_n 0, 1) := dt_Law_law_c43 21
theorem d_Law_law_1709 : decode (jm_cod M_Law_law) 1709 = .ok (.iload 4, 2) := dt_Law_law_c43 22
theorem d_Law_law_1711 : decode (jm_cod M_Law_law) 1711 = .ok (.iconst 1, 1) := dt_Law_law_c43 23
def tab_Law_law_c44 : List (Nat × Instr × Nat) := [(1712, .iadd, 1), (1713, .iaload, 1), (1714, .invokevirtual 187, 3), (1717, .aload_n 2, 1), (1718, .aload_n 0, 1), (1719, .iload 4, 2), (1721, .iconst 1, 1), (1722, .iadd, 1), (1723, .iaload, 1), (1724, .invokevirtual 190, 3), (1727, .if_icmp .eq 294, 3), (1730, .iconst 0, 1), (1731, .ireturn, 1), (1732, .aload_n 1, 1), (1733, .aload_n 0, 1), (1734, .iload 4, 2), (1736, .iconst 1, 1), (1737, .iadd, 1), (1738, .iaload, 1), (1739, .aload_n 0, 1), (1740, .iload 4, 2), (1742, .iconst 2, 1), (1743, .iadd, 1), (1744, .iaload, 1)]
theorem dt_Law_law_c44 (i : Nat) : decode (jm_cod M_Law_law) (tab_Law_law_c44.getD i (1712, .iadd, 1)).1 = .ok ((tab_Law_law_c44.getD i (1712, .iadd, 1)).2.1, (tab_Law_law_c44.getD i (1712, .iadd, 1)).2.2) := j_tab (by decide +kernel) i
theorem d_Law_law_1712 : decode (jm_cod M_Law_law) 1712 = .ok (.iadd, 1) := dt_Law_law_c44 0
theorem d_Law_law_1713 : decode (jm_cod M_Law_law) 1713 = .ok (.iaload, 1) := dt_Law_law_c44 1
theorem d_Law_law_1714 : decode (jm_cod M_Law_law) 1714 = .ok (.invokevirtual 187, 3) := dt_Law_law_c44 2
theorem d_Law_law_1717 : decode (jm_cod M_Law_law) 1717 = .ok (.aload_n 2, 1) := dt_Law_law_c44 3
theorem d_Law_law_1718 : decode (jm_cod M_Law_law) 1718 = .ok (.aload_n 0, 1) := dt_Law_law_c44 4
theorem d_Law_law_1719 : decode (jm_cod M_Law_law) 1719 = .ok (.iload 4, 2) := dt_Law_law_c44 5
theorem d_Law_law_1721 : decode (jm_cod M_Law_law) 1721 = .ok (.iconst 1, 1) := dt_Law_law_c44 6
theorem d_Law_law_1722 : decode (jm_cod M_Law_law) 1722 = .ok (.iadd, 1) := dt_Law_law_c44 7
theorem d_Law_law_1723 : decode (jm_cod M_Law_law) 1723 = .ok (.iaload, 1) := dt_Law_law_c44 8
theorem d_Law_law_1724 : decode (jm_cod M_Law_law) 1724 = .ok (.invokevirtual 190, 3) := dt_Law_law_c44 9
theorem d_Law_law_1727 : decode (jm_cod M_Law_law) 1727 = .ok (.if_icmp .eq 294, 3) := dt_Law_law_c44 10
theorem d_Law_law_1730 : decode (jm_cod M_Law_law) 1730 = .ok (.iconst 0, 1) := dt_Law_law_c44 11
theorem d_Law_law_1731 : decode (jm_cod M_Law_law) 1731 = .ok (.ireturn, 1) := dt_Law_law_c44 12
theorem d_Law_law_1732 : decode (jm_cod M_Law_law) 1732 = .ok (.aload_n 1, 1) := dt_Law_law_c44 13
theorem d_Law_law_1733 : decode (jm_cod M_Law_law) 1733 = .ok (.aload_n 0, 1) := dt_Law_law_c44 14
theorem d_Law_law_1734 : decode (jm_cod M_Law_law) 1734 = .ok (.iload 4, 2) := dt_Law_law_c44 15
theorem d_Law_law_1736 : decode (jm_cod M_Law_law) 1736 = .ok (.iconst 1, 1) := dt_Law_law_c44 16
theorem d_Law_law_1737 : decode (jm_cod M_Law_law) 1737 = .ok (.iadd, 1) := dt_Law_law_c44 17
theorem d_Law_law_1738 : decode (jm_cod M_Law_law) 1738 = .ok (.iaload, 1) := dt_Law_law_c44 18
theorem d_Law_law_1739 : decode (jm_cod M_Law_law) 1739 = .ok (.aload_n 0, 1) := dt_Law_law_c44 19
theorem d_Law_law_1740 : decode (jm_cod M_Law_law) 1740 = .ok (.iload 4, 2) := dt_Law_law_c44 20
theorem d_Law_law_1742 : decode (jm_cod M_Law_law) 1742 = .ok (.iconst 2, 1) := dt_Law_law_c44 21
theorem d_Law_law_1743 : decode (jm_cod M_Law_law) 1743 = .ok (.iadd, 1) := dt_Law_law_c44 22
theorem d_Law_law_1744 : decode (jm_cod M_Law_law) 1744 = .ok (.iaload, 1) := dt_Law_law_c44 23
def tab_Law_law_c45 : List (Nat × Instr × Nat) := [(1745, .aload_n 0, 1), (1746, .iload 4, 2), (1748, .iconst 3, 1), (1749, .iadd, 1), (1750, .iaload, 1), (1751, .aload_n 0, 1), (1752, .iload 4, 2), (1754, .iconst 4, 1), (1755, .iadd, 1), (1756, .iaload, 1), (1757, .i2l, 1), (1758, .bipush 32, 2), (1760, .lshl, 1), (1761, .aload_n 0, 1), (1762, .iload 4, 2), (1764, .iconst 5, 1), (1765, .iadd, 1), (1766, .iaload, 1), (1767, .i2l, 1), (1768, .ldc2_w 149, 3), (1771, .land, 1), (1772, .lor, 1), (1773, .aload_n 0, 1), (1774, .iload 4, 2)]
theorem dt_Law_law_c45 (i : Nat) : decode (jm_cod M_Law_law) (tab_Law_law_c45.getD i (1745, .aload_n 0, 1)).1 = .ok ((tab_Law_law_c45.getD i (1745, .aload_n 0, 1)).2.1, (tab_Law_law_c45.getD i (1745, .aload_n 0, 1)).2.2) := j_tab (by decide +kernel) i
theorem d_Law_law_1745 : decode (jm_cod M_Law_law) 1745 = .ok (.aload_n 0, 1) := dt_Law_law_c45 0
theorem d_Law_law_1746 : decode (jm_cod M_Law_law) 1746 = .ok (.iload 4, 2) := dt_Law_law_c45 1
theorem d_Law_law_1748 : decode (jm_cod M_Law_law) 1748 = .ok (.iconst 3, 1) := dt_Law_law_c45 2
theorem d_Law_law_1749 : decode (jm_cod M_Law_law) 1749 = .ok (.iadd, 1) := dt_Law_law_c45 3
theorem d_Law_law_1750 : decode (jm_cod M_Law_law) 1750 = .ok (.iaload, 1) := dt_Law_law_c45 4
theorem d_Law_law_1751 : decode (jm_cod M_Law_law) 1751 = .ok (.aload_n 0, 1) := dt_Law_law_c45 5
theorem d_Law_law_1752 : decode (jm_cod M_Law_law) 1752 = .ok (.iload 4, 2) := dt_Law_law_c45 6
theorem d_Law_law_1754 : decode (jm_cod M_Law_law) 1754 = .ok (.iconst 4, 1) := dt_Law_law_c45 7
theorem d_Law_law_1755 : decode (jm_cod M_Law_law) 1755 = .ok (.iadd, 1) := dt_Law_law_c45 8
theorem d_Law_law_1756 : decode (jm_cod M_Law_law) 1756 = .ok (.iaload, 1) := dt_Law_law_c45 9
theorem d_Law_law_1757 : decode (jm_cod M_Law_law) 1757 = .ok (.i2l, 1) := dt_Law_law_c45 10
theorem d_Law_law_1758 : decode (jm_cod M_Law_law) 1758 = .ok (.bipush 32, 2) := dt_Law_law_c45 11
theorem d_Law_law_1760 : decode (jm_cod M_Law_law) 1760 = .ok (.lshl, 1) := dt_Law_law_c45 12
theorem d_Law_law_1761 : decode (jm_cod M_Law_law) 1761 = .ok (.aload_n 0, 1) := dt_Law_law_c45 13
theorem d_Law_law_1762 : decode (jm_cod M_Law_law) 1762 = .ok (.iload 4, 2) := dt_Law_law_c45 14
theorem d_Law_law_1764 : decode (jm_cod M_Law_law) 1764 = .ok (.iconst 5, 1) := dt_Law_law_c45 15
theorem d_Law_law_1765 : decode (jm_cod M_Law_law) 1765 = .ok (.iadd, 1) := dt_Law_law_c45 16
theorem d_Law_law_1766 : decode (jm_cod M_Law_law) 1766 = .ok (.iaload, 1) := dt_Law_law_c45 17
theorem d_Law_law_1767 : decode (jm_cod M_Law_law) 1767 = .ok (.i2l, 1) := dt_Law_law_c45 18
theorem d_Law_law_1768 : decode (jm_cod M_Law_law) 1768 = .ok (.ldc2_w 149, 3) := dt_Law_law_c45 19
theorem d_Law_law_1771 : decode (jm_cod M_Law_law) 1771 = .ok (.land, 1) := dt_Law_law_c45 20
theorem d_Law_law_1772 : decode (jm_cod M_Law_law) 1772 = .ok (.lor, 1) := dt_Law_law_c45 21
theorem d_Law_law_1773 : decode (jm_cod M_Law_law) 1773 = .ok (.aload_n 0, 1) := dt_Law_law_c45 22
theorem d_Law_law_1774 : decode (jm_cod M_Law_law) 1774 = .ok (.iload 4, 2) := dt_Law_law_c45 23
def tab_Law_law_c46 : List (Nat × Instr × Nat) := [(1776, .bipush 6, 2), (1778, .iadd, 1), (1779, .iaload, 1), (1780, .invokestatic 191, 3), (1783, .istore 5, 2), (1785, .aload_n 2, 1), (1786, .aload_n 0, 1), (1787, .iload 4, 2), (1789, .iconst 1, 1), (1790, .iadd, 1), (1791, .iaload, 1), (1792, .aload_n 0, 1), (1793, .iload 4, 2), (1795, .iconst 2, 1), (1796, .iadd, 1), (1797, .iaload, 1), (1798, .aload_n 0, 1), (1799, .iload 4, 2), (1801, .iconst 3, 1), (1802, .iadd, 1), (1803, .iaload, 1), (1804, .aload_n 0, 1), (1805, .iload 4, 2), (1807, .iconst 4, 1)]
theorem dt_Law_law_c46 (i : Nat) : decode (jm_cod M_Law_law) (tab_Law_law_c46.getD i (1776, .bipush 6, 2)).1 = .ok ((tab_Law_law_c46.getD i (1776, .bipush 6, 2)).2.1, (tab_Law_law_c46.getD i (1776, .bipush 6, 2)).2.2) := j_tab (by decide +kernel) i
theorem d_Law_law_1776 : decode (jm_cod M_Law_law) 1776 = .ok (.bipush 6, 2) := dt_Law_law_c46 0
theorem d_Law_law_1778 : decode (jm_cod M_Law_law) 1778 = .ok (.iadd, 1) := dt_Law_law_c46 1
theorem d_Law_law_1779 : decode (jm_cod M_Law_law) 1779 = .ok (.iaload, 1) := dt_Law_law_c46 2
theorem d_Law_law_1780 : decode (jm_cod M_Law_law) 1780 = .ok (.invokestatic 191, 3) := dt_Law_law_c46 3
theorem d_Law_law_1783 : decode (jm_cod M_Law_law) 1783 = .ok (.istore 5, 2) := dt_Law_law_c46 4
theorem d_Law_law_1785 : decode (jm_cod M_Law_law) 1785 = .ok (.aload_n 2, 1) := dt_Law_law_c46 5
theorem d_Law_law_1786 : decode (jm_cod M_Law_law) 1786 = .ok (.aload_n 0, 1) := dt_Law_law_c46 6
theorem d_Law_law_1787 : decode (jm_cod M_Law_law) 1787 = .ok (.iload 4, 2) := dt_Law_law_c46 7
theorem d_Law_law_1789 : decode (jm_cod M_Law_law) 1789 = .ok (.iconst 1, 1) := dt_Law_law_c46 8
theorem d_Law_law_1790 : decode (jm_cod M_Law_law) 1790 = .ok (.iadd, 1) := dt_Law_law_c46 9
theorem d_Law_law_1791 : decode (jm_cod M_Law_law) 1791 = .ok (.iaload, 1) := dt_Law_law_c46 10
theorem d_Law_law_1792 : decode (jm_cod M_Law_law) 1792 = .ok (.aload_n 0, 1) := dt_Law_law_c46 11
theorem d_Law_law_1793 : decode (jm_cod M_Law_law) 1793 = .ok (.iload 4, 2) := dt_Law_law_c46 12
theorem d_Law_law_1795 : decode (jm_cod M_Law_law) 1795 = .ok (.iconst 2, 1) := dt_Law_law_c46 13
theorem d_Law_law_1796 : decode (jm_cod M_Law_law) 1796 = .ok (.iadd, 1) := dt_Law_law_c46 14
theorem d_Law_law_1797 : decode (jm_cod M_Law_law) 1797 = .ok (.iaload, 1) := dt_Law_law_c46 15
theorem d_Law_law_1798 : decode (jm_cod M_Law_law) 1798 = .ok (.aload_n 0, 1) := dt_Law_law_c46 16
theorem d_Law_law_1799 : decode (jm_cod M_Law_law) 1799 = .ok (.iload 4, 2) := dt_Law_law_c46 17
theorem d_Law_law_1801 : decode (jm_cod M_Law_law) 1801 = .ok (.iconst 3, 1) := dt_Law_law_c46 18
theorem d_Law_law_1802 : decode (jm_cod M_Law_law) 1802 = .ok (.iadd, 1) := dt_Law_law_c46 19
theorem d_Law_law_1803 : decode (jm_cod M_Law_law) 1803 = .ok (.iaload, 1) := dt_Law_law_c46 20
theorem d_Law_law_1804 : decode (jm_cod M_Law_law) 1804 = .ok (.aload_n 0, 1) := dt_Law_law_c46 21
theorem d_Law_law_1805 : decode (jm_cod M_Law_law) 1805 = .ok (.iload 4, 2) := dt_Law_law_c46 22
theorem d_Law_law_1807 : decode (jm_cod M_Law_law) 1807 = .ok (.iconst 4, 1) := dt_Law_law_c46 23
def tab_Law_law_c47 : List (Nat × Instr × Nat) := [(1808, .iadd, 1), (1809, .iaload, 1), (1810, .i2l, 1), (1811, .bipush 32, 2), (1813, .lshl, 1), (1814, .aload_n 0, 1), (1815, .iload 4, 2), (1817, .iconst 5, 1), (1818, .iadd, 1), (1819, .iaload, 1), (1820, .i2l, 1), (1821, .ldc2_w 149, 3), (1824, .land, 1), (1825, .lor, 1), (1826, .aload_n 0, 1), (1827, .iload 4, 2), (1829, .bipush 6, 2), (1831, .iadd, 1), (1832, .iaload, 1), (1833, .invokevirtual 194, 3), (1836, .aload_n 2, 1), (1837, .invokevirtual 118, 3), (1840, .iload 5, 2), (1842, .if_icmp .eq 5, 3)]
theorem dt_Law_law_c47 (i : Nat) : decode (jm_cod M_Law_law) (tab_Law_law_c47.getD i (1808, .iadd, 1)).1 = .ok ((tab_Law_law_c47.getD i (1808, .iadd, 1)).2.1, (tab_Law_law_c47.getD i (1808, .iadd, 1)).2.2) := j_tab (by decide +kernel) i
theorem d_Law_law_1808 : decode (jm_cod M_Law_law) 1808 = .ok (.iadd, 1) := dt_Law_law_c47 0
theorem d_Law_law_1809 : decode (jm_cod M_Law_law) 1809 = .ok (.iaload, 1) := dt_Law_law_c47 1
theorem d_Law_law_1810 : decode (jm_cod M_Law_law) 1810 = .ok (.i2l, 1) := dt_Law_law_c47 2
theorem d_Law_law_1811 : decode (jm_cod M_Law_law) 1811 = .ok (.bipush 32, 2) := dt_Law_law_c47 3
theorem d_Law_law_1813 : decode (jm_cod M_Law_law) 1813 = .ok (.lshl, 1) := dt_Law_law_c47 4
theorem d_Law_law_1814 : decode (jm_cod M_Law_law) 1814 = .ok (.aload_n 0, 1) := dt_Law_law_c47 5
theorem d_Law_law_1815 : decode (jm_cod M_Law_law) 1815 = .ok (.iload 4, 2) := dt_Law_law_c47 6
theorem d_Law_law_1817 : decode (jm_cod M_Law_law) 1817 = .ok (.iconst 5, 1) := dt_Law_law_c47 7
theorem d_Law_law_1818 : decode (jm_cod M_Law_law) 1818 = .ok (.iadd, 1) := dt_Law_law_c47 8
theorem d_Law_law_1819 : decode (jm_cod M_Law_law) 1819 = .ok (.iaload, 1) := dt_Law_law_c47 9
theorem d_Law_law_1820 : decode (jm_cod M_Law_law) 1820 = .ok (.i2l, 1) := dt_Law_law_c47 10
theorem d_Law_law_1821 : decode (jm_cod M_Law_law) 1821 = .ok (.ldc2_w 149, 3) := dt_Law_law_c47 11
theorem d_Law_law_1824 : decode (jm_cod M_Law_law) 1824 = .ok (.land, 1) := dt_Law_law_c47 12
theorem d_Law_law_1825 : decode (jm_cod M_Law_law) 1825 = .ok (.lor, 1) := dt_Law_law_c47 13
theorem d_Law_law_1826 : decode (jm_cod M_Law_law) 1826 = .ok (.aload_n 0, 1) := dt_Law_law_c47 14
theorem d_Law_law_1827 : decode (jm_cod M_Law_law) 1827 = .ok (.iload 4, 2) := dt_Law_law_c47 15
theorem d_Law_law_1829 : decode (jm_cod M_Law_law) 1829 = .ok (.bipush 6, 2) := dt_Law_law_c47 16
theorem d_Law_law_1831 : decode (jm_cod M_Law_law) 1831 = .ok (.iadd, 1) := dt_Law_law_c47 17
theorem d_Law_law_1832 : decode (jm_cod M_Law_law) 1832 = .ok (.iaload, 1) := dt_Law_law_c47 18
theorem d_Law_law_1833 : decode (jm_cod M_Law_law) 1833 = .ok (.invokevirtual 194, 3) := dt_Law_law_c47 19
theorem d_Law_law_1836 : decode (jm_cod M_Law_law) 1836 = .ok (.aload_n 2, 1) := dt_Law_law_c47 20
theorem d_Law_law_1837 : decode (jm_cod M_Law_law) 1837 = .ok (.invokevirtual 118, 3) := dt_Law_law_c47 21
theorem d_Law_law_1840 : decode (jm_cod M_Law_law) 1840 = .ok (.iload 5, 2) := dt_Law_law_c47 22
theorem d_Law_law_1842 : decode (jm_cod M_Law_law) 1842 = .ok (.if_icmp .eq 5, 3) := dt_Law_law_c47 23
def tab_Law_law_c48 : List (Nat × Instr × Nat) := [(1845, .iconst 0, 1), (1846, .ireturn, 1), (1847, .goto 174, 3), (1850, .aload_n 1, 1), (1851, .aload_n 0, 1), (1852, .iload 4, 2), (1854, .iconst 1, 1), (1855, .iadd, 1), (1856, .iaload, 1), (1857, .aload_n 3, 1), (1858, .invokestatic 195, 3), (1861, .istore 5, 2), (1863, .aload_n 2, 1), (1864, .aload_n 0, 1), (1865, .iload 4, 2), (1867, .iconst 1, 1), (1868, .iadd, 1), (1869, .iaload, 1), (1870, .invokevirtual 197, 3), (1873, .istore 6, 2), (1875, .aload_n 2, 1), (1876, .invokevirtual 118, 3), (1879, .iload 5, 2), (1881, .if_icmp .eq 5, 3)]
theorem dt_Law_law_c48 (i : Nat) : decode (jm_cod M_Law_law) (tab_Law_law_c48.getD i (1845, .iconst 0, 1)).1 = .ok ((tab_Law_law_c48.getD i (1845, .iconst 0, 1)).2.1, (tab_Law_law_c48.getD i (1845, .iconst 0, 1)).2.2) := j_tab (by decide +kernel) i
theorem d_Law_law_1845 : decode (jm_cod M_Law_law) 1845 = .ok (.iconst 0, 1) := dt_Law_law_c48 0
theorem d_Law_law_1846 : decode (jm_cod M_Law_law) 1846 = .ok (.ireturn, 1) := dt_Law_law_c48 1
theorem d_Law_law_1847 : decode (jm_cod M_Law_law) 1847 = .ok (.goto 174, 3) := dt_Law_law_c48 2
theorem d_Law_law_1850 : decode (jm_cod M_Law_law) 1850 = .ok (.aload_n 1, 1) := dt_Law_law_c48 3
theorem d_Law_law_1851 : decode (jm_cod M_Law_law) 1851 = .ok (.aload_n 0, 1) := dt_Law_law_c48 4
theorem d_Law_law_1852 : decode (jm_cod M_Law_law) 1852 = .ok (.iload 4, 2) := dt_Law_law_c48 5
theorem d_Law_law_1854 : decode (jm_cod M_Law_law) 1854 = .ok (.iconst 1, 1) := dt_Law_law_c48 6
theorem d_Law_law_1855 : decode (jm_cod M_Law_law) 1855 = .ok (.iadd, 1) := dt_Law_law_c48 7
theorem d_Law_law_1856 : decode (jm_cod M_Law_law) 1856 = .ok (.iaload, 1) := dt_Law_law_c48 8
theorem d_Law_law_1857 : decode (jm_cod M_Law_law) 1857 = .ok (.aload_n 3, 1) := dt_Law_law_c48 9
theorem d_Law_law_1858 : decode (jm_cod M_Law_law) 1858 = .ok (.invokestatic 195, 3) := dt_Law_law_c48 10
theorem d_Law_law_1861 : decode (jm_cod M_Law_law) 1861 = .ok (.istore 5, 2) := dt_Law_law_c48 11
theorem d_Law_law_1863 : decode (jm_cod M_Law_law) 1863 = .ok (.aload_n 2, 1) := dt_Law_law_c48 12
theorem d_Law_law_1864 : decode (jm_cod M_Law_law) 1864 = .ok (.aload_n 0, 1) := dt_Law_law_c48 13
theorem d_Law_law_1865 : decode (jm_cod M_Law_law) 1865 = .ok (.iload 4, 2) := dt_Law_law_c48 14
theorem d_Law_law_1867 : decode (jm_cod M_Law_law) 1867 = .ok (.iconst 1, 1) := dt_Law_law_c48 15
theorem d_Law_law_1868 : decode (jm_cod M_Law_law) 1868 = .ok (.iadd, 1) := dt_Law_law_c48 16
theorem d_Law_law_1869 : decode (jm_cod M_Law_law) 1869 = .ok (.iaload, 1) := dt_Law_law_c48 17
theorem d_Law_law_1870 : decode (jm_cod M_Law_law) 1870 = .ok (.invokevirtual 197, 3) := dt_Law_law_c48 18
theorem d_Law_law_1873 : decode (jm_cod M_Law_law) 1873 = .ok (.istore 6, 2) := dt_Law_law_c48 19
theorem d_Law_law_1875 : decode (jm_cod M_Law_law) 1875 = .ok (.aload_n 2, 1) := dt_Law_law_c48 20
theorem d_Law_law_1876 : decode (jm_cod M_Law_law) 1876 = .ok (.invokevirtual 118, 3) := dt_Law_law_c48 21
theorem d_Law_law_1879 : decode (jm_cod M_Law_law) 1879 = .ok (.iload 5, 2) := dt_Law_law_c48 22
theorem d_Law_law_1881 : decode (jm_cod M_Law_law) 1881 = .ok (.if_icmp .eq 5, 3) := dt_Law_law_c48 23
def tab_Law_law_c49 : List (Nat × Instr × Nat) := [(1884, .iconst 0, 1), (1885, .ireturn, 1), (1886, .iload 5, 2), (1888, .ifCond .ne 15, 3), (1891, .aload_n 3, 1), (1892, .iconst 0, 1), (1893, .laload, 1), (1894, .iload 6, 2), (1896, .i2l, 1), (1897, .lcmp, 1), (1898, .ifCond .eq 5, 3), (1901, .iconst 0, 1), (1902, .ireturn, 1), (1903, .goto 118, 3), (1906, .aload_n 1, 1), (1907, .aload_n 0, 1), (1908, .iload 4, 2), (1910, .iconst 1, 1), (1911, .iadd, 1), (1912, .iaload, 1), (1913, .aload_n 0, 1), (1914, .iload 4, 2), (1916, .iconst 2, 1), (1917, .iadd, 1)]
theorem dt_Law_law_c49 (i : Nat) : decode (jm_cod M_Law_law) (tab_Law_law_c49.getD i (1884, .iconst 0, 1)).1 = .ok ((tab_Law_law_c49.getD i (1884, .iconst 0, 1)).2.1, (tab_Law_law_c49.getD i (1884, .iconst 0, 1)).2.2) := j_tab (by decide +kernel) i
theorem d_Law_law_1884 : decode (jm_cod M_Law_law) 1884 = .ok (.iconst 0, 1) := dt_Law_law_c49 0
theorem d_Law_law_1885 : decode (jm_cod M_Law_law) 1885 = .ok (.ireturn, 1) := dt_Law_law_c49 1
theorem d_Law_law_1886 : decode (jm_cod M_Law_law) 1886 = .ok (.iload 5, 2) := dt_Law_law_c49 2
theorem d_Law_law_1888 : decode (jm_cod M_Law_law) 1888 = .ok (.ifCond .ne 15, 3) := dt_Law_law_c49 3
theorem d_Law_law_1891 : decode (jm_cod M_Law_law) 1891 = .ok (.aload_n 3, 1) := dt_Law_law_c49 4
theorem d_Law_law_1892 : decode (jm_cod M_Law_law) 1892 = .ok (.iconst 0, 1) := dt_Law_law_c49 5
theorem d_Law_law_1893 : decode (jm_cod M_Law_law) 1893 = .ok (.laload, 1) := dt_Law_law_c49 6
theorem d_Law_law_1894 : decode (jm_cod M_Law_law) 1894 = .ok (.iload 6, 2) := dt_Law_law_c49 7
theorem d_Law_law_1896 : decode (jm_cod M_Law_law) 1896 = .ok (.i2l, 1) := dt_Law_law_c49 8
theorem d_Law_law_1897 : decode (jm_cod M_Law_law) 1897 = .ok (.lcmp, 1) := dt_Law_law_c49 9
theorem d_Law_law_1898 : decode (jm_cod M_Law_law) 1898 = .ok (.ifCond .eq 5, 3) := dt_Law_law_c49 10
theorem d_Law_law_1901 : decode (jm_cod M_Law_law) 1901 = .ok (.iconst 0, 1) := dt_Law_law_c49 11
theorem d_Law_law_1902 : decode (jm_cod M_Law_law) 1902 = .ok (.ireturn, 1) := dt_Law_law_c49 12
theorem d_Law_law_1903 : decode (jm_cod M_Law_law) 1903 = .ok (.goto 118, 3) := dt_Law_law_c49 13
theorem d_Law_law_1906 : decode (jm_cod M_Law_law) 1906 = .ok (.aload_n 1, 1) := dt_Law_law_c49 14
theorem d_Law_law_1907 : decode (jm_cod M_Law_law) 1907 = .ok (.aload_n 0, 1) := dt_Law_law_c49 15
theorem d_Law_law_1908 : decode (jm_cod M_Law_law) 1908 = .ok (.iload 4, 2) := dt_Law_law_c49 16
theorem d_Law_law_1910 : decode (jm_cod M_Law_law) 1910 = .ok (.iconst 1, 1) := dt_Law_law_c49 17
theorem d_Law_law_1911 : decode (jm_cod M_Law_law) 1911 = .ok (.iadd, 1) := dt_Law_law_c49 18
theorem d_Law_law_1912 : decode (jm_cod M_Law_law) 1912 = .ok (.iaload, 1) := dt_Law_law_c49 19
theorem d_Law_law_1913 : decode (jm_cod M_Law_law) 1913 = .ok (.aload_n 0, 1) := dt_Law_law_c49 20
theorem d_Law_law_1914 : decode (jm_cod M_Law_law) 1914 = .ok (.iload 4, 2) := dt_Law_law_c49 21
theorem d_Law_law_1916 : decode (jm_cod M_Law_law) 1916 = .ok (.iconst 2, 1) := dt_Law_law_c49 22
theorem d_Law_law_1917 : decode (jm_cod M_Law_law) 1917 = .ok (.iadd, 1) := dt_Law_law_c49 23
def tab_Law_law_c50 : List (Nat × Instr × Nat) := [(1918, .iaload, 1), (1919, .aload_n 3, 1), (1920, .invokestatic 198, 3), (1923, .istore 5, 2), (1925, .aload_n 2, 1), (1926, .aload_n 0, 1), (1927, .iload 4, 2), (1929, .iconst 1, 1), (1930, .iadd, 1), (1931, .iaload, 1), (1932, .aload_n 0, 1), (1933, .iload 4, 2), (1935, .iconst 2, 1), (1936, .iadd, 1), (1937, .iaload, 1), (1938, .invokevirtual 200, 3), (1941, .istore 6, 2), (1943, .aload_n 2, 1), (1944, .invokevirtual 118, 3), (1947, .iload 5, 2), (1949, .if_icmp .eq 5, 3), (1952, .iconst 0, 1), (1953, .ireturn, 1), (1954, .iload 5, 2)]
theorem dt_Law_law_c50 (i : Nat) : decode (jm_cod M_Law_law) (tab_Law_law_c50.getD i (1918, .iaload, 1)).1 = .ok ((tab_Law_law_c50.getD i (1918, .iaload, 1)).2.1, (tab_Law_law_c50.getD i (1918, .iaload, 1)).2.2) := j_tab (by decide +kernel) i
theorem d_Law_law_1918 : decode (jm_cod M_Law_law) 1918 = .ok (.iaload, 1) := dt_Law_law_c50 0
theorem d_Law_law_1919 : decode (jm_cod M_Law_law) 1919 = .ok (.aload_n 3, 1) := dt_Law_law_c50 1
theorem d_Law_law_1920 : decode (jm_cod M_Law_law) 1920 = .ok (.invokestatic 198, 3) := dt_Law_law_c50 2
theorem d_Law_law_1923 : decode (jm_cod M_Law_law) 1923 = .ok (.istore 5, 2) := dt_Law_law_c50 3
theorem d_Law_law_1925 : decode (jm_cod M_Law_law) 1925 = .ok (.aload_n 2, 1) := dt_Law_law_c50 4
theorem d_Law_law_1926 : decode (jm_cod M_Law_law) 1926 = .ok (.aload_n 0, 1) := dt_Law_law_c50 5
theorem d_Law_law_1927 : decode (jm_cod M_Law_law) 1927 = .ok (.iload 4, 2) := dt_Law_law_c50 6
theorem d_Law_law_1929 : decode (jm_cod M_Law_law) 1929 = .ok (.iconst 1, 1) := dt_Law_law_c50 7
theorem d_Law_law_1930 : decode (jm_cod M_Law_law) 1930 = .ok (.iadd, 1) := dt_Law_law_c50 8
theorem d_Law_law_1931 : decode (jm_cod M_Law_law) 1931 = .ok (.iaload, 1) := dt_Law_law_c50 9
theorem d_Law_law_1932 : decode (jm_cod M_Law_law) 1932 = .ok (.aload_n 0, 1) := dt_Law_law_c50 10
theorem d_Law_law_1933 : decode (jm_cod M_Law_law) 1933 = .ok (.iload 4, 2) := dt_Law_law_c50 11
theorem d_Law_law_1935 : decode (jm_cod M_Law_law) 1935 = .ok (.iconst 2, 1) := dt_Law_law_c50 12
theorem d_Law_law_1936 : decode (jm_cod M_Law_law) 1936 = .ok (.iadd, 1) := dt_Law_law_c50 13
theorem d_Law_law_1937 : decode (jm_cod M_Law_law) 1937 = .ok (.iaload, 1) := dt_Law_law_c50 14
theorem d_Law_law_1938 : decode (jm_cod M_Law_law) 1938 = .ok (.invokevirtual 200, 3) := dt_Law_law_c50 15
theorem d_Law_law_1941 : decode (jm_cod M_Law_law) 1941 = .ok (.istore 6, 2) := dt_Law_law_c50 16
theorem d_Law_law_1943 : decode (jm_cod M_Law_law) 1943 = .ok (.aload_n 2, 1) := dt_Law_law_c50 17
theorem d_Law_law_1944 : decode (jm_cod M_Law_law) 1944 = .ok (.invokevirtual 118, 3) := dt_Law_law_c50 18
theorem d_Law_law_1947 : decode (jm_cod M_Law_law) 1947 = .ok (.iload 5, 2) := dt_Law_law_c50 19
theorem d_Law_law_1949 : decode (jm_cod M_Law_law) 1949 = .ok (.if_icmp .eq 5, 3) := dt_Law_law_c50 20
theorem d_Law_law_1952 : decode (jm_cod M_Law_law) 1952 = .ok (.iconst 0, 1) := dt_Law_law_c50 21
theorem d_Law_law_1953 : decode (jm_cod M_Law_law) 1953 = .ok (.ireturn, 1) := dt_Law_law_c50 22
theorem d_Law_law_1954 : decode (jm_cod M_Law_law) 1954 = .ok (.iload 5, 2) := dt_Law_law_c50 23
def tab_Law_law_c51 : List (Nat × Instr × Nat) := [(1956, .ifCond .ne 15, 3), (1959, .aload_n 3, 1), (1960, .iconst 0, 1), (1961, .laload, 1), (1962, .iload 6, 2), (1964, .i2l, 1), (1965, .lcmp, 1), (1966, .ifCond .eq 5, 3), (1969, .iconst 0, 1), (1970, .ireturn, 1), (1971, .goto 50, 3), (1974, .aload_n 1, 1), (1975, .aload_n 0, 1), (1976, .iload 4, 2), (1978, .iconst 1, 1), (1979, .iadd, 1), (1980, .iaload, 1), (1981, .invokestatic 201, 3), (1984, .istore 5, 2), (1986, .aload_n 2, 1), (1987, .aload_n 0, 1), (1988, .iload 4, 2), (1990, .iconst 1, 1), (1991, .iadd, 1)]
theorem dt_Law_law_c51 (i : Nat) : decode (jm_cod M_Law_law) (tab_Law_law_c51.getD i (1956, .ifCond .ne 15, 3)).1 = .ok ((tab_Law_law_c51.getD i (1956, .ifCond .ne 15, 3)).2.1, (tab_Law_law_c51.getD i (1956, .ifCond .ne 15, 3)).2.2) := j_tab (by decide +kernel) i
theorem d_Law_law_1956 : decode (jm_cod M_Law_law) 1956 = .ok (.ifCond .ne 15, 3) := dt_Law_law_c51 0
theorem d_Law_law_1959 : decode (jm_cod M_Law_law) 1959 = .ok (.aload_n 3, 1) := dt_Law_law_c51 1
theorem d_Law_law_1960 : decode (jm_cod M_Law_law) 1960 = .ok (.iconst 0, 1) := dt_Law_law_c51 2
theorem d_Law_law_1961 : decode (jm_cod M_Law_law) 1961 = .ok (.laload, 1) := dt_Law_law_c51 3
theorem d_Law_law_1962 : decode (jm_cod M_Law_law) 1962 = .ok (.iload 6, 2) := dt_Law_law_c51 4
theorem d_Law_law_1964 : decode (jm_cod M_Law_law) 1964 = .ok (.i2l, 1) := dt_Law_law_c51 5
theorem d_Law_law_1965 : decode (jm_cod M_Law_law) 1965 = .ok (.lcmp, 1) := dt_Law_law_c51 6
theorem d_Law_law_1966 : decode (jm_cod M_Law_law) 1966 = .ok (.ifCond .eq 5, 3) := dt_Law_law_c51 7
theorem d_Law_law_1969 : decode (jm_cod M_Law_law) 1969 = .ok (.iconst 0, 1) := dt_Law_law_c51 8
theorem d_Law_law_1970 : decode (jm_cod M_Law_law) 1970 = .ok (.ireturn, 1) := dt_Law_law_c51 9
theorem d_Law_law_1971 : decode (jm_cod M_Law_law) 1971 = .ok (.goto 50, 3) := dt_Law_law_c51 10
theorem d_Law_law_1974 : decode (jm_cod M_Law_law) 1974 = .ok (.aload_n 1, 1) := dt_Law_law_c51 11
theorem d_Law_law_1975 : decode (jm_cod M_Law_law) 1975 = .ok (.aload_n 0, 1) := dt_Law_law_c51 12
theorem d_Law_law_1976 : decode (jm_cod M_Law_law) 1976 = .ok (.iload 4, 2) := dt_Law_law_c51 13
theorem d_Law_law_1978 : decode (jm_cod M_Law_law) 1978 = .ok (.iconst 1, 1) := dt_Law_law_c51 14
theorem d_Law_law_1979 : decode (jm_cod M_Law_law) 1979 = .ok (.iadd, 1) := dt_Law_law_c51 15
theorem d_Law_law_1980 : decode (jm_cod M_Law_law) 1980 = .ok (.iaload, 1) := dt_Law_law_c51 16
theorem d_Law_law_1981 : decode (jm_cod M_Law_law) 1981 = .ok (.invokestatic 201, 3) := dt_Law_law_c51 17
theorem d_Law_law_1984 : decode (jm_cod M_Law_law) 1984 = .ok (.istore 5, 2) := dt_Law_law_c51 18
theorem d_Law_law_1986 : decode (jm_cod M_Law_law) 1986 = .ok (.aload_n 2, 1) := dt_Law_law_c51 19
theorem d_Law_law_1987 : decode (jm_cod M_Law_law) 1987 = .ok (.aload_n 0, 1) := dt_Law_law_c51 20
theorem d_Law_law_1988 : decode (jm_cod M_Law_law) 1988 = .ok (.iload 4, 2) := dt_Law_law_c51 21
theorem d_Law_law_1990 : decode (jm_cod M_Law_law) 1990 = .ok (.iconst 1, 1) := dt_Law_law_c51 22
theorem d_Law_law_1991 : decode (jm_cod M_Law_law) 1991 = .ok (.iadd, 1) := dt_Law_law_c51 23
def tab_Law_law_c52 : List (Nat × Instr × Nat) := [(1992, .iaload, 1), (1993, .invokevirtual 204, 3), (1996, .aload_n 2, 1), (1997, .invokevirtual 118, 3), (2000, .iload 5, 2), (2002, .if_icmp .eq 5, 3), (2005, .iconst 0, 1), (2006, .ireturn, 1), (2007, .goto 14, 3), (2010, .aload_n 1, 1), (2011, .invokevirtual 205, 3), (2014, .aload_n 2, 1), (2015, .invokevirtual 208, 3), (2018, .goto 3, 3), (2021, .iinc 4 7, 3), (2024, .goto (-1971), 3), (2027, .iconst 1, 1), (2028, .ireturn, 1)]
theorem dt_Law_law_c52 (i : Nat) : decode (jm_cod M_Law_law) (tab_Law_law_c52.getD i (1992, .iaload, 1)).1 = .ok ((tab_Law_law_c52.getD i (1992, .iaload, 1)).2.1, (tab_Law_law_c52.getD i (1992, .iaload, 1)).2.2) := j_tab (by decide +kernel) i
theorem d_Law_law_1992 : decode (jm_cod M_Law_law) 1992 = .ok (.iaload, 1) := dt_Law_law_c52 0
theorem d_Law_law_1993 : decode (jm_cod M_Law_law) 1993 = .ok (.invokevirtual 204, 3) := dt_Law_law_c52 1
theorem d_Law_law_1996 : decode (jm_cod M_Law_law) 1996 = .ok (.aload_n 2, 1) := dt_Law_law_c52 2
theorem d_Law_law_1997 : decode (jm_cod M_Law_law) 1997 = .ok (.invokevirtual 118, 3) := dt_Law_law_c52 3
theorem d_Law_law_2000 : decode (jm_cod M_Law_law) 2000 = .ok (.iload 5, 2) := dt_Law_law_c52 4
theorem d_Law_law_2002 : decode (jm_cod M_Law_law) 2002 = .ok (.if_icmp .eq 5, 3) := dt_Law_law_c52 5
theorem d_Law_law_2005 : decode (jm_cod M_Law_law) 2005 = .ok (.iconst 0, 1) := dt_Law_law_c52 6
theorem d_Law_law_2006 : decode (jm_cod M_Law_law) 2006 = .ok (.ireturn, 1) := dt_Law_law_c52 7
theorem d_Law_law_2007 : decode (jm_cod M_Law_law) 2007 = .ok (.goto 14, 3) := dt_Law_law_c52 8
theorem d_Law_law_2010 : decode (jm_cod M_Law_law) 2010 = .ok (.aload_n 1, 1) := dt_Law_law_c52 9
theorem d_Law_law_2011 : decode (jm_cod M_Law_law) 2011 = .ok (.invokevirtual 205, 3) := dt_Law_law_c52 10
theorem d_Law_law_2014 : decode (jm_cod M_Law_law) 2014 = .ok (.aload_n 2, 1) := dt_Law_law_c52 11
theorem d_Law_law_2015 : decode (jm_cod M_Law_law) 2015 = .ok (.invokevirtual 208, 3) := dt_Law_law_c52 12
theorem d_Law_law_2018 : decode (jm_cod M_Law_law) 2018 = .ok (.goto 3, 3) := dt_Law_law_c52 13
theorem d_Law_law_2021 : decode (jm_cod M_Law_law) 2021 = .ok (.iinc 4 7, 3) := dt_Law_law_c52 14
theorem d_Law_law_2024 : decode (jm_cod M_Law_law) 2024 = .ok (.goto (-1971), 3) := dt_Law_law_c52 15
theorem d_Law_law_2027 : decode (jm_cod M_Law_law) 2027 = .ok (.iconst 1, 1) := dt_Law_law_c52 16
theorem d_Law_law_2028 : decode (jm_cod M_Law_law) 2028 = .ok (.ireturn, 1) := dt_Law_law_c52 17
