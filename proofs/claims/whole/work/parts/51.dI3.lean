theorem d_Md_init_1569 : decode prog_14_method_1_code 1569 = .ok (.bipush 100, 2) := by decide +kernel
theorem d_Md_init_1571 : decode prog_14_method_1_code 1571 = .ok (.bipush 23, 2) := by decide +kernel
theorem d_Md_init_1573 : decode prog_14_method_1_code 1573 = .ok (.iastore, 1) := by decide +kernel
theorem d_Md_init_1574 : decode prog_14_method_1_code 1574 = .ok (.dup, 1) := by decide +kernel
theorem d_Md_init_1575 : decode prog_14_method_1_code 1575 = .ok (.bipush 101, 2) := by decide +kernel
theorem d_Md_init_1577 : decode prog_14_method_1_code 1577 = .ok (.bipush 23, 2) := by decide +kernel
theorem d_Md_init_1579 : decode prog_14_method_1_code 1579 = .ok (.iastore, 1) := by decide +kernel
theorem d_Md_init_1580 : decode prog_14_method_1_code 1580 = .ok (.dup, 1) := by decide +kernel
theorem d_Md_init_1581 : decode prog_14_method_1_code 1581 = .ok (.bipush 102, 2) := by decide +kernel
theorem d_Md_init_1583 : decode prog_14_method_1_code 1583 = .ok (.bipush 25, 2) := by decide +kernel
theorem d_Md_init_1585 : decode prog_14_method_1_code 1585 = .ok (.iastore, 1) := by decide +kernel
theorem d_Md_init_1586 : decode prog_14_method_1_code 1586 = .ok (.dup, 1) := by decide +kernel
theorem d_Md_init_1587 : decode prog_14_method_1_code 1587 = .ok (.bipush 103, 2) := by decide +kernel
theorem d_Md_init_1589 : decode prog_14_method_1_code 1589 = .ok (.bipush 27, 2) := by decide +kernel
theorem d_Md_init_1591 : decode prog_14_method_1_code 1591 = .ok (.iastore, 1) := by decide +kernel
theorem d_Md_init_1592 : decode prog_14_method_1_code 1592 = .ok (.dup, 1) := by decide +kernel
theorem d_Md_init_1593 : decode prog_14_method_1_code 1593 = .ok (.bipush 104, 2) := by decide +kernel
theorem d_Md_init_1595 : decode prog_14_method_1_code 1595 = .ok (.bipush 29, 2) := by decide +kernel
theorem d_Md_init_1597 : decode prog_14_method_1_code 1597 = .ok (.iastore, 1) := by decide +kernel
theorem d_Md_init_1598 : decode prog_14_method_1_code 1598 = .ok (.dup, 1) := by decide +kernel
theorem d_Md_init_1599 : decode prog_14_method_1_code 1599 = .ok (.bipush 105, 2) := by decide +kernel
theorem d_Md_init_1601 : decode prog_14_method_1_code 1601 = .ok (.bipush 34, 2) := by decide +kernel
theorem d_Md_init_1603 : decode prog_14_method_1_code 1603 = .ok (.iastore, 1) := by decide +kernel
theorem d_Md_init_1604 : decode prog_14_method_1_code 1604 = .ok (.dup, 1) := by decide +kernel
theorem d_Md_init_1605 : decode prog_14_method_1_code 1605 = .ok (.bipush 106, 2) := by decide +kernel
theorem d_Md_init_1607 : decode prog_14_method_1_code 1607 = .ok (.bipush 34, 2) := by decide +kernel
theorem d_Md_init_1609 : decode prog_14_method_1_code 1609 = .ok (.iastore, 1) := by decide +kernel
theorem d_Md_init_1610 : decode prog_14_method_1_code 1610 = .ok (.dup, 1) := by decide +kernel
theorem d_Md_init_1611 : decode prog_14_method_1_code 1611 = .ok (.bipush 107, 2) := by decide +kernel
theorem d_Md_init_1613 : decode prog_14_method_1_code 1613 = .ok (.bipush 35, 2) := by decide +kernel
theorem d_Md_init_1615 : decode prog_14_method_1_code 1615 = .ok (.iastore, 1) := by decide +kernel
theorem d_Md_init_1616 : decode prog_14_method_1_code 1616 = .ok (.dup, 1) := by decide +kernel
theorem d_Md_init_1617 : decode prog_14_method_1_code 1617 = .ok (.bipush 108, 2) := by decide +kernel
theorem d_Md_init_1619 : decode prog_14_method_1_code 1619 = .ok (.bipush 38, 2) := by decide +kernel
theorem d_Md_init_1621 : decode prog_14_method_1_code 1621 = .ok (.iastore, 1) := by decide +kernel
theorem d_Md_init_1622 : decode prog_14_method_1_code 1622 = .ok (.dup, 1) := by decide +kernel
theorem d_Md_init_1623 : decode prog_14_method_1_code 1623 = .ok (.bipush 109, 2) := by decide +kernel
theorem d_Md_init_1625 : decode prog_14_method_1_code 1625 = .ok (.bipush 40, 2) := by decide +kernel
theorem d_Md_init_1627 : decode prog_14_method_1_code 1627 = .ok (.iastore, 1) := by decide +kernel
theorem d_Md_init_1628 : decode prog_14_method_1_code 1628 = .ok (.dup, 1) := by decide +kernel
theorem d_Md_init_1629 : decode prog_14_method_1_code 1629 = .ok (.bipush 110, 2) := by decide +kernel
theorem d_Md_init_1631 : decode prog_14_method_1_code 1631 = .ok (.bipush 43, 2) := by decide +kernel
theorem d_Md_init_1633 : decode prog_14_method_1_code 1633 = .ok (.iastore, 1) := by decide +kernel
theorem d_Md_init_1634 : decode prog_14_method_1_code 1634 = .ok (.dup, 1) := by decide +kernel
theorem d_Md_init_1635 : decode prog_14_method_1_code 1635 = .ok (.bipush 111, 2) := by decide +kernel
theorem d_Md_init_1637 : decode prog_14_method_1_code 1637 = .ok (.bipush 45, 2) := by decide +kernel
theorem d_Md_init_1639 : decode prog_14_method_1_code 1639 = .ok (.iastore, 1) := by decide +kernel
theorem d_Md_init_1640 : decode prog_14_method_1_code 1640 = .ok (.dup, 1) := by decide +kernel
theorem d_Md_init_1641 : decode prog_14_method_1_code 1641 = .ok (.bipush 112, 2) := by decide +kernel
theorem d_Md_init_1643 : decode prog_14_method_1_code 1643 = .ok (.bipush 48, 2) := by decide +kernel
theorem d_Md_init_1645 : decode prog_14_method_1_code 1645 = .ok (.iastore, 1) := by decide +kernel
theorem d_Md_init_1646 : decode prog_14_method_1_code 1646 = .ok (.dup, 1) := by decide +kernel
theorem d_Md_init_1647 : decode prog_14_method_1_code 1647 = .ok (.bipush 113, 2) := by decide +kernel
theorem d_Md_init_1649 : decode prog_14_method_1_code 1649 = .ok (.bipush 51, 2) := by decide +kernel
theorem d_Md_init_1651 : decode prog_14_method_1_code 1651 = .ok (.iastore, 1) := by decide +kernel
theorem d_Md_init_1652 : decode prog_14_method_1_code 1652 = .ok (.dup, 1) := by decide +kernel
theorem d_Md_init_1653 : decode prog_14_method_1_code 1653 = .ok (.bipush 114, 2) := by decide +kernel
theorem d_Md_init_1655 : decode prog_14_method_1_code 1655 = .ok (.bipush 53, 2) := by decide +kernel
theorem d_Md_init_1657 : decode prog_14_method_1_code 1657 = .ok (.iastore, 1) := by decide +kernel
theorem d_Md_init_1658 : decode prog_14_method_1_code 1658 = .ok (.dup, 1) := by decide +kernel
theorem d_Md_init_1659 : decode prog_14_method_1_code 1659 = .ok (.bipush 115, 2) := by decide +kernel
theorem d_Md_init_1661 : decode prog_14_method_1_code 1661 = .ok (.bipush 56, 2) := by decide +kernel
theorem d_Md_init_1663 : decode prog_14_method_1_code 1663 = .ok (.iastore, 1) := by decide +kernel
theorem d_Md_init_1664 : decode prog_14_method_1_code 1664 = .ok (.dup, 1) := by decide +kernel
theorem d_Md_init_1665 : decode prog_14_method_1_code 1665 = .ok (.bipush 116, 2) := by decide +kernel
theorem d_Md_init_1667 : decode prog_14_method_1_code 1667 = .ok (.bipush 59, 2) := by decide +kernel
theorem d_Md_init_1669 : decode prog_14_method_1_code 1669 = .ok (.iastore, 1) := by decide +kernel
theorem d_Md_init_1670 : decode prog_14_method_1_code 1670 = .ok (.dup, 1) := by decide +kernel
theorem d_Md_init_1671 : decode prog_14_method_1_code 1671 = .ok (.bipush 117, 2) := by decide +kernel
theorem d_Md_init_1673 : decode prog_14_method_1_code 1673 = .ok (.bipush 62, 2) := by decide +kernel
theorem d_Md_init_1675 : decode prog_14_method_1_code 1675 = .ok (.iastore, 1) := by decide +kernel
theorem d_Md_init_1676 : decode prog_14_method_1_code 1676 = .ok (.dup, 1) := by decide +kernel
theorem d_Md_init_1677 : decode prog_14_method_1_code 1677 = .ok (.bipush 118, 2) := by decide +kernel
theorem d_Md_init_1679 : decode prog_14_method_1_code 1679 = .ok (.bipush 65, 2) := by decide +kernel
theorem d_Md_init_1681 : decode prog_14_method_1_code 1681 = .ok (.iastore, 1) := by decide +kernel
theorem d_Md_init_1682 : decode prog_14_method_1_code 1682 = .ok (.dup, 1) := by decide +kernel
theorem d_Md_init_1683 : decode prog_14_method_1_code 1683 = .ok (.bipush 119, 2) := by decide +kernel
theorem d_Md_init_1685 : decode prog_14_method_1_code 1685 = .ok (.bipush 68, 2) := by decide +kernel
theorem d_Md_init_1687 : decode prog_14_method_1_code 1687 = .ok (.iastore, 1) := by decide +kernel
theorem d_Md_init_1688 : decode prog_14_method_1_code 1688 = .ok (.dup, 1) := by decide +kernel
theorem d_Md_init_1689 : decode prog_14_method_1_code 1689 = .ok (.bipush 120, 2) := by decide +kernel
theorem d_Md_init_1691 : decode prog_14_method_1_code 1691 = .ok (.iconst 1, 1) := by decide +kernel
theorem d_Md_init_1692 : decode prog_14_method_1_code 1692 = .ok (.iastore, 1) := by decide +kernel
theorem d_Md_init_1693 : decode prog_14_method_1_code 1693 = .ok (.dup, 1) := by decide +kernel
theorem d_Md_init_1694 : decode prog_14_method_1_code 1694 = .ok (.bipush 121, 2) := by decide +kernel
theorem d_Md_init_1696 : decode prog_14_method_1_code 1696 = .ok (.iconst 1, 1) := by decide +kernel
theorem d_Md_init_1697 : decode prog_14_method_1_code 1697 = .ok (.iastore, 1) := by decide +kernel
theorem d_Md_init_1698 : decode prog_14_method_1_code 1698 = .ok (.dup, 1) := by decide +kernel
theorem d_Md_init_1699 : decode prog_14_method_1_code 1699 = .ok (.bipush 122, 2) := by decide +kernel
theorem d_Md_init_1701 : decode prog_14_method_1_code 1701 = .ok (.iconst 2, 1) := by decide +kernel
theorem d_Md_init_1702 : decode prog_14_method_1_code 1702 = .ok (.iastore, 1) := by decide +kernel
theorem d_Md_init_1703 : decode prog_14_method_1_code 1703 = .ok (.dup, 1) := by decide +kernel
theorem d_Md_init_1704 : decode prog_14_method_1_code 1704 = .ok (.bipush 123, 2) := by decide +kernel
theorem d_Md_init_1706 : decode prog_14_method_1_code 1706 = .ok (.iconst 4, 1) := by decide +kernel
theorem d_Md_init_1707 : decode prog_14_method_1_code 1707 = .ok (.iastore, 1) := by decide +kernel
theorem d_Md_init_1708 : decode prog_14_method_1_code 1708 = .ok (.dup, 1) := by decide +kernel
theorem d_Md_init_1709 : decode prog_14_method_1_code 1709 = .ok (.bipush 124, 2) := by decide +kernel
theorem d_Md_init_1711 : decode prog_14_method_1_code 1711 = .ok (.iconst 4, 1) := by decide +kernel
theorem d_Md_init_1712 : decode prog_14_method_1_code 1712 = .ok (.iastore, 1) := by decide +kernel
theorem d_Md_init_1713 : decode prog_14_method_1_code 1713 = .ok (.dup, 1) := by decide +kernel
theorem d_Md_init_1714 : decode prog_14_method_1_code 1714 = .ok (.bipush 125, 2) := by decide +kernel
theorem d_Md_init_1716 : decode prog_14_method_1_code 1716 = .ok (.iconst 4, 1) := by decide +kernel
theorem d_Md_init_1717 : decode prog_14_method_1_code 1717 = .ok (.iastore, 1) := by decide +kernel
theorem d_Md_init_1718 : decode prog_14_method_1_code 1718 = .ok (.dup, 1) := by decide +kernel
theorem d_Md_init_1719 : decode prog_14_method_1_code 1719 = .ok (.bipush 126, 2) := by decide +kernel
theorem d_Md_init_1721 : decode prog_14_method_1_code 1721 = .ok (.iconst 5, 1) := by decide +kernel
theorem d_Md_init_1722 : decode prog_14_method_1_code 1722 = .ok (.iastore, 1) := by decide +kernel
theorem d_Md_init_1723 : decode prog_14_method_1_code 1723 = .ok (.dup, 1) := by decide +kernel
theorem d_Md_init_1724 : decode prog_14_method_1_code 1724 = .ok (.bipush 127, 2) := by decide +kernel
theorem d_Md_init_1726 : decode prog_14_method_1_code 1726 = .ok (.bipush 6, 2) := by decide +kernel
theorem d_Md_init_1728 : decode prog_14_method_1_code 1728 = .ok (.iastore, 1) := by decide +kernel
theorem d_Md_init_1729 : decode prog_14_method_1_code 1729 = .ok (.dup, 1) := by decide +kernel
theorem d_Md_init_1730 : decode prog_14_method_1_code 1730 = .ok (.sipush 128, 3) := by decide +kernel
theorem d_Md_init_1733 : decode prog_14_method_1_code 1733 = .ok (.bipush 8, 2) := by decide +kernel
theorem d_Md_init_1735 : decode prog_14_method_1_code 1735 = .ok (.iastore, 1) := by decide +kernel
theorem d_Md_init_1736 : decode prog_14_method_1_code 1736 = .ok (.dup, 1) := by decide +kernel
theorem d_Md_init_1737 : decode prog_14_method_1_code 1737 = .ok (.sipush 129, 3) := by decide +kernel
theorem d_Md_init_1740 : decode prog_14_method_1_code 1740 = .ok (.bipush 8, 2) := by decide +kernel
theorem d_Md_init_1742 : decode prog_14_method_1_code 1742 = .ok (.iastore, 1) := by decide +kernel
theorem d_Md_init_1743 : decode prog_14_method_1_code 1743 = .ok (.dup, 1) := by decide +kernel
theorem d_Md_init_1744 : decode prog_14_method_1_code 1744 = .ok (.sipush 130, 3) := by decide +kernel
theorem d_Md_init_1747 : decode prog_14_method_1_code 1747 = .ok (.bipush 11, 2) := by decide +kernel
theorem d_Md_init_1749 : decode prog_14_method_1_code 1749 = .ok (.iastore, 1) := by decide +kernel
theorem d_Md_init_1750 : decode prog_14_method_1_code 1750 = .ok (.dup, 1) := by decide +kernel
theorem d_Md_init_1751 : decode prog_14_method_1_code 1751 = .ok (.sipush 131, 3) := by decide +kernel
theorem d_Md_init_1754 : decode prog_14_method_1_code 1754 = .ok (.bipush 11, 2) := by decide +kernel
theorem d_Md_init_1756 : decode prog_14_method_1_code 1756 = .ok (.iastore, 1) := by decide +kernel
theorem d_Md_init_1757 : decode prog_14_method_1_code 1757 = .ok (.dup, 1) := by decide +kernel
theorem d_Md_init_1758 : decode prog_14_method_1_code 1758 = .ok (.sipush 132, 3) := by decide +kernel
theorem d_Md_init_1761 : decode prog_14_method_1_code 1761 = .ok (.bipush 16, 2) := by decide +kernel
theorem d_Md_init_1763 : decode prog_14_method_1_code 1763 = .ok (.iastore, 1) := by decide +kernel
theorem d_Md_init_1764 : decode prog_14_method_1_code 1764 = .ok (.dup, 1) := by decide +kernel
theorem d_Md_init_1765 : decode prog_14_method_1_code 1765 = .ok (.sipush 133, 3) := by decide +kernel
theorem d_Md_init_1768 : decode prog_14_method_1_code 1768 = .ok (.bipush 16, 2) := by decide +kernel
theorem d_Md_init_1770 : decode prog_14_method_1_code 1770 = .ok (.iastore, 1) := by decide +kernel
theorem d_Md_init_1771 : decode prog_14_method_1_code 1771 = .ok (.dup, 1) := by decide +kernel
theorem d_Md_init_1772 : decode prog_14_method_1_code 1772 = .ok (.sipush 134, 3) := by decide +kernel
theorem d_Md_init_1775 : decode prog_14_method_1_code 1775 = .ok (.bipush 18, 2) := by decide +kernel
theorem d_Md_init_1777 : decode prog_14_method_1_code 1777 = .ok (.iastore, 1) := by decide +kernel
theorem d_Md_init_1778 : decode prog_14_method_1_code 1778 = .ok (.dup, 1) := by decide +kernel
theorem d_Md_init_1779 : decode prog_14_method_1_code 1779 = .ok (.sipush 135, 3) := by decide +kernel
theorem d_Md_init_1782 : decode prog_14_method_1_code 1782 = .ok (.bipush 16, 2) := by decide +kernel
theorem d_Md_init_1784 : decode prog_14_method_1_code 1784 = .ok (.iastore, 1) := by decide +kernel
theorem d_Md_init_1785 : decode prog_14_method_1_code 1785 = .ok (.dup, 1) := by decide +kernel
theorem d_Md_init_1786 : decode prog_14_method_1_code 1786 = .ok (.sipush 136, 3) := by decide +kernel
theorem d_Md_init_1789 : decode prog_14_method_1_code 1789 = .ok (.bipush 19, 2) := by decide +kernel
theorem d_Md_init_1791 : decode prog_14_method_1_code 1791 = .ok (.iastore, 1) := by decide +kernel
theorem d_Md_init_1792 : decode prog_14_method_1_code 1792 = .ok (.dup, 1) := by decide +kernel
theorem d_Md_init_1793 : decode prog_14_method_1_code 1793 = .ok (.sipush 137, 3) := by decide +kernel
theorem d_Md_init_1796 : decode prog_14_method_1_code 1796 = .ok (.bipush 21, 2) := by decide +kernel
theorem d_Md_init_1798 : decode prog_14_method_1_code 1798 = .ok (.iastore, 1) := by decide +kernel
theorem d_Md_init_1799 : decode prog_14_method_1_code 1799 = .ok (.dup, 1) := by decide +kernel
theorem d_Md_init_1800 : decode prog_14_method_1_code 1800 = .ok (.sipush 138, 3) := by decide +kernel
theorem d_Md_init_1803 : decode prog_14_method_1_code 1803 = .ok (.bipush 25, 2) := by decide +kernel
theorem d_Md_init_1805 : decode prog_14_method_1_code 1805 = .ok (.iastore, 1) := by decide +kernel
theorem d_Md_init_1806 : decode prog_14_method_1_code 1806 = .ok (.dup, 1) := by decide +kernel
theorem d_Md_init_1807 : decode prog_14_method_1_code 1807 = .ok (.sipush 139, 3) := by decide +kernel
theorem d_Md_init_1810 : decode prog_14_method_1_code 1810 = .ok (.bipush 25, 2) := by decide +kernel
theorem d_Md_init_1812 : decode prog_14_method_1_code 1812 = .ok (.iastore, 1) := by decide +kernel
theorem d_Md_init_1813 : decode prog_14_method_1_code 1813 = .ok (.dup, 1) := by decide +kernel
theorem d_Md_init_1814 : decode prog_14_method_1_code 1814 = .ok (.sipush 140, 3) := by decide +kernel
theorem d_Md_init_1817 : decode prog_14_method_1_code 1817 = .ok (.bipush 25, 2) := by decide +kernel
theorem d_Md_init_1819 : decode prog_14_method_1_code 1819 = .ok (.iastore, 1) := by decide +kernel
theorem d_Md_init_1820 : decode prog_14_method_1_code 1820 = .ok (.dup, 1) := by decide +kernel
theorem d_Md_init_1821 : decode prog_14_method_1_code 1821 = .ok (.sipush 141, 3) := by decide +kernel
theorem d_Md_init_1824 : decode prog_14_method_1_code 1824 = .ok (.bipush 34, 2) := by decide +kernel
theorem d_Md_init_1826 : decode prog_14_method_1_code 1826 = .ok (.iastore, 1) := by decide +kernel
theorem d_Md_init_1827 : decode prog_14_method_1_code 1827 = .ok (.dup, 1) := by decide +kernel
theorem d_Md_init_1828 : decode prog_14_method_1_code 1828 = .ok (.sipush 142, 3) := by decide +kernel
theorem d_Md_init_1831 : decode prog_14_method_1_code 1831 = .ok (.bipush 30, 2) := by decide +kernel
theorem d_Md_init_1833 : decode prog_14_method_1_code 1833 = .ok (.iastore, 1) := by decide +kernel
theorem d_Md_init_1834 : decode prog_14_method_1_code 1834 = .ok (.dup, 1) := by decide +kernel
theorem d_Md_init_1835 : decode prog_14_method_1_code 1835 = .ok (.sipush 143, 3) := by decide +kernel
theorem d_Md_init_1838 : decode prog_14_method_1_code 1838 = .ok (.bipush 32, 2) := by decide +kernel
theorem d_Md_init_1840 : decode prog_14_method_1_code 1840 = .ok (.iastore, 1) := by decide +kernel
theorem d_Md_init_1841 : decode prog_14_method_1_code 1841 = .ok (.dup, 1) := by decide +kernel
theorem d_Md_init_1842 : decode prog_14_method_1_code 1842 = .ok (.sipush 144, 3) := by decide +kernel
theorem d_Md_init_1845 : decode prog_14_method_1_code 1845 = .ok (.bipush 35, 2) := by decide +kernel
theorem d_Md_init_1847 : decode prog_14_method_1_code 1847 = .ok (.iastore, 1) := by decide +kernel
theorem d_Md_init_1848 : decode prog_14_method_1_code 1848 = .ok (.dup, 1) := by decide +kernel
theorem d_Md_init_1849 : decode prog_14_method_1_code 1849 = .ok (.sipush 145, 3) := by decide +kernel
theorem d_Md_init_1852 : decode prog_14_method_1_code 1852 = .ok (.bipush 37, 2) := by decide +kernel
theorem d_Md_init_1854 : decode prog_14_method_1_code 1854 = .ok (.iastore, 1) := by decide +kernel
theorem d_Md_init_1855 : decode prog_14_method_1_code 1855 = .ok (.dup, 1) := by decide +kernel
theorem d_Md_init_1856 : decode prog_14_method_1_code 1856 = .ok (.sipush 146, 3) := by decide +kernel
theorem d_Md_init_1859 : decode prog_14_method_1_code 1859 = .ok (.bipush 40, 2) := by decide +kernel
theorem d_Md_init_1861 : decode prog_14_method_1_code 1861 = .ok (.iastore, 1) := by decide +kernel
theorem d_Md_init_1862 : decode prog_14_method_1_code 1862 = .ok (.dup, 1) := by decide +kernel
theorem d_Md_init_1863 : decode prog_14_method_1_code 1863 = .ok (.sipush 147, 3) := by decide +kernel
theorem d_Md_init_1866 : decode prog_14_method_1_code 1866 = .ok (.bipush 42, 2) := by decide +kernel
theorem d_Md_init_1868 : decode prog_14_method_1_code 1868 = .ok (.iastore, 1) := by decide +kernel
theorem d_Md_init_1869 : decode prog_14_method_1_code 1869 = .ok (.dup, 1) := by decide +kernel
theorem d_Md_init_1870 : decode prog_14_method_1_code 1870 = .ok (.sipush 148, 3) := by decide +kernel
theorem d_Md_init_1873 : decode prog_14_method_1_code 1873 = .ok (.bipush 45, 2) := by decide +kernel
theorem d_Md_init_1875 : decode prog_14_method_1_code 1875 = .ok (.iastore, 1) := by decide +kernel
theorem d_Md_init_1876 : decode prog_14_method_1_code 1876 = .ok (.dup, 1) := by decide +kernel
theorem d_Md_init_1877 : decode prog_14_method_1_code 1877 = .ok (.sipush 149, 3) := by decide +kernel
theorem d_Md_init_1880 : decode prog_14_method_1_code 1880 = .ok (.bipush 48, 2) := by decide +kernel
theorem d_Md_init_1882 : decode prog_14_method_1_code 1882 = .ok (.iastore, 1) := by decide +kernel
theorem d_Md_init_1883 : decode prog_14_method_1_code 1883 = .ok (.dup, 1) := by decide +kernel
theorem d_Md_init_1884 : decode prog_14_method_1_code 1884 = .ok (.sipush 150, 3) := by decide +kernel
theorem d_Md_init_1887 : decode prog_14_method_1_code 1887 = .ok (.bipush 51, 2) := by decide +kernel
theorem d_Md_init_1889 : decode prog_14_method_1_code 1889 = .ok (.iastore, 1) := by decide +kernel
theorem d_Md_init_1890 : decode prog_14_method_1_code 1890 = .ok (.dup, 1) := by decide +kernel
theorem d_Md_init_1891 : decode prog_14_method_1_code 1891 = .ok (.sipush 151, 3) := by decide +kernel
theorem d_Md_init_1894 : decode prog_14_method_1_code 1894 = .ok (.bipush 54, 2) := by decide +kernel
theorem d_Md_init_1896 : decode prog_14_method_1_code 1896 = .ok (.iastore, 1) := by decide +kernel
theorem d_Md_init_1897 : decode prog_14_method_1_code 1897 = .ok (.dup, 1) := by decide +kernel
theorem d_Md_init_1898 : decode prog_14_method_1_code 1898 = .ok (.sipush 152, 3) := by decide +kernel
theorem d_Md_init_1901 : decode prog_14_method_1_code 1901 = .ok (.bipush 57, 2) := by decide +kernel
theorem d_Md_init_1903 : decode prog_14_method_1_code 1903 = .ok (.iastore, 1) := by decide +kernel
theorem d_Md_init_1904 : decode prog_14_method_1_code 1904 = .ok (.dup, 1) := by decide +kernel
theorem d_Md_init_1905 : decode prog_14_method_1_code 1905 = .ok (.sipush 153, 3) := by decide +kernel
theorem d_Md_init_1908 : decode prog_14_method_1_code 1908 = .ok (.bipush 60, 2) := by decide +kernel
theorem d_Md_init_1910 : decode prog_14_method_1_code 1910 = .ok (.iastore, 1) := by decide +kernel
theorem d_Md_init_1911 : decode prog_14_method_1_code 1911 = .ok (.dup, 1) := by decide +kernel
theorem d_Md_init_1912 : decode prog_14_method_1_code 1912 = .ok (.sipush 154, 3) := by decide +kernel
theorem d_Md_init_1915 : decode prog_14_method_1_code 1915 = .ok (.bipush 63, 2) := by decide +kernel
theorem d_Md_init_1917 : decode prog_14_method_1_code 1917 = .ok (.iastore, 1) := by decide +kernel
theorem d_Md_init_1918 : decode prog_14_method_1_code 1918 = .ok (.dup, 1) := by decide +kernel
theorem d_Md_init_1919 : decode prog_14_method_1_code 1919 = .ok (.sipush 155, 3) := by decide +kernel
theorem d_Md_init_1922 : decode prog_14_method_1_code 1922 = .ok (.bipush 66, 2) := by decide +kernel
theorem d_Md_init_1924 : decode prog_14_method_1_code 1924 = .ok (.iastore, 1) := by decide +kernel
theorem d_Md_init_1925 : decode prog_14_method_1_code 1925 = .ok (.dup, 1) := by decide +kernel
theorem d_Md_init_1926 : decode prog_14_method_1_code 1926 = .ok (.sipush 156, 3) := by decide +kernel
theorem d_Md_init_1929 : decode prog_14_method_1_code 1929 = .ok (.bipush 70, 2) := by decide +kernel
theorem d_Md_init_1931 : decode prog_14_method_1_code 1931 = .ok (.iastore, 1) := by decide +kernel
theorem d_Md_init_1932 : decode prog_14_method_1_code 1932 = .ok (.dup, 1) := by decide +kernel
theorem d_Md_init_1933 : decode prog_14_method_1_code 1933 = .ok (.sipush 157, 3) := by decide +kernel
theorem d_Md_init_1936 : decode prog_14_method_1_code 1936 = .ok (.bipush 74, 2) := by decide +kernel
theorem d_Md_init_1938 : decode prog_14_method_1_code 1938 = .ok (.iastore, 1) := by decide +kernel
theorem d_Md_init_1939 : decode prog_14_method_1_code 1939 = .ok (.dup, 1) := by decide +kernel
theorem d_Md_init_1940 : decode prog_14_method_1_code 1940 = .ok (.sipush 158, 3) := by decide +kernel
theorem d_Md_init_1943 : decode prog_14_method_1_code 1943 = .ok (.bipush 77, 2) := by decide +kernel
theorem d_Md_init_1945 : decode prog_14_method_1_code 1945 = .ok (.iastore, 1) := by decide +kernel
theorem d_Md_init_1946 : decode prog_14_method_1_code 1946 = .ok (.dup, 1) := by decide +kernel
theorem d_Md_init_1947 : decode prog_14_method_1_code 1947 = .ok (.sipush 159, 3) := by decide +kernel
theorem d_Md_init_1950 : decode prog_14_method_1_code 1950 = .ok (.bipush 81, 2) := by decide +kernel
theorem d_Md_init_1952 : decode prog_14_method_1_code 1952 = .ok (.iastore, 1) := by decide +kernel
theorem d_Md_init_1953 : decode prog_14_method_1_code 1953 = .ok (.putfield 13, 3) := by decide +kernel
theorem d_Md_init_1956 : decode prog_14_method_1_code 1956 = .ok (.aload_n 0, 1) := by decide +kernel
theorem d_Md_init_1957 : decode prog_14_method_1_code 1957 = .ok (.sipush 3000, 3) := by decide +kernel
theorem d_Md_init_1960 : decode prog_14_method_1_code 1960 = .ok (.newarray .int, 2) := by decide +kernel
theorem d_Md_init_1962 : decode prog_14_method_1_code 1962 = .ok (.putfield 16, 3) := by decide +kernel
theorem d_Md_init_1965 : decode prog_14_method_1_code 1965 = .ok (.aload_n 0, 1) := by decide +kernel
theorem d_Md_init_1966 : decode prog_14_method_1_code 1966 = .ok (.sipush 31329, 3) := by decide +kernel
theorem d_Md_init_1969 : decode prog_14_method_1_code 1969 = .ok (.newarray .int, 2) := by decide +kernel
theorem d_Md_init_1971 : decode prog_14_method_1_code 1971 = .ok (.putfield 19, 3) := by decide +kernel
theorem d_Md_init_1974 : decode prog_14_method_1_code 1974 = .ok (.aload_n 0, 1) := by decide +kernel
theorem d_Md_init_1975 : decode prog_14_method_1_code 1975 = .ok (.sipush 31329, 3) := by decide +kernel
theorem d_Md_init_1978 : decode prog_14_method_1_code 1978 = .ok (.newarray .int, 2) := by decide +kernel
theorem d_Md_init_1980 : decode prog_14_method_1_code 1980 = .ok (.putfield 22, 3) := by decide +kernel
theorem d_Md_init_1983 : decode prog_14_method_1_code 1983 = .ok (.aload_n 0, 1) := by decide +kernel
theorem d_Md_init_1984 : decode prog_14_method_1_code 1984 = .ok (.bipush 6, 2) := by decide +kernel
theorem d_Md_init_1986 : decode prog_14_method_1_code 1986 = .ok (.newarray .int, 2) := by decide +kernel
theorem d_Md_init_1988 : decode prog_14_method_1_code 1988 = .ok (.putfield 25, 3) := by decide +kernel
theorem d_Md_init_1991 : decode prog_14_method_1_code 1991 = .ok (.aload_n 0, 1) := by decide +kernel
theorem d_Md_init_1992 : decode prog_14_method_1_code 1992 = .ok (.sipush 3000, 3) := by decide +kernel
theorem d_Md_init_1995 : decode prog_14_method_1_code 1995 = .ok (.newarray .int, 2) := by decide +kernel
theorem d_Md_init_1997 : decode prog_14_method_1_code 1997 = .ok (.putfield 28, 3) := by decide +kernel
theorem d_Md_init_2000 : decode prog_14_method_1_code 2000 = .ok (.aload_n 0, 1) := by decide +kernel
theorem d_Md_init_2001 : decode prog_14_method_1_code 2001 = .ok (.sipush 3000, 3) := by decide +kernel
theorem d_Md_init_2004 : decode prog_14_method_1_code 2004 = .ok (.newarray .int, 2) := by decide +kernel
theorem d_Md_init_2006 : decode prog_14_method_1_code 2006 = .ok (.putfield 31, 3) := by decide +kernel
theorem d_Md_init_2009 : decode prog_14_method_1_code 2009 = .ok (.aload_n 0, 1) := by decide +kernel
theorem d_Md_init_2010 : decode prog_14_method_1_code 2010 = .ok (.sipush 3000, 3) := by decide +kernel
theorem d_Md_init_2013 : decode prog_14_method_1_code 2013 = .ok (.newarray .int, 2) := by decide +kernel
theorem d_Md_init_2015 : decode prog_14_method_1_code 2015 = .ok (.putfield 34, 3) := by decide +kernel
theorem d_Md_init_2018 : decode prog_14_method_1_code 2018 = .ok (.aload_n 0, 1) := by decide +kernel
theorem d_Md_init_2019 : decode prog_14_method_1_code 2019 = .ok (.sipush 18006, 3) := by decide +kernel
theorem d_Md_init_2022 : decode prog_14_method_1_code 2022 = .ok (.newarray .int, 2) := by decide +kernel
theorem d_Md_init_2024 : decode prog_14_method_1_code 2024 = .ok (.putfield 37, 3) := by decide +kernel
theorem d_Md_init_2027 : decode prog_14_method_1_code 2027 = .ok (.aload_n 0, 1) := by decide +kernel
theorem d_Md_init_2028 : decode prog_14_method_1_code 2028 = .ok (.sipush 3800, 3) := by decide +kernel
theorem d_Md_init_2031 : decode prog_14_method_1_code 2031 = .ok (.newarray .int, 2) := by decide +kernel
theorem d_Md_init_2033 : decode prog_14_method_1_code 2033 = .ok (.putfield 40, 3) := by decide +kernel
theorem d_Md_init_2036 : decode prog_14_method_1_code 2036 = .ok (.aload_n 0, 1) := by decide +kernel
theorem d_Md_init_2037 : decode prog_14_method_1_code 2037 = .ok (.sipush 3800, 3) := by decide +kernel
theorem d_Md_init_2040 : decode prog_14_method_1_code 2040 = .ok (.newarray .int, 2) := by decide +kernel
theorem d_Md_init_2042 : decode prog_14_method_1_code 2042 = .ok (.putfield 43, 3) := by decide +kernel
theorem d_Md_init_2045 : decode prog_14_method_1_code 2045 = .ok (.aload_n 0, 1) := by decide +kernel
theorem d_Md_init_2046 : decode prog_14_method_1_code 2046 = .ok (.sipush 256, 3) := by decide +kernel
theorem d_Md_init_2049 : decode prog_14_method_1_code 2049 = .ok (.newarray .int, 2) := by decide +kernel
theorem d_Md_init_2051 : decode prog_14_method_1_code 2051 = .ok (.putfield 46, 3) := by decide +kernel
theorem d_Md_init_2054 : decode prog_14_method_1_code 2054 = .ok (.aload_n 0, 1) := by decide +kernel
theorem d_Md_init_2055 : decode prog_14_method_1_code 2055 = .ok (.sipush 256, 3) := by decide +kernel
theorem d_Md_init_2058 : decode prog_14_method_1_code 2058 = .ok (.newarray .int, 2) := by decide +kernel
theorem d_Md_init_2060 : decode prog_14_method_1_code 2060 = .ok (.putfield 49, 3) := by decide +kernel
theorem d_Md_init_2063 : decode prog_14_method_1_code 2063 = .ok (.aload_n 0, 1) := by decide +kernel
theorem d_Md_init_2064 : decode prog_14_method_1_code 2064 = .ok (.bipush 32, 2) := by decide +kernel
theorem d_Md_init_2066 : decode prog_14_method_1_code 2066 = .ok (.newarray .int, 2) := by decide +kernel
theorem d_Md_init_2068 : decode prog_14_method_1_code 2068 = .ok (.putfield 52, 3) := by decide +kernel
theorem d_Md_init_2071 : decode prog_14_method_1_code 2071 = .ok (.aload_n 0, 1) := by decide +kernel
theorem d_Md_init_2072 : decode prog_14_method_1_code 2072 = .ok (.sipush 272, 3) := by decide +kernel
theorem d_Md_init_2075 : decode prog_14_method_1_code 2075 = .ok (.newarray .int, 2) := by decide +kernel
theorem d_Md_init_2077 : decode prog_14_method_1_code 2077 = .ok (.putfield 55, 3) := by decide +kernel
theorem d_Md_init_2080 : decode prog_14_method_1_code 2080 = .ok (.aload_n 0, 1) := by decide +kernel
theorem d_Md_init_2081 : decode prog_14_method_1_code 2081 = .ok (.bipush 16, 2) := by decide +kernel
theorem d_Md_init_2083 : decode prog_14_method_1_code 2083 = .ok (.newarray .int, 2) := by decide +kernel
theorem d_Md_init_2085 : decode prog_14_method_1_code 2085 = .ok (.putfield 58, 3) := by decide +kernel
theorem d_Md_init_2088 : decode prog_14_method_1_code 2088 = .ok (.aload_n 0, 1) := by decide +kernel
theorem d_Md_init_2089 : decode prog_14_method_1_code 2089 = .ok (.bipush 16, 2) := by decide +kernel
theorem d_Md_init_2091 : decode prog_14_method_1_code 2091 = .ok (.newarray .int, 2) := by decide +kernel
theorem d_Md_init_2093 : decode prog_14_method_1_code 2093 = .ok (.putfield 61, 3) := by decide +kernel
theorem d_Md_init_2096 : decode prog_14_method_1_code 2096 = .ok (.aload_n 0, 1) := by decide +kernel
theorem d_Md_init_2097 : decode prog_14_method_1_code 2097 = .ok (.bipush 32, 2) := by decide +kernel
theorem d_Md_init_2099 : decode prog_14_method_1_code 2099 = .ok (.newarray .int, 2) := by decide +kernel
theorem d_Md_init_2101 : decode prog_14_method_1_code 2101 = .ok (.putfield 64, 3) := by decide +kernel
theorem d_Md_init_2104 : decode prog_14_method_1_code 2104 = .ok (.aload_n 0, 1) := by decide +kernel
theorem d_Md_init_2105 : decode prog_14_method_1_code 2105 = .ok (.sipush 3000, 3) := by decide +kernel
theorem d_Md_init_2108 : decode prog_14_method_1_code 2108 = .ok (.newarray .int, 2) := by decide +kernel
theorem d_Md_init_2110 : decode prog_14_method_1_code 2110 = .ok (.putfield 67, 3) := by decide +kernel
theorem d_Md_init_2113 : decode prog_14_method_1_code 2113 = .ok (.aload_n 0, 1) := by decide +kernel
theorem d_Md_init_2114 : decode prog_14_method_1_code 2114 = .ok (.iconst 4, 1) := by decide +kernel
theorem d_Md_init_2115 : decode prog_14_method_1_code 2115 = .ok (.newarray .int, 2) := by decide +kernel
theorem d_Md_init_2117 : decode prog_14_method_1_code 2117 = .ok (.putfield 70, 3) := by decide +kernel
theorem d_Md_init_2120 : decode prog_14_method_1_code 2120 = .ok (.return_, 1) := by decide +kernel
