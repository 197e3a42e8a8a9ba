theorem dX10_init_1657 : decode cX10_init 1657 = .ok (.iastore, 1) := by decide +kernel
theorem dX10_init_1658 : decode cX10_init 1658 = .ok (.dup, 1) := by decide +kernel
theorem dX10_init_1659 : decode cX10_init 1659 = .ok (.sipush 224, 3) := by decide +kernel
theorem dX10_init_1662 : decode cX10_init 1662 = .ok (.sipush 4354, 3) := by decide +kernel
theorem dX10_init_1665 : decode cX10_init 1665 = .ok (.iastore, 1) := by decide +kernel
theorem dX10_init_1666 : decode cX10_init 1666 = .ok (.dup, 1) := by decide +kernel
theorem dX10_init_1667 : decode cX10_init 1667 = .ok (.sipush 225, 3) := by decide +kernel
theorem dX10_init_1670 : decode cX10_init 1670 = .ok (.sipush 258, 3) := by decide +kernel
theorem dX10_init_1673 : decode cX10_init 1673 = .ok (.iastore, 1) := by decide +kernel
theorem dX10_init_1674 : decode cX10_init 1674 = .ok (.dup, 1) := by decide +kernel
theorem dX10_init_1675 : decode cX10_init 1675 = .ok (.sipush 226, 3) := by decide +kernel
theorem dX10_init_1678 : decode cX10_init 1678 = .ok (.sipush 8466, 3) := by decide +kernel
theorem dX10_init_1681 : decode cX10_init 1681 = .ok (.iastore, 1) := by decide +kernel
theorem dX10_init_1682 : decode cX10_init 1682 = .ok (.dup, 1) := by decide +kernel
theorem dX10_init_1683 : decode cX10_init 1683 = .ok (.sipush 227, 3) := by decide +kernel
theorem dX10_init_1686 : decode cX10_init 1686 = .ok (.sipush 2306, 3) := by decide +kernel
theorem dX10_init_1689 : decode cX10_init 1689 = .ok (.iastore, 1) := by decide +kernel
theorem dX10_init_1690 : decode cX10_init 1690 = .ok (.dup, 1) := by decide +kernel
theorem dX10_init_1691 : decode cX10_init 1691 = .ok (.sipush 228, 3) := by decide +kernel
theorem dX10_init_1694 : decode cX10_init 1694 = .ok (.sipush 4370, 3) := by decide +kernel
theorem dX10_init_1697 : decode cX10_init 1697 = .ok (.iastore, 1) := by decide +kernel
theorem dX10_init_1698 : decode cX10_init 1698 = .ok (.dup, 1) := by decide +kernel
theorem dX10_init_1699 : decode cX10_init 1699 = .ok (.sipush 229, 3) := by decide +kernel
theorem dX10_init_1702 : decode cX10_init 1702 = .ok (.sipush 274, 3) := by decide +kernel
theorem dX10_init_1705 : decode cX10_init 1705 = .ok (.iastore, 1) := by decide +kernel
theorem dX10_init_1706 : decode cX10_init 1706 = .ok (.dup, 1) := by decide +kernel
theorem dX10_init_1707 : decode cX10_init 1707 = .ok (.sipush 230, 3) := by decide +kernel
theorem dX10_init_1710 : decode cX10_init 1710 = .ok (.sipush 4130, 3) := by decide +kernel
theorem dX10_init_1713 : decode cX10_init 1713 = .ok (.iastore, 1) := by decide +kernel
theorem dX10_init_1714 : decode cX10_init 1714 = .ok (.dup, 1) := by decide +kernel
theorem dX10_init_1715 : decode cX10_init 1715 = .ok (.sipush 231, 3) := by decide +kernel
theorem dX10_init_1718 : decode cX10_init 1718 = .ok (.sipush 2322, 3) := by decide +kernel
theorem dX10_init_1721 : decode cX10_init 1721 = .ok (.iastore, 1) := by decide +kernel
theorem dX10_init_1722 : decode cX10_init 1722 = .ok (.dup, 1) := by decide +kernel
theorem dX10_init_1723 : decode cX10_init 1723 = .ok (.sipush 232, 3) := by decide +kernel
theorem dX10_init_1726 : decode cX10_init 1726 = .ok (.sipush 8450, 3) := by decide +kernel
theorem dX10_init_1729 : decode cX10_init 1729 = .ok (.iastore, 1) := by decide +kernel
theorem dX10_init_1730 : decode cX10_init 1730 = .ok (.dup, 1) := by decide +kernel
theorem dX10_init_1731 : decode cX10_init 1731 = .ok (.sipush 233, 3) := by decide +kernel
theorem dX10_init_1734 : decode cX10_init 1734 = .ok (.sipush 8452, 3) := by decide +kernel
theorem dX10_init_1737 : decode cX10_init 1737 = .ok (.iastore, 1) := by decide +kernel
theorem dX10_init_1738 : decode cX10_init 1738 = .ok (.dup, 1) := by decide +kernel
theorem dX10_init_1739 : decode cX10_init 1739 = .ok (.sipush 234, 3) := by decide +kernel
theorem dX10_init_1742 : decode cX10_init 1742 = .ok (.sipush 585, 3) := by decide +kernel
theorem dX10_init_1745 : decode cX10_init 1745 = .ok (.iastore, 1) := by decide +kernel
theorem dX10_init_1746 : decode cX10_init 1746 = .ok (.dup, 1) := by decide +kernel
theorem dX10_init_1747 : decode cX10_init 1747 = .ok (.sipush 235, 3) := by decide +kernel
theorem dX10_init_1750 : decode cX10_init 1750 = .ok (.sipush 578, 3) := by decide +kernel
theorem dX10_init_1753 : decode cX10_init 1753 = .ok (.iastore, 1) := by decide +kernel
theorem dX10_init_1754 : decode cX10_init 1754 = .ok (.dup, 1) := by decide +kernel
theorem dX10_init_1755 : decode cX10_init 1755 = .ok (.sipush 236, 3) := by decide +kernel
theorem dX10_init_1758 : decode cX10_init 1758 = .ok (.sipush 4356, 3) := by decide +kernel
theorem dX10_init_1761 : decode cX10_init 1761 = .ok (.iastore, 1) := by decide +kernel
theorem dX10_init_1762 : decode cX10_init 1762 = .ok (.dup, 1) := by decide +kernel
theorem dX10_init_1763 : decode cX10_init 1763 = .ok (.sipush 237, 3) := by decide +kernel
theorem dX10_init_1766 : decode cX10_init 1766 = .ok (.sipush 260, 3) := by decide +kernel
theorem dX10_init_1769 : decode cX10_init 1769 = .ok (.iastore, 1) := by decide +kernel
theorem dX10_init_1770 : decode cX10_init 1770 = .ok (.dup, 1) := by decide +kernel
theorem dX10_init_1771 : decode cX10_init 1771 = .ok (.sipush 238, 3) := by decide +kernel
theorem dX10_init_1774 : decode cX10_init 1774 = .ok (.sipush 1058, 3) := by decide +kernel
theorem dX10_init_1777 : decode cX10_init 1777 = .ok (.iastore, 1) := by decide +kernel
theorem dX10_init_1778 : decode cX10_init 1778 = .ok (.dup, 1) := by decide +kernel
theorem dX10_init_1779 : decode cX10_init 1779 = .ok (.sipush 239, 3) := by decide +kernel
theorem dX10_init_1782 : decode cX10_init 1782 = .ok (.sipush 2308, 3) := by decide +kernel
theorem dX10_init_1785 : decode cX10_init 1785 = .ok (.iastore, 1) := by decide +kernel
theorem dX10_init_1786 : decode cX10_init 1786 = .ok (.dup, 1) := by decide +kernel
theorem dX10_init_1787 : decode cX10_init 1787 = .ok (.sipush 240, 3) := by decide +kernel
theorem dX10_init_1790 : decode cX10_init 1790 = .ok (.sipush 290, 3) := by decide +kernel
theorem dX10_init_1793 : decode cX10_init 1793 = .ok (.iastore, 1) := by decide +kernel
theorem dX10_init_1794 : decode cX10_init 1794 = .ok (.dup, 1) := by decide +kernel
theorem dX10_init_1795 : decode cX10_init 1795 = .ok (.sipush 241, 3) := by decide +kernel
theorem dX10_init_1798 : decode cX10_init 1798 = .ok (.sipush 8338, 3) := by decide +kernel
theorem dX10_init_1801 : decode cX10_init 1801 = .ok (.iastore, 1) := by decide +kernel
theorem dX10_init_1802 : decode cX10_init 1802 = .ok (.dup, 1) := by decide +kernel
theorem dX10_init_1803 : decode cX10_init 1803 = .ok (.sipush 242, 3) := by decide +kernel
theorem dX10_init_1806 : decode cX10_init 1806 = .ok (.sipush 9362, 3) := by decide +kernel
theorem dX10_init_1809 : decode cX10_init 1809 = .ok (.iastore, 1) := by decide +kernel
theorem dX10_init_1810 : decode cX10_init 1810 = .ok (.dup, 1) := by decide +kernel
theorem dX10_init_1811 : decode cX10_init 1811 = .ok (.sipush 243, 3) := by decide +kernel
theorem dX10_init_1814 : decode cX10_init 1814 = .ok (.sipush 546, 3) := by decide +kernel
theorem dX10_init_1817 : decode cX10_init 1817 = .ok (.iastore, 1) := by decide +kernel
theorem dX10_init_1818 : decode cX10_init 1818 = .ok (.dup, 1) := by decide +kernel
theorem dX10_init_1819 : decode cX10_init 1819 = .ok (.sipush 244, 3) := by decide +kernel
theorem dX10_init_1822 : decode cX10_init 1822 = .ok (.sipush 4242, 3) := by decide +kernel
theorem dX10_init_1825 : decode cX10_init 1825 = .ok (.iastore, 1) := by decide +kernel
theorem dX10_init_1826 : decode cX10_init 1826 = .ok (.dup, 1) := by decide +kernel
theorem dX10_init_1827 : decode cX10_init 1827 = .ok (.sipush 245, 3) := by decide +kernel
theorem dX10_init_1830 : decode cX10_init 1830 = .ok (.sipush 146, 3) := by decide +kernel
theorem dX10_init_1833 : decode cX10_init 1833 = .ok (.iastore, 1) := by decide +kernel
theorem dX10_init_1834 : decode cX10_init 1834 = .ok (.dup, 1) := by decide +kernel
theorem dX10_init_1835 : decode cX10_init 1835 = .ok (.sipush 246, 3) := by decide +kernel
theorem dX10_init_1838 : decode cX10_init 1838 = .ok (.sipush 1170, 3) := by decide +kernel
theorem dX10_init_1841 : decode cX10_init 1841 = .ok (.iastore, 1) := by decide +kernel
theorem dX10_init_1842 : decode cX10_init 1842 = .ok (.dup, 1) := by decide +kernel
theorem dX10_init_1843 : decode cX10_init 1843 = .ok (.sipush 247, 3) := by decide +kernel
theorem dX10_init_1846 : decode cX10_init 1846 = .ok (.sipush 2194, 3) := by decide +kernel
theorem dX10_init_1849 : decode cX10_init 1849 = .ok (.iastore, 1) := by decide +kernel
theorem dX10_init_1850 : decode cX10_init 1850 = .ok (.dup, 1) := by decide +kernel
theorem dX10_init_1851 : decode cX10_init 1851 = .ok (.sipush 248, 3) := by decide +kernel
theorem dX10_init_1854 : decode cX10_init 1854 = .ok (.sipush 4626, 3) := by decide +kernel
