theorem dL_law_1649 : decode cL_law 1649 = .ok (.iconst 0, 1) := by decide +kernel
theorem dL_law_1650 : decode cL_law 1650 = .ok (.ireturn, 1) := by decide +kernel
theorem dL_law_1651 : decode cL_law 1651 = .ok (.goto 1425, 3) := by decide +kernel
theorem dL_law_1654 : decode cL_law 1654 = .ok (.aload_n 1, 1) := by decide +kernel
theorem dL_law_1655 : decode cL_law 1655 = .ok (.aload_n 0, 1) := by decide +kernel
theorem dL_law_1656 : decode cL_law 1656 = .ok (.iload 4, 2) := by decide +kernel
theorem dL_law_1658 : decode cL_law 1658 = .ok (.iconst 1, 1) := by decide +kernel
theorem dL_law_1659 : decode cL_law 1659 = .ok (.iadd, 1) := by decide +kernel
theorem dL_law_1660 : decode cL_law 1660 = .ok (.iaload, 1) := by decide +kernel
theorem dL_law_1661 : decode cL_law 1661 = .ok (.aload_n 0, 1) := by decide +kernel
theorem dL_law_1662 : decode cL_law 1662 = .ok (.iload 4, 2) := by decide +kernel
theorem dL_law_1664 : decode cL_law 1664 = .ok (.iconst 2, 1) := by decide +kernel
theorem dL_law_1665 : decode cL_law 1665 = .ok (.iadd, 1) := by decide +kernel
theorem dL_law_1666 : decode cL_law 1666 = .ok (.iaload, 1) := by decide +kernel
theorem dL_law_1667 : decode cL_law 1667 = .ok (.aload_n 0, 1) := by decide +kernel
theorem dL_law_1668 : decode cL_law 1668 = .ok (.iload 4, 2) := by decide +kernel
theorem dL_law_1670 : decode cL_law 1670 = .ok (.iconst 3, 1) := by decide +kernel
theorem dL_law_1671 : decode cL_law 1671 = .ok (.iadd, 1) := by decide +kernel
theorem dL_law_1672 : decode cL_law 1672 = .ok (.iaload, 1) := by decide +kernel
theorem dL_law_1673 : decode cL_law 1673 = .ok (.aload_n 0, 1) := by decide +kernel
theorem dL_law_1674 : decode cL_law 1674 = .ok (.iload 4, 2) := by decide +kernel
theorem dL_law_1676 : decode cL_law 1676 = .ok (.iconst 4, 1) := by decide +kernel
theorem dL_law_1677 : decode cL_law 1677 = .ok (.iadd, 1) := by decide +kernel
theorem dL_law_1678 : decode cL_law 1678 = .ok (.iaload, 1) := by decide +kernel
theorem dL_law_1679 : decode cL_law 1679 = .ok (.aload_n 0, 1) := by decide +kernel
theorem dL_law_1680 : decode cL_law 1680 = .ok (.iload 4, 2) := by decide +kernel
theorem dL_law_1682 : decode cL_law 1682 = .ok (.iconst 5, 1) := by decide +kernel
theorem dL_law_1683 : decode cL_law 1683 = .ok (.iadd, 1) := by decide +kernel
theorem dL_law_1684 : decode cL_law 1684 = .ok (.iaload, 1) := by decide +kernel
theorem dL_law_1685 : decode cL_law 1685 = .ok (.aload_n 3, 1) := by decide +kernel
theorem dL_law_1686 : decode cL_law 1686 = .ok (.invokestatic 218, 3) := by decide +kernel
theorem dL_law_1689 : decode cL_law 1689 = .ok (.istore 5, 2) := by decide +kernel
theorem dL_law_1691 : decode cL_law 1691 = .ok (.aload_n 2, 1) := by decide +kernel
theorem dL_law_1692 : decode cL_law 1692 = .ok (.aload_n 0, 1) := by decide +kernel
theorem dL_law_1693 : decode cL_law 1693 = .ok (.iload 4, 2) := by decide +kernel
theorem dL_law_1695 : decode cL_law 1695 = .ok (.iconst 1, 1) := by decide +kernel
theorem dL_law_1696 : decode cL_law 1696 = .ok (.iadd, 1) := by decide +kernel
theorem dL_law_1697 : decode cL_law 1697 = .ok (.iaload, 1) := by decide +kernel
theorem dL_law_1698 : decode cL_law 1698 = .ok (.aload_n 0, 1) := by decide +kernel
theorem dL_law_1699 : decode cL_law 1699 = .ok (.iload 4, 2) := by decide +kernel
theorem dL_law_1701 : decode cL_law 1701 = .ok (.iconst 2, 1) := by decide +kernel
theorem dL_law_1702 : decode cL_law 1702 = .ok (.iadd, 1) := by decide +kernel
theorem dL_law_1703 : decode cL_law 1703 = .ok (.iaload, 1) := by decide +kernel
theorem dL_law_1704 : decode cL_law 1704 = .ok (.aload_n 0, 1) := by decide +kernel
theorem dL_law_1705 : decode cL_law 1705 = .ok (.iload 4, 2) := by decide +kernel
theorem dL_law_1707 : decode cL_law 1707 = .ok (.iconst 3, 1) := by decide +kernel
theorem dL_law_1708 : decode cL_law 1708 = .ok (.iadd, 1) := by decide +kernel
theorem dL_law_1709 : decode cL_law 1709 = .ok (.iaload, 1) := by decide +kernel
theorem dL_law_1710 : decode cL_law 1710 = .ok (.aload_n 0, 1) := by decide +kernel
theorem dL_law_1711 : decode cL_law 1711 = .ok (.iload 4, 2) := by decide +kernel
theorem dL_law_1713 : decode cL_law 1713 = .ok (.iconst 4, 1) := by decide +kernel
theorem dL_law_1714 : decode cL_law 1714 = .ok (.iadd, 1) := by decide +kernel
theorem dL_law_1715 : decode cL_law 1715 = .ok (.iaload, 1) := by decide +kernel
theorem dL_law_1716 : decode cL_law 1716 = .ok (.aload_n 0, 1) := by decide +kernel
theorem dL_law_1717 : decode cL_law 1717 = .ok (.iload 4, 2) := by decide +kernel
theorem dL_law_1719 : decode cL_law 1719 = .ok (.iconst 5, 1) := by decide +kernel
theorem dL_law_1720 : decode cL_law 1720 = .ok (.iadd, 1) := by decide +kernel
theorem dL_law_1721 : decode cL_law 1721 = .ok (.iaload, 1) := by decide +kernel
theorem dL_law_1722 : decode cL_law 1722 = .ok (.invokevirtual 221, 3) := by decide +kernel
theorem dL_law_1725 : decode cL_law 1725 = .ok (.istore 6, 2) := by decide +kernel
theorem dL_law_1727 : decode cL_law 1727 = .ok (.aload_n 2, 1) := by decide +kernel
theorem dL_law_1728 : decode cL_law 1728 = .ok (.invokevirtual 152, 3) := by decide +kernel
theorem dL_law_1731 : decode cL_law 1731 = .ok (.iload 5, 2) := by decide +kernel
theorem dL_law_1733 : decode cL_law 1733 = .ok (.if_icmp .eq 5, 3) := by decide +kernel
theorem dL_law_1736 : decode cL_law 1736 = .ok (.iconst 0, 1) := by decide +kernel
theorem dL_law_1737 : decode cL_law 1737 = .ok (.ireturn, 1) := by decide +kernel
theorem dL_law_1738 : decode cL_law 1738 = .ok (.iload 5, 2) := by decide +kernel
theorem dL_law_1740 : decode cL_law 1740 = .ok (.ifCond .ne 15, 3) := by decide +kernel
theorem dL_law_1743 : decode cL_law 1743 = .ok (.aload_n 3, 1) := by decide +kernel
theorem dL_law_1744 : decode cL_law 1744 = .ok (.iconst 0, 1) := by decide +kernel
theorem dL_law_1745 : decode cL_law 1745 = .ok (.laload, 1) := by decide +kernel
theorem dL_law_1746 : decode cL_law 1746 = .ok (.iload 6, 2) := by decide +kernel
theorem dL_law_1748 : decode cL_law 1748 = .ok (.i2l, 1) := by decide +kernel
theorem dL_law_1749 : decode cL_law 1749 = .ok (.lcmp, 1) := by decide +kernel
theorem dL_law_1750 : decode cL_law 1750 = .ok (.ifCond .eq 5, 3) := by decide +kernel
theorem dL_law_1753 : decode cL_law 1753 = .ok (.iconst 0, 1) := by decide +kernel
theorem dL_law_1754 : decode cL_law 1754 = .ok (.ireturn, 1) := by decide +kernel
theorem dL_law_1755 : decode cL_law 1755 = .ok (.goto 1321, 3) := by decide +kernel
theorem dL_law_1758 : decode cL_law 1758 = .ok (.aload_n 1, 1) := by decide +kernel
theorem dL_law_1759 : decode cL_law 1759 = .ok (.aload_n 0, 1) := by decide +kernel
theorem dL_law_1760 : decode cL_law 1760 = .ok (.iload 4, 2) := by decide +kernel
theorem dL_law_1762 : decode cL_law 1762 = .ok (.iconst 1, 1) := by decide +kernel
theorem dL_law_1763 : decode cL_law 1763 = .ok (.iadd, 1) := by decide +kernel
theorem dL_law_1764 : decode cL_law 1764 = .ok (.iaload, 1) := by decide +kernel
theorem dL_law_1765 : decode cL_law 1765 = .ok (.aload_n 0, 1) := by decide +kernel
theorem dL_law_1766 : decode cL_law 1766 = .ok (.iload 4, 2) := by decide +kernel
theorem dL_law_1768 : decode cL_law 1768 = .ok (.iconst 2, 1) := by decide +kernel
theorem dL_law_1769 : decode cL_law 1769 = .ok (.iadd, 1) := by decide +kernel
theorem dL_law_1770 : decode cL_law 1770 = .ok (.iaload, 1) := by decide +kernel
theorem dL_law_1771 : decode cL_law 1771 = .ok (.aload_n 0, 1) := by decide +kernel
theorem dL_law_1772 : decode cL_law 1772 = .ok (.iload 4, 2) := by decide +kernel
theorem dL_law_1774 : decode cL_law 1774 = .ok (.iconst 3, 1) := by decide +kernel
theorem dL_law_1775 : decode cL_law 1775 = .ok (.iadd, 1) := by decide +kernel
theorem dL_law_1776 : decode cL_law 1776 = .ok (.iaload, 1) := by decide +kernel
theorem dL_law_1777 : decode cL_law 1777 = .ok (.aload_n 0, 1) := by decide +kernel
theorem dL_law_1778 : decode cL_law 1778 = .ok (.iload 4, 2) := by decide +kernel
theorem dL_law_1780 : decode cL_law 1780 = .ok (.iconst 4, 1) := by decide +kernel
theorem dL_law_1781 : decode cL_law 1781 = .ok (.iadd, 1) := by decide +kernel
theorem dL_law_1782 : decode cL_law 1782 = .ok (.iaload, 1) := by decide +kernel
theorem dL_law_1783 : decode cL_law 1783 = .ok (.aload_n 0, 1) := by decide +kernel
theorem dL_law_1784 : decode cL_law 1784 = .ok (.iload 4, 2) := by decide +kernel
theorem dL_law_1786 : decode cL_law 1786 = .ok (.iconst 5, 1) := by decide +kernel
theorem dL_law_1787 : decode cL_law 1787 = .ok (.iadd, 1) := by decide +kernel
theorem dL_law_1788 : decode cL_law 1788 = .ok (.iaload, 1) := by decide +kernel
theorem dL_law_1789 : decode cL_law 1789 = .ok (.aload_n 0, 1) := by decide +kernel
theorem dL_law_1790 : decode cL_law 1790 = .ok (.iload 4, 2) := by decide +kernel
theorem dL_law_1792 : decode cL_law 1792 = .ok (.bipush 6, 2) := by decide +kernel
theorem dL_law_1794 : decode cL_law 1794 = .ok (.iadd, 1) := by decide +kernel
theorem dL_law_1795 : decode cL_law 1795 = .ok (.iaload, 1) := by decide +kernel
theorem dL_law_1796 : decode cL_law 1796 = .ok (.aload_n 3, 1) := by decide +kernel
theorem dL_law_1797 : decode cL_law 1797 = .ok (.invokestatic 222, 3) := by decide +kernel
theorem dL_law_1800 : decode cL_law 1800 = .ok (.istore 5, 2) := by decide +kernel
theorem dL_law_1802 : decode cL_law 1802 = .ok (.aload_n 2, 1) := by decide +kernel
theorem dL_law_1803 : decode cL_law 1803 = .ok (.aload_n 0, 1) := by decide +kernel
theorem dL_law_1804 : decode cL_law 1804 = .ok (.iload 4, 2) := by decide +kernel
theorem dL_law_1806 : decode cL_law 1806 = .ok (.iconst 1, 1) := by decide +kernel
theorem dL_law_1807 : decode cL_law 1807 = .ok (.iadd, 1) := by decide +kernel
theorem dL_law_1808 : decode cL_law 1808 = .ok (.iaload, 1) := by decide +kernel
theorem dL_law_1809 : decode cL_law 1809 = .ok (.aload_n 0, 1) := by decide +kernel
theorem dL_law_1810 : decode cL_law 1810 = .ok (.iload 4, 2) := by decide +kernel
theorem dL_law_1812 : decode cL_law 1812 = .ok (.iconst 2, 1) := by decide +kernel
theorem dL_law_1813 : decode cL_law 1813 = .ok (.iadd, 1) := by decide +kernel
theorem dL_law_1814 : decode cL_law 1814 = .ok (.iaload, 1) := by decide +kernel
theorem dL_law_1815 : decode cL_law 1815 = .ok (.aload_n 0, 1) := by decide +kernel
theorem dL_law_1816 : decode cL_law 1816 = .ok (.iload 4, 2) := by decide +kernel
theorem dL_law_1818 : decode cL_law 1818 = .ok (.iconst 3, 1) := by decide +kernel
theorem dL_law_1819 : decode cL_law 1819 = .ok (.iadd, 1) := by decide +kernel
theorem dL_law_1820 : decode cL_law 1820 = .ok (.iaload, 1) := by decide +kernel
theorem dL_law_1821 : decode cL_law 1821 = .ok (.aload_n 0, 1) := by decide +kernel
theorem dL_law_1822 : decode cL_law 1822 = .ok (.iload 4, 2) := by decide +kernel
theorem dL_law_1824 : decode cL_law 1824 = .ok (.iconst 4, 1) := by decide +kernel
theorem dL_law_1825 : decode cL_law 1825 = .ok (.iadd, 1) := by decide +kernel
theorem dL_law_1826 : decode cL_law 1826 = .ok (.iaload, 1) := by decide +kernel
theorem dL_law_1827 : decode cL_law 1827 = .ok (.aload_n 0, 1) := by decide +kernel
theorem dL_law_1828 : decode cL_law 1828 = .ok (.iload 4, 2) := by decide +kernel
theorem dL_law_1830 : decode cL_law 1830 = .ok (.iconst 5, 1) := by decide +kernel
theorem dL_law_1831 : decode cL_law 1831 = .ok (.iadd, 1) := by decide +kernel
theorem dL_law_1832 : decode cL_law 1832 = .ok (.iaload, 1) := by decide +kernel
theorem dL_law_1833 : decode cL_law 1833 = .ok (.aload_n 0, 1) := by decide +kernel
theorem dL_law_1834 : decode cL_law 1834 = .ok (.iload 4, 2) := by decide +kernel
theorem dL_law_1836 : decode cL_law 1836 = .ok (.bipush 6, 2) := by decide +kernel
theorem dL_law_1838 : decode cL_law 1838 = .ok (.iadd, 1) := by decide +kernel
theorem dL_law_1839 : decode cL_law 1839 = .ok (.iaload, 1) := by decide +kernel
theorem dL_law_1840 : decode cL_law 1840 = .ok (.invokevirtual 225, 3) := by decide +kernel
theorem dL_law_1843 : decode cL_law 1843 = .ok (.istore 6, 2) := by decide +kernel
theorem dL_law_1845 : decode cL_law 1845 = .ok (.aload_n 2, 1) := by decide +kernel
theorem dL_law_1846 : decode cL_law 1846 = .ok (.invokevirtual 152, 3) := by decide +kernel
theorem dL_law_1849 : decode cL_law 1849 = .ok (.iload 5, 2) := by decide +kernel
theorem dL_law_1851 : decode cL_law 1851 = .ok (.if_icmp .eq 5, 3) := by decide +kernel
theorem dL_law_1854 : decode cL_law 1854 = .ok (.iconst 0, 1) := by decide +kernel
theorem dL_law_1855 : decode cL_law 1855 = .ok (.ireturn, 1) := by decide +kernel
theorem dL_law_1856 : decode cL_law 1856 = .ok (.iload 5, 2) := by decide +kernel
theorem dL_law_1858 : decode cL_law 1858 = .ok (.ifCond .ne 15, 3) := by decide +kernel
theorem dL_law_1861 : decode cL_law 1861 = .ok (.aload_n 3, 1) := by decide +kernel
theorem dL_law_1862 : decode cL_law 1862 = .ok (.iconst 0, 1) := by decide +kernel
theorem dL_law_1863 : decode cL_law 1863 = .ok (.laload, 1) := by decide +kernel
theorem dL_law_1864 : decode cL_law 1864 = .ok (.iload 6, 2) := by decide +kernel
theorem dL_law_1866 : decode cL_law 1866 = .ok (.i2l, 1) := by decide +kernel
theorem dL_law_1867 : decode cL_law 1867 = .ok (.lcmp, 1) := by decide +kernel
theorem dL_law_1868 : decode cL_law 1868 = .ok (.ifCond .eq 5, 3) := by decide +kernel
theorem dL_law_1871 : decode cL_law 1871 = .ok (.iconst 0, 1) := by decide +kernel
theorem dL_law_1872 : decode cL_law 1872 = .ok (.ireturn, 1) := by decide +kernel
theorem dL_law_1873 : decode cL_law 1873 = .ok (.goto 1203, 3) := by decide +kernel
theorem dL_law_1876 : decode cL_law 1876 = .ok (.aload_n 1, 1) := by decide +kernel
theorem dL_law_1877 : decode cL_law 1877 = .ok (.aload_n 0, 1) := by decide +kernel
theorem dL_law_1878 : decode cL_law 1878 = .ok (.iload 4, 2) := by decide +kernel
theorem dL_law_1880 : decode cL_law 1880 = .ok (.iconst 1, 1) := by decide +kernel
theorem dL_law_1881 : decode cL_law 1881 = .ok (.iadd, 1) := by decide +kernel
theorem dL_law_1882 : decode cL_law 1882 = .ok (.iaload, 1) := by decide +kernel
theorem dL_law_1883 : decode cL_law 1883 = .ok (.aload_n 0, 1) := by decide +kernel
theorem dL_law_1884 : decode cL_law 1884 = .ok (.iload 4, 2) := by decide +kernel
theorem dL_law_1886 : decode cL_law 1886 = .ok (.iconst 2, 1) := by decide +kernel
theorem dL_law_1887 : decode cL_law 1887 = .ok (.iadd, 1) := by decide +kernel
theorem dL_law_1888 : decode cL_law 1888 = .ok (.iaload, 1) := by decide +kernel
theorem dL_law_1889 : decode cL_law 1889 = .ok (.aload_n 0, 1) := by decide +kernel
theorem dL_law_1890 : decode cL_law 1890 = .ok (.iload 4, 2) := by decide +kernel
theorem dL_law_1892 : decode cL_law 1892 = .ok (.iconst 3, 1) := by decide +kernel
theorem dL_law_1893 : decode cL_law 1893 = .ok (.iadd, 1) := by decide +kernel
theorem dL_law_1894 : decode cL_law 1894 = .ok (.iaload, 1) := by decide +kernel
theorem dL_law_1895 : decode cL_law 1895 = .ok (.aload_n 0, 1) := by decide +kernel
theorem dL_law_1896 : decode cL_law 1896 = .ok (.iload 4, 2) := by decide +kernel
theorem dL_law_1898 : decode cL_law 1898 = .ok (.iconst 4, 1) := by decide +kernel
theorem dL_law_1899 : decode cL_law 1899 = .ok (.iadd, 1) := by decide +kernel
theorem dL_law_1900 : decode cL_law 1900 = .ok (.iaload, 1) := by decide +kernel
theorem dL_law_1901 : decode cL_law 1901 = .ok (.ifCond .eq 7, 3) := by decide +kernel
theorem dL_law_1904 : decode cL_law 1904 = .ok (.iconst 1, 1) := by decide +kernel
theorem dL_law_1905 : decode cL_law 1905 = .ok (.goto 4, 3) := by decide +kernel
theorem dL_law_1908 : decode cL_law 1908 = .ok (.iconst 0, 1) := by decide +kernel
theorem dL_law_1909 : decode cL_law 1909 = .ok (.aload_n 3, 1) := by decide +kernel
theorem dL_law_1910 : decode cL_law 1910 = .ok (.invokestatic 226, 3) := by decide +kernel
theorem dL_law_1913 : decode cL_law 1913 = .ok (.istore 5, 2) := by decide +kernel
theorem dL_law_1915 : decode cL_law 1915 = .ok (.aload_n 2, 1) := by decide +kernel
theorem dL_law_1916 : decode cL_law 1916 = .ok (.aload_n 0, 1) := by decide +kernel
theorem dL_law_1917 : decode cL_law 1917 = .ok (.iload 4, 2) := by decide +kernel
theorem dL_law_1919 : decode cL_law 1919 = .ok (.iconst 1, 1) := by decide +kernel
theorem dL_law_1920 : decode cL_law 1920 = .ok (.iadd, 1) := by decide +kernel
theorem dL_law_1921 : decode cL_law 1921 = .ok (.iaload, 1) := by decide +kernel
theorem dL_law_1922 : decode cL_law 1922 = .ok (.aload_n 0, 1) := by decide +kernel
theorem dL_law_1923 : decode cL_law 1923 = .ok (.iload 4, 2) := by decide +kernel
theorem dL_law_1925 : decode cL_law 1925 = .ok (.iconst 2, 1) := by decide +kernel
theorem dL_law_1926 : decode cL_law 1926 = .ok (.iadd, 1) := by decide +kernel
theorem dL_law_1927 : decode cL_law 1927 = .ok (.iaload, 1) := by decide +kernel
theorem dL_law_1928 : decode cL_law 1928 = .ok (.aload_n 0, 1) := by decide +kernel
theorem dL_law_1929 : decode cL_law 1929 = .ok (.iload 4, 2) := by decide +kernel
theorem dL_law_1931 : decode cL_law 1931 = .ok (.iconst 3, 1) := by decide +kernel
theorem dL_law_1932 : decode cL_law 1932 = .ok (.iadd, 1) := by decide +kernel
theorem dL_law_1933 : decode cL_law 1933 = .ok (.iaload, 1) := by decide +kernel
theorem dL_law_1934 : decode cL_law 1934 = .ok (.aload_n 0, 1) := by decide +kernel
theorem dL_law_1935 : decode cL_law 1935 = .ok (.iload 4, 2) := by decide +kernel
theorem dL_law_1937 : decode cL_law 1937 = .ok (.iconst 4, 1) := by decide +kernel
theorem dL_law_1938 : decode cL_law 1938 = .ok (.iadd, 1) := by decide +kernel
theorem dL_law_1939 : decode cL_law 1939 = .ok (.iaload, 1) := by decide +kernel
theorem dL_law_1940 : decode cL_law 1940 = .ok (.ifCond .eq 7, 3) := by decide +kernel
theorem dL_law_1943 : decode cL_law 1943 = .ok (.iconst 1, 1) := by decide +kernel
theorem dL_law_1944 : decode cL_law 1944 = .ok (.goto 4, 3) := by decide +kernel
theorem dL_law_1947 : decode cL_law 1947 = .ok (.iconst 0, 1) := by decide +kernel
theorem dL_law_1948 : decode cL_law 1948 = .ok (.invokevirtual 229, 3) := by decide +kernel
theorem dL_law_1951 : decode cL_law 1951 = .ok (.istore 6, 2) := by decide +kernel
theorem dL_law_1953 : decode cL_law 1953 = .ok (.aload_n 2, 1) := by decide +kernel
theorem dL_law_1954 : decode cL_law 1954 = .ok (.invokevirtual 152, 3) := by decide +kernel
theorem dL_law_1957 : decode cL_law 1957 = .ok (.iload 5, 2) := by decide +kernel
theorem dL_law_1959 : decode cL_law 1959 = .ok (.if_icmp .eq 5, 3) := by decide +kernel
theorem dL_law_1962 : decode cL_law 1962 = .ok (.iconst 0, 1) := by decide +kernel
theorem dL_law_1963 : decode cL_law 1963 = .ok (.ireturn, 1) := by decide +kernel
theorem dL_law_1964 : decode cL_law 1964 = .ok (.iload 5, 2) := by decide +kernel
theorem dL_law_1966 : decode cL_law 1966 = .ok (.ifCond .ne 15, 3) := by decide +kernel
theorem dL_law_1969 : decode cL_law 1969 = .ok (.aload_n 3, 1) := by decide +kernel
theorem dL_law_1970 : decode cL_law 1970 = .ok (.iconst 0, 1) := by decide +kernel
theorem dL_law_1971 : decode cL_law 1971 = .ok (.laload, 1) := by decide +kernel
theorem dL_law_1972 : decode cL_law 1972 = .ok (.iload 6, 2) := by decide +kernel
theorem dL_law_1974 : decode cL_law 1974 = .ok (.i2l, 1) := by decide +kernel
theorem dL_law_1975 : decode cL_law 1975 = .ok (.lcmp, 1) := by decide +kernel
theorem dL_law_1976 : decode cL_law 1976 = .ok (.ifCond .eq 5, 3) := by decide +kernel
theorem dL_law_1979 : decode cL_law 1979 = .ok (.iconst 0, 1) := by decide +kernel
theorem dL_law_1980 : decode cL_law 1980 = .ok (.ireturn, 1) := by decide +kernel
theorem dL_law_1981 : decode cL_law 1981 = .ok (.goto 1095, 3) := by decide +kernel
theorem dL_law_1984 : decode cL_law 1984 = .ok (.aload_n 1, 1) := by decide +kernel
theorem dL_law_1985 : decode cL_law 1985 = .ok (.aload_n 0, 1) := by decide +kernel
theorem dL_law_1986 : decode cL_law 1986 = .ok (.iload 4, 2) := by decide +kernel
theorem dL_law_1988 : decode cL_law 1988 = .ok (.iconst 1, 1) := by decide +kernel
theorem dL_law_1989 : decode cL_law 1989 = .ok (.iadd, 1) := by decide +kernel
theorem dL_law_1990 : decode cL_law 1990 = .ok (.iaload, 1) := by decide +kernel
theorem dL_law_1991 : decode cL_law 1991 = .ok (.aload_n 3, 1) := by decide +kernel
theorem dL_law_1992 : decode cL_law 1992 = .ok (.invokestatic 230, 3) := by decide +kernel
theorem dL_law_1995 : decode cL_law 1995 = .ok (.istore 5, 2) := by decide +kernel
theorem dL_law_1997 : decode cL_law 1997 = .ok (.aload_n 2, 1) := by decide +kernel
theorem dL_law_1998 : decode cL_law 1998 = .ok (.aload_n 0, 1) := by decide +kernel
theorem dL_law_1999 : decode cL_law 1999 = .ok (.iload 4, 2) := by decide +kernel
theorem dL_law_2001 : decode cL_law 2001 = .ok (.iconst 1, 1) := by decide +kernel
theorem dL_law_2002 : decode cL_law 2002 = .ok (.iadd, 1) := by decide +kernel
theorem dL_law_2003 : decode cL_law 2003 = .ok (.iaload, 1) := by decide +kernel
theorem dL_law_2004 : decode cL_law 2004 = .ok (.invokevirtual 232, 3) := by decide +kernel
theorem dL_law_2007 : decode cL_law 2007 = .ok (.istore 6, 2) := by decide +kernel
theorem dL_law_2009 : decode cL_law 2009 = .ok (.aload_n 2, 1) := by decide +kernel
theorem dL_law_2010 : decode cL_law 2010 = .ok (.invokevirtual 152, 3) := by decide +kernel
theorem dL_law_2013 : decode cL_law 2013 = .ok (.iload 5, 2) := by decide +kernel
theorem dL_law_2015 : decode cL_law 2015 = .ok (.if_icmp .eq 5, 3) := by decide +kernel
theorem dL_law_2018 : decode cL_law 2018 = .ok (.iconst 0, 1) := by decide +kernel
theorem dL_law_2019 : decode cL_law 2019 = .ok (.ireturn, 1) := by decide +kernel
theorem dL_law_2020 : decode cL_law 2020 = .ok (.iload 5, 2) := by decide +kernel
theorem dL_law_2022 : decode cL_law 2022 = .ok (.ifCond .ne 15, 3) := by decide +kernel
theorem dL_law_2025 : decode cL_law 2025 = .ok (.aload_n 3, 1) := by decide +kernel
theorem dL_law_2026 : decode cL_law 2026 = .ok (.iconst 0, 1) := by decide +kernel
theorem dL_law_2027 : decode cL_law 2027 = .ok (.laload, 1) := by decide +kernel
theorem dL_law_2028 : decode cL_law 2028 = .ok (.iload 6, 2) := by decide +kernel
theorem dL_law_2030 : decode cL_law 2030 = .ok (.i2l, 1) := by decide +kernel
theorem dL_law_2031 : decode cL_law 2031 = .ok (.lcmp, 1) := by decide +kernel
theorem dL_law_2032 : decode cL_law 2032 = .ok (.ifCond .eq 5, 3) := by decide +kernel
theorem dL_law_2035 : decode cL_law 2035 = .ok (.iconst 0, 1) := by decide +kernel
theorem dL_law_2036 : decode cL_law 2036 = .ok (.ireturn, 1) := by decide +kernel
theorem dL_law_2037 : decode cL_law 2037 = .ok (.goto 1039, 3) := by decide +kernel
theorem dL_law_2040 : decode cL_law 2040 = .ok (.aload_n 1, 1) := by decide +kernel
theorem dL_law_2041 : decode cL_law 2041 = .ok (.aload_n 0, 1) := by decide +kernel
theorem dL_law_2042 : decode cL_law 2042 = .ok (.iload 4, 2) := by decide +kernel
theorem dL_law_2044 : decode cL_law 2044 = .ok (.iconst 1, 1) := by decide +kernel
theorem dL_law_2045 : decode cL_law 2045 = .ok (.iadd, 1) := by decide +kernel
theorem dL_law_2046 : decode cL_law 2046 = .ok (.iaload, 1) := by decide +kernel
theorem dL_law_2047 : decode cL_law 2047 = .ok (.aload_n 0, 1) := by decide +kernel
theorem dL_law_2048 : decode cL_law 2048 = .ok (.iload 4, 2) := by decide +kernel
theorem dL_law_2050 : decode cL_law 2050 = .ok (.iconst 2, 1) := by decide +kernel
theorem dL_law_2051 : decode cL_law 2051 = .ok (.iadd, 1) := by decide +kernel
theorem dL_law_2052 : decode cL_law 2052 = .ok (.iaload, 1) := by decide +kernel
theorem dL_law_2053 : decode cL_law 2053 = .ok (.aload_n 0, 1) := by decide +kernel
theorem dL_law_2054 : decode cL_law 2054 = .ok (.iload 4, 2) := by decide +kernel
theorem dL_law_2056 : decode cL_law 2056 = .ok (.iconst 3, 1) := by decide +kernel
theorem dL_law_2057 : decode cL_law 2057 = .ok (.iadd, 1) := by decide +kernel
theorem dL_law_2058 : decode cL_law 2058 = .ok (.iaload, 1) := by decide +kernel
theorem dL_law_2059 : decode cL_law 2059 = .ok (.aload_n 0, 1) := by decide +kernel
theorem dL_law_2060 : decode cL_law 2060 = .ok (.iload 4, 2) := by decide +kernel
theorem dL_law_2062 : decode cL_law 2062 = .ok (.iconst 4, 1) := by decide +kernel
theorem dL_law_2063 : decode cL_law 2063 = .ok (.iadd, 1) := by decide +kernel
theorem dL_law_2064 : decode cL_law 2064 = .ok (.iaload, 1) := by decide +kernel
theorem dL_law_2065 : decode cL_law 2065 = .ok (.aload_n 3, 1) := by decide +kernel
theorem dL_law_2066 : decode cL_law 2066 = .ok (.invokestatic 233, 3) := by decide +kernel
theorem dL_law_2069 : decode cL_law 2069 = .ok (.istore 5, 2) := by decide +kernel
theorem dL_law_2071 : decode cL_law 2071 = .ok (.aload_n 2, 1) := by decide +kernel
theorem dL_law_2072 : decode cL_law 2072 = .ok (.aload_n 0, 1) := by decide +kernel
theorem dL_law_2073 : decode cL_law 2073 = .ok (.iload 4, 2) := by decide +kernel
theorem dL_law_2075 : decode cL_law 2075 = .ok (.iconst 1, 1) := by decide +kernel
theorem dL_law_2076 : decode cL_law 2076 = .ok (.iadd, 1) := by decide +kernel
theorem dL_law_2077 : decode cL_law 2077 = .ok (.iaload, 1) := by decide +kernel
theorem dL_law_2078 : decode cL_law 2078 = .ok (.aload_n 0, 1) := by decide +kernel
theorem dL_law_2079 : decode cL_law 2079 = .ok (.iload 4, 2) := by decide +kernel
theorem dL_law_2081 : decode cL_law 2081 = .ok (.iconst 2, 1) := by decide +kernel
theorem dL_law_2082 : decode cL_law 2082 = .ok (.iadd, 1) := by decide +kernel
theorem dL_law_2083 : decode cL_law 2083 = .ok (.iaload, 1) := by decide +kernel
theorem dL_law_2084 : decode cL_law 2084 = .ok (.aload_n 0, 1) := by decide +kernel
theorem dL_law_2085 : decode cL_law 2085 = .ok (.iload 4, 2) := by decide +kernel
theorem dL_law_2087 : decode cL_law 2087 = .ok (.iconst 3, 1) := by decide +kernel
theorem dL_law_2088 : decode cL_law 2088 = .ok (.iadd, 1) := by decide +kernel
theorem dL_law_2089 : decode cL_law 2089 = .ok (.iaload, 1) := by decide +kernel
theorem dL_law_2090 : decode cL_law 2090 = .ok (.aload_n 0, 1) := by decide +kernel
theorem dL_law_2091 : decode cL_law 2091 = .ok (.iload 4, 2) := by decide +kernel
theorem dL_law_2093 : decode cL_law 2093 = .ok (.iconst 4, 1) := by decide +kernel
theorem dL_law_2094 : decode cL_law 2094 = .ok (.iadd, 1) := by decide +kernel
theorem dL_law_2095 : decode cL_law 2095 = .ok (.iaload, 1) := by decide +kernel
theorem dL_law_2096 : decode cL_law 2096 = .ok (.invokevirtual 235, 3) := by decide +kernel
theorem dL_law_2099 : decode cL_law 2099 = .ok (.istore 6, 2) := by decide +kernel
theorem dL_law_2101 : decode cL_law 2101 = .ok (.aload_n 2, 1) := by decide +kernel
theorem dL_law_2102 : decode cL_law 2102 = .ok (.invokevirtual 152, 3) := by decide +kernel
theorem dL_law_2105 : decode cL_law 2105 = .ok (.iload 5, 2) := by decide +kernel
theorem dL_law_2107 : decode cL_law 2107 = .ok (.if_icmp .eq 5, 3) := by decide +kernel
theorem dL_law_2110 : decode cL_law 2110 = .ok (.iconst 0, 1) := by decide +kernel
